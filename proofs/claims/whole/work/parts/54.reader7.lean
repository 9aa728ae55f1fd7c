/-! Reader.readAuto -/
def t_ln (τ : sS) : Nat := (vI τ 1 6).toNatClampNeg
theorem tok.ln {e : Nat} {σ : sS} (h : tok e σ) (he : e ≤ 400) : vI (t_st e σ) 1 6 = nI (t_ln (t_st e σ)) ∧ t_ln (t_st e σ) ≤ 400 := by
  obtain ⟨ln, h1, h2⟩ := (h.st he).2
  have e1 : t_ln (t_st e σ) = ln := by
    unfold t_ln
    rw [h2, nI_clamp (by omega)]
  rw [e1]
  exact ⟨h2, h1⟩
def d_u3 (e a : Nat) (τ : sS) : Int32 × sS := if t_sp τ 2 = 0 then (0, t_blame τ 1 (vI τ 1 5)) else if (t_wa (t_st e τ) 1 4) = -1 then (0, (t_wz (t_st e τ) 1 4)) else (1, uI (a_ly (t_wz (t_st e τ) 1 4) a (t_wa (t_st e τ) 1 4) (vI (t_wz (t_st e τ) 1 4) 3 7)) 3 6 (vI (a_ly (t_wz (t_st e τ) 1 4) a (t_wa (t_st e τ) 1 4) (vI (t_wz (t_st e τ) 1 4) 3 7)) 3 6 + 1))
def d_u2 (e M : Nat) (τ : sS) : Int32 × sS := if d_ra τ M (t_ln τ) = 0 then (0, d_rs τ M (t_ln τ)) else d_u3 e (9 + M) (t_st e (d_rs τ M (t_ln τ)))
def d_ua (e M : Nat) (σ : sS) (w : Int32) : Int32 × sS := if vI σ 3 7 = 0 then (0, t_blame σ 5 w) else if vI σ 3 6 < 3 then d_u2 e M (t_st e σ) else (0, t_blame σ 4 w)
theorem c_X5_readAuto {ad : Nat → Nat} {e : Nat} (he : e ≤ 400) (σ : sS) (h : tok e σ) {M : Nat} (hM : vI σ 3 6 = nI M) (hM3 : M ≤ 3) (w : Int32) : ab_X (sR ad) 8 mX5_readAuto [.ref (ad 3), .int w] σ (some (.int (d_ua e M σ w).1)) (d_ua e M σ w).2 := by
  refine ab_X.of (by decide) (Nat.le_of_ble_eq_true rfl) ?_
  refine r_aload_n dX5_readAuto_0 0 rfl ?_
  refine s_getI ok_X5 dX5_readAuto_1 (k := 7) (by decide) fl_X5_44 rfl rfl ?_
  refine r_if_ne (t := 17) dX5_readAuto_4 (by decide) (fun c1 => ?_) (fun c1 => ?_)
  · have c1 : ¬ ((vI σ 3 7) = 0) := c1
    refine r_aload_n dX5_readAuto_17 0 rfl ?_
    refine s_getI ok_X5 dX5_readAuto_18 (k := 6) (by decide) fl_X5_40 rfl rfl ?_
    refine r_iconst (v := 3) dX5_readAuto_21 (by decide) ?_
    refine r_icmp_lt (t := 35) dX5_readAuto_22 (by decide) (fun c2 => ?_) (fun c2 => ?_)
    · have c2 : (vI σ 3 6) < 3 := c2
      have hM2 : M < 3 := by rw [hM] at c2; exact (nI_ltI (b := 3) (by omega) (by decide)).mp c2
      refine r_aload_n dX5_readAuto_35 0 rfl ?_
      refine x_callV (Y := mX5_readName) (d' := 7) dX5_readAuto_36 ml_X5_98 yv_X5_readName (by omega) rfl rfl (by simp [Value.category]) (sR_is rfl rfl) (c_X5_readName σ h.1 he (h.p he).1 (h.p he).2 (h.ln he).1 (h.ln he).2 ((congrFun (t_st_n (e := e) (b := 3) (by decide)) 6).trans hM) (Nat.le_of_lt hM2)) ?_
      refine r_if_ne (t := 44) dX5_readAuto_39 (by decide) (fun c3 => ?_) (fun c3 => ?_)
      · have c3 : ¬ ((d_ra (t_st e σ) M (t_ln (t_st e σ))) = 0) := c3
        refine r_aload_n dX5_readAuto_44 0 rfl ?_
        refine s_getR (b := 1) ok_X5 dX5_readAuto_45 (k := 0) (by decide) fl_X5_35 rfl rfl rfl ?_
        refine x_callV0 (Y := mX9_step) (d' := 3) dX5_readAuto_48 ml_X5_53 yv_X9_step (by omega) rfl rfl (by simp [Value.category]) (sR_is rfl rfl) (c_st he (d_rs (t_st e σ) M (t_ln (t_st e σ))) (h.st he).1.rs) ?_
        have ht := ((h.st he).1.rs (M := M) (ln := t_ln (t_st e σ)) |>.st he).1
        have hMt : vI (t_st e (d_rs (t_st e σ) M (t_ln (t_st e σ)))) 3 6 = nI M := (congrFun (t_st_n (by decide)) 6).trans ((congrFun (d_rs_n (by decide) (by decide) (by decide)) 6).trans ((congrFun (t_st_n (e := e) (b := 3) (by decide)) 6).trans hM))
        unfold d_ua d_u2
        rw [if_neg c1, if_pos c2, if_neg c3]
        generalize t_st e (d_rs (t_st e σ) M (t_ln (t_st e σ))) = τ at ht hMt ⊢
        refine r_aload_n dX5_readAuto_51 0 rfl ?_
        refine s_getR (b := 1) ok_X5 dX5_readAuto_52 (k := 0) (by decide) fl_X5_35 rfl rfl rfl ?_
        refine s_ldcS dX5_readAuto_55 sm_X5_101 ?_
        refine x_callV (Y := mX9_spells) (d' := 5) dX5_readAuto_57 ml_X5_68 yv_X9_spells (by omega) rfl rfl (by simp [Value.category]) (sR_is rfl rfl) (c_X9_spells τ (i := 2) (by decide)) ?_
        refine r_if_ne (t := 79) dX5_readAuto_60 (by decide) (fun c4 => ?_) (fun c4 => ?_)
        · have c4 : ¬ ((t_sp τ 2) = 0) := c4
          refine r_aload_n dX5_readAuto_79 0 rfl ?_
          refine s_getR (b := 1) ok_X5 dX5_readAuto_80 (k := 0) (by decide) fl_X5_35 rfl rfl rfl ?_
          refine r_iconst (v := 1) dX5_readAuto_83 (by decide) ?_
          refine r_iconst (v := 4) dX5_readAuto_84 (by decide) ?_
          refine x_callV (Y := mX9_whole) (d' := 4) dX5_readAuto_85 ml_X5_94 yv_X9_whole (by omega) rfl rfl (by simp [Value.category]) (sR_is rfl rfl) (c_wh he τ ht 1 4) ?_
          refine r_istore_n (lo' := [(2, .int (t_wa (t_st e τ) 1 4)), (0, .ref (ad 3)), (1, .int w)]) dX5_readAuto_88 (by decide) rfl ?_
          refine r_iload_n dX5_readAuto_89 0 rfl ?_
          refine r_iconst (v := (-1)) dX5_readAuto_90 (by decide) ?_
          refine r_icmp_ne (t := 96) dX5_readAuto_91 (by decide) (fun c5 => ?_) (fun c5 => ?_)
          · have c5 : ¬ ((t_wa (t_st e τ) 1 4) = ((-1))) := c5
            refine r_aload_n dX5_readAuto_96 1 rfl ?_
            refine s_getR (b := 8) ok_X5 dX5_readAuto_97 (k := 3) (by decide) fl_X5_25 rfl rfl rfl ?_
            refine r_aload_n dX5_readAuto_100 1 rfl ?_
            refine s_getI ok_X5 dX5_readAuto_101 (k := 6) (by decide) fl_X5_40 rfl rfl ?_
            rw [show vI (t_wz (t_st e τ) 1 4) 3 6 = nI M from (congrFun (t_wz_n (by decide)) 6).trans ((congrFun (t_st_n (by decide)) 6).trans hMt)]
            refine s_aald5 (b := 9 + M) dX5_readAuto_104 rfl (vp_in_nI hM2 (by decide)) (dr_at M hM2) ?_
            refine r_iload_n dX5_readAuto_105 0 rfl ?_
            refine r_aload_n dX5_readAuto_106 1 rfl ?_
            refine s_getI ok_X5 dX5_readAuto_107 (k := 7) (by decide) fl_X5_44 rfl rfl ?_
            refine x_callV0 (Y := mX0_lay) (d' := 4) dX5_readAuto_110 ml_X5_103 yv_X0_lay (by omega) rfl rfl (by simp [Value.category]) (sR_is (dr_la M hM2) rfl) (c_X0_lay (t_wz (t_st e τ) 1 4) (dr_la M hM2) (t_wa (t_st e τ) 1 4) (vI (t_wz (t_st e τ) 1 4) 3 7)) ?_
            refine r_aload_n dX5_readAuto_113 1 rfl ?_
            refine r_dup dX5_readAuto_114 rfl ?_
            refine s_getI ok_X5 dX5_readAuto_115 (k := 6) (by decide) fl_X5_40 rfl rfl ?_
            refine r_iconst (v := 1) dX5_readAuto_118 (by decide) ?_
            refine r_iadd dX5_readAuto_119 ?_
            refine s_putI ok_X5 dX5_readAuto_120 (k := 6) (by decide) fl_X5_40 rfl rfl rfl rfl rfl ?_
            refine r_iconst (v := 1) dX5_readAuto_123 (by decide) ?_
            refine r_zret rfl (by decide) dX5_readAuto_124 ?_
            unfold d_u3; rw [if_neg c4, if_neg c5]; exact ⟨rfl, rfl⟩
          · have c5 : (t_wa (t_st e τ) 1 4) = ((-1)) := c5
            refine r_iconst (v := 0) dX5_readAuto_94 (by decide) ?_
            refine r_zret rfl (by decide) dX5_readAuto_95 ?_
            unfold d_u3; rw [if_neg c4, if_pos c5]; exact ⟨rfl, rfl⟩
        · have c4 : (t_sp τ 2) = 0 := c4
          refine r_aload_n dX5_readAuto_63 0 rfl ?_
          refine s_getR (b := 1) ok_X5 dX5_readAuto_64 (k := 0) (by decide) fl_X5_35 rfl rfl rfl ?_
          refine r_iconst (v := 1) dX5_readAuto_67 (by decide) ?_
          refine r_aload_n dX5_readAuto_68 0 rfl ?_
          refine s_getR (b := 1) ok_X5 dX5_readAuto_69 (k := 0) (by decide) fl_X5_35 rfl rfl rfl ?_
          refine s_getI ok_X9 dX5_readAuto_72 (k := 5) (by decide) fl_X5_59 rfl rfl ?_
          refine x_callV (Y := mX9_blame) (d' := 1) dX5_readAuto_75 ml_X5_62 yv_X9_blame (by omega) rfl rfl (by simp [Value.category]) (sR_is rfl rfl) (c_X9_blame τ 1 (vI τ 1 5)) ?_
          refine r_zret rfl (by decide) dX5_readAuto_78 ?_
          unfold d_u3; rw [if_pos c4]; exact ⟨rfl, rfl⟩
      · have c3 : (d_ra (t_st e σ) M (t_ln (t_st e σ))) = 0 := c3
        refine r_iconst (v := 0) dX5_readAuto_42 (by decide) ?_
        refine r_zret rfl (by decide) dX5_readAuto_43 ?_
        unfold d_ua d_u2; rw [if_neg c1, if_pos c2, if_pos c3]; exact ⟨rfl, rfl⟩
    · have c2 : ¬ ((vI σ 3 6) < 3) := c2
      refine r_aload_n dX5_readAuto_25 0 rfl ?_
      refine s_getR (b := 1) ok_X5 dX5_readAuto_26 (k := 0) (by decide) fl_X5_35 rfl rfl rfl ?_
      refine r_iconst (v := 4) dX5_readAuto_29 (by decide) ?_
      refine r_iload_n dX5_readAuto_30 1 rfl ?_
      refine x_callV (Y := mX9_blame) (d' := 1) dX5_readAuto_31 ml_X5_62 yv_X9_blame (by omega) rfl rfl (by simp [Value.category]) (sR_is rfl rfl) (c_X9_blame σ 4 w) ?_
      refine r_zret rfl (by decide) dX5_readAuto_34 ?_
      unfold d_ua; rw [if_neg c1, if_neg c2]; exact ⟨rfl, rfl⟩
  · have c1 : (vI σ 3 7) = 0 := c1
    refine r_aload_n dX5_readAuto_7 0 rfl ?_
    refine s_getR (b := 1) ok_X5 dX5_readAuto_8 (k := 0) (by decide) fl_X5_35 rfl rfl rfl ?_
    refine r_iconst (v := 5) dX5_readAuto_11 (by decide) ?_
    refine r_iload_n dX5_readAuto_12 1 rfl ?_
    refine x_callV (Y := mX9_blame) (d' := 1) dX5_readAuto_13 ml_X5_62 yv_X9_blame (by omega) rfl rfl (by simp [Value.category]) (sR_is rfl rfl) (c_X9_blame σ 5 w) ?_
    refine r_zret rfl (by decide) dX5_readAuto_16 ?_
    unfold d_ua; rw [if_pos c1]; exact ⟨rfl, rfl⟩
