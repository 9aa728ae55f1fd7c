/-! Reader.readArrow -/
def d_rk (e a : Nat) (τ : sS) (n w : Int32) : Int32 × sS := if vI τ 1 4 = 2 then (if vI τ 1 6 = 1 then (if (t_by τ (vI τ 1 5) - 97) < vI τ 3 7 then (if (t_wa (t_st e τ) 0 (vI τ a 1 - 1)) = -1 then (0, (t_wz (t_st e τ) 0 (vI τ a 1 - 1))) else if a_jn (t_wz (t_st e τ) 0 (vI τ a 1 - 1)) a n (t_by τ (vI τ 1 5) - 97) (t_wa (t_st e τ) 0 (vI τ a 1 - 1)) = 0 then (1, a_sa (t_wz (t_st e τ) 0 (vI τ a 1 - 1)) a n (t_by τ (vI τ 1 5) - 97) (t_wa (t_st e τ) 0 (vI τ a 1 - 1)) 1) else (0, t_blame (t_wz (t_st e τ) 0 (vI τ a 1 - 1)) 3 w)) else (0, t_blame τ 1 (vI τ 1 5))) else (0, t_blame τ 1 (vI τ 1 5))) else (0, t_blame τ 1 (vI τ 1 5))
def d_rw (e a : Nat) (σ : sS) (w : Int32) : Int32 × sS := if t_wa (t_st e σ) 0 (vI σ a 1 - 1) = -1 then (0, t_wz (t_st e σ) 0 (vI σ a 1 - 1)) else d_rk e a (t_st e (t_wz (t_st e σ) 0 (vI σ a 1 - 1))) (t_wa (t_st e σ) 0 (vI σ a 1 - 1)) w
theorem c_X5_readArrow {ad : Nat → Nat} {e : Nat} (he : e ≤ 400) (σ : sS) (h : tok e σ) {M : Nat} (hM : vI σ 3 6 = nI (M + 1)) (hM3 : M < 3) (w : Int32) : ab_X (sR ad) 5 mX5_readArrow [.ref (ad 3), .int w] σ (some (.int (d_rw e (9 + M) σ w).1)) (d_rw e (9 + M) σ w).2 := by
  refine ab_X.of (by decide) (Nat.le_of_ble_eq_true rfl) ?_
  refine r_aload_n dX5_readArrow_0 0 rfl ?_
  refine x_callV (Y := mX5_latest) (d' := 1) dX5_readArrow_1 ml_X5_126 yv_X5_latest (by omega) rfl rfl (by simp [Value.category]) (sR_is rfl rfl) (c_X5_latest σ hM hM3) ?_
  refine r_astore_n (lo' := [(2, .ref (ad (9 + M))), (0, .ref (ad 3)), (1, .int w)]) dX5_readArrow_4 (by decide) rfl ?_
  refine r_aload_n dX5_readArrow_5 0 rfl ?_
  refine r_ifnonnull (t := 19) dX5_readArrow_6 (by decide) ?_
  refine r_aload_n dX5_readArrow_19 1 rfl ?_
  refine s_getR (b := 1) ok_X5 dX5_readArrow_20 (k := 0) (by decide) fl_X5_35 rfl rfl rfl ?_
  refine r_iconst (v := 0) dX5_readArrow_23 (by decide) ?_
  refine r_aload_n dX5_readArrow_24 0 rfl ?_
  refine s_getI ok_X0 dX5_readArrow_25 (k := 1) (by decide) fl_X5_130 (dr_la M hM3) rfl ?_
  refine r_iconst (v := 1) dX5_readArrow_28 (by decide) ?_
  refine r_isub dX5_readArrow_29 ?_
  refine x_callV (Y := mX9_whole) (d' := 4) dX5_readArrow_30 ml_X5_94 yv_X9_whole (by omega) rfl rfl (by simp [Value.category]) (sR_is rfl rfl) (c_wh he σ h 0 ((vI σ (9 + M) 1) - 1)) ?_
  refine r_istore_n (lo' := [(3, .int (t_wa (t_st e σ) 0 ((vI σ (9 + M) 1) - 1))), (2, .ref (ad (9 + M))), (0, .ref (ad 3)), (1, .int w)]) dX5_readArrow_33 (by decide) rfl ?_
  refine r_iload_n dX5_readArrow_34 0 rfl ?_
  refine r_iconst (v := (-1)) dX5_readArrow_35 (by decide) ?_
  refine r_icmp_ne (t := 41) dX5_readArrow_36 (by decide) (fun c1 => ?_) (fun c1 => ?_)
  · have c1 : ¬ ((t_wa (t_st e σ) 0 ((vI σ (9 + M) 1) - 1)) = ((-1))) := c1
    refine r_aload_n dX5_readArrow_41 2 rfl ?_
    refine s_getR (b := 1) ok_X5 dX5_readArrow_42 (k := 0) (by decide) fl_X5_35 rfl rfl rfl ?_
    refine x_callV0 (Y := mX9_step) (d' := 3) dX5_readArrow_45 ml_X5_53 yv_X9_step (by omega) rfl rfl (by simp [Value.category]) (sR_is rfl rfl) (c_st he (t_wz (t_st e σ) 0 ((vI σ (9 + M) 1) - 1)) ((h.st he).1.wz)) ?_
    have ht := (((h.st he).1.wz (l := 0) (m := vI σ (9 + M) 1 - 1)).st he).1
    unfold d_rw
    rw [if_neg c1]
    generalize t_st e (t_wz (t_st e σ) 0 (vI σ (9 + M) 1 - 1)) = τ at ht ⊢
    generalize t_wa (t_st e σ) 0 (vI σ (9 + M) 1 - 1) = n
    refine r_aload_n dX5_readArrow_48 2 rfl ?_
    refine s_getR (b := 1) ok_X5 dX5_readArrow_49 (k := 0) (by decide) fl_X5_35 rfl rfl rfl ?_
    refine r_aload_n dX5_readArrow_52 2 rfl ?_
    refine s_getR (b := 1) ok_X5 dX5_readArrow_53 (k := 0) (by decide) fl_X5_35 rfl rfl rfl ?_
    refine s_getI ok_X9 dX5_readArrow_56 (k := 5) (by decide) fl_X5_59 rfl rfl ?_
    refine x_callV (Y := mX9_byteAt) (d' := 2) dX5_readArrow_59 ml_X5_123 yv_X9_byteAt (by omega) rfl rfl (by simp [Value.category]) (sR_is rfl rfl) (c_X9_byteAt τ (vI τ 1 5)) ?_
    refine r_bipush (v := 97) dX5_readArrow_62 (by decide) ?_
    refine r_isub dX5_readArrow_64 ?_
    refine r_istore (lo' := [(4, .int ((t_by τ (vI τ 1 5)) - 97)), (3, .int n), (2, .ref (ad (9 + M))), (0, .ref (ad 3)), (1, .int w)]) dX5_readArrow_65 (by decide) rfl ?_
    refine r_aload_n dX5_readArrow_67 3 rfl ?_
    refine s_getR (b := 1) ok_X5 dX5_readArrow_68 (k := 0) (by decide) fl_X5_35 rfl rfl rfl ?_
    refine s_getI ok_X9 dX5_readArrow_71 (k := 4) (by decide) fl_X5_56 rfl rfl ?_
    refine r_iconst (v := 2) dX5_readArrow_74 (by decide) ?_
    refine r_icmp_ne (t := 98) dX5_readArrow_75 (by decide) (fun c2 => ?_) (fun c2 => ?_)
    · have c2 : ¬ ((vI τ 1 4) = 2) := c2
      refine r_aload_n dX5_readArrow_98 3 rfl ?_
      refine s_getR (b := 1) ok_X5 dX5_readArrow_99 (k := 0) (by decide) fl_X5_35 rfl rfl rfl ?_
      refine r_iconst (v := 1) dX5_readArrow_102 (by decide) ?_
      refine r_aload_n dX5_readArrow_103 3 rfl ?_
      refine s_getR (b := 1) ok_X5 dX5_readArrow_104 (k := 0) (by decide) fl_X5_35 rfl rfl rfl ?_
      refine s_getI ok_X9 dX5_readArrow_107 (k := 5) (by decide) fl_X5_59 rfl rfl ?_
      refine x_callV (Y := mX9_blame) (d' := 1) dX5_readArrow_110 ml_X5_62 yv_X9_blame (by omega) rfl rfl (by simp [Value.category]) (sR_is rfl rfl) (c_X9_blame τ 1 (vI τ 1 5)) ?_
      refine r_zret rfl (by decide) dX5_readArrow_113 ?_
      unfold d_rk; rw [if_neg c2]; exact ⟨rfl, rfl⟩
    · have c2 : (vI τ 1 4) = 2 := c2
      refine r_aload_n dX5_readArrow_78 3 rfl ?_
      refine s_getR (b := 1) ok_X5 dX5_readArrow_79 (k := 0) (by decide) fl_X5_35 rfl rfl rfl ?_
      refine s_getI ok_X9 dX5_readArrow_82 (k := 6) (by decide) fl_X5_116 rfl rfl ?_
      refine r_iconst (v := 1) dX5_readArrow_85 (by decide) ?_
      refine r_icmp_ne (t := 98) dX5_readArrow_86 (by decide) (fun c3 => ?_) (fun c3 => ?_)
      · have c3 : ¬ ((vI τ 1 6) = 1) := c3
        refine r_aload_n dX5_readArrow_98 3 rfl ?_
        refine s_getR (b := 1) ok_X5 dX5_readArrow_99 (k := 0) (by decide) fl_X5_35 rfl rfl rfl ?_
        refine r_iconst (v := 1) dX5_readArrow_102 (by decide) ?_
        refine r_aload_n dX5_readArrow_103 3 rfl ?_
        refine s_getR (b := 1) ok_X5 dX5_readArrow_104 (k := 0) (by decide) fl_X5_35 rfl rfl rfl ?_
        refine s_getI ok_X9 dX5_readArrow_107 (k := 5) (by decide) fl_X5_59 rfl rfl ?_
        refine x_callV (Y := mX9_blame) (d' := 1) dX5_readArrow_110 ml_X5_62 yv_X9_blame (by omega) rfl rfl (by simp [Value.category]) (sR_is rfl rfl) (c_X9_blame τ 1 (vI τ 1 5)) ?_
        refine r_zret rfl (by decide) dX5_readArrow_113 ?_
        unfold d_rk; rw [if_pos c2, if_neg c3]; exact ⟨rfl, rfl⟩
      · have c3 : (vI τ 1 6) = 1 := c3
        refine r_iload dX5_readArrow_89 0 rfl ?_
        refine r_aload_n dX5_readArrow_91 3 rfl ?_
        refine s_getI ok_X5 dX5_readArrow_92 (k := 7) (by decide) fl_X5_44 rfl rfl ?_
        refine r_icmp_lt (t := 114) dX5_readArrow_95 (by decide) (fun c4 => ?_) (fun c4 => ?_)
        · have c4 : ((t_by τ (vI τ 1 5)) - 97) < (vI τ 3 7) := c4
          refine r_aload_n dX5_readArrow_114 3 rfl ?_
          refine s_getR (b := 1) ok_X5 dX5_readArrow_115 (k := 0) (by decide) fl_X5_35 rfl rfl rfl ?_
          refine r_iconst (v := 0) dX5_readArrow_118 (by decide) ?_
          refine r_aload_n dX5_readArrow_119 2 rfl ?_
          refine s_getI ok_X0 dX5_readArrow_120 (k := 1) (by decide) fl_X5_130 (dr_la M hM3) rfl ?_
          refine r_iconst (v := 1) dX5_readArrow_123 (by decide) ?_
          refine r_isub dX5_readArrow_124 ?_
          refine x_callV (Y := mX9_whole) (d' := 4) dX5_readArrow_125 ml_X5_94 yv_X9_whole (by omega) rfl rfl (by simp [Value.category]) (sR_is rfl rfl) (c_wh he τ ht 0 ((vI τ (9 + M) 1) - 1)) ?_
          refine r_istore (lo' := [(5, .int (t_wa (t_st e τ) 0 ((vI τ (9 + M) 1) - 1))), (4, .int ((t_by τ (vI τ 1 5)) - 97)), (3, .int n), (2, .ref (ad (9 + M))), (0, .ref (ad 3)), (1, .int w)]) dX5_readArrow_128 (by decide) rfl ?_
          refine r_iload dX5_readArrow_130 0 rfl ?_
          refine r_iconst (v := (-1)) dX5_readArrow_132 (by decide) ?_
          refine r_icmp_ne (t := 138) dX5_readArrow_133 (by decide) (fun c5 => ?_) (fun c5 => ?_)
          · have c5 : ¬ ((t_wa (t_st e τ) 0 ((vI τ (9 + M) 1) - 1)) = ((-1))) := c5
            refine r_aload_n dX5_readArrow_138 3 rfl ?_
            refine r_iload_n dX5_readArrow_139 2 rfl ?_
            refine r_iload dX5_readArrow_140 1 rfl ?_
            refine r_iload dX5_readArrow_142 0 rfl ?_
            refine x_callV (Y := mX0_joins) (d' := 3) dX5_readArrow_144 ml_X5_141 yv_X0_joins (by omega) rfl rfl (by simp [Value.category]) (sR_is (dr_la M hM3) rfl) (c_X0_joins (t_wz (t_st e τ) 0 ((vI τ (9 + M) 1) - 1)) (dr_la M hM3) n ((t_by τ (vI τ 1 5)) - 97) (t_wa (t_st e τ) 0 ((vI τ (9 + M) 1) - 1))) ?_
            refine r_if_eq (t := 160) dX5_readArrow_147 (by decide) (fun c6 => ?_) (fun c6 => ?_)
            · have c6 : (a_jn (t_wz (t_st e τ) 0 ((vI τ (9 + M) 1) - 1)) (9 + M) n ((t_by τ (vI τ 1 5)) - 97) (t_wa (t_st e τ) 0 ((vI τ (9 + M) 1) - 1))) = 0 := c6
              refine r_aload_n dX5_readArrow_160 3 rfl ?_
              refine r_iload_n dX5_readArrow_161 2 rfl ?_
              refine r_iload dX5_readArrow_162 1 rfl ?_
              refine r_iload dX5_readArrow_164 0 rfl ?_
              refine r_iconst (v := 1) dX5_readArrow_166 (by decide) ?_
              refine x_callV0 (Y := mX0_setArrow) (d' := 3) dX5_readArrow_167 ml_X5_145 yv_X0_setArrow (by omega) rfl rfl (by simp [Value.category]) (sR_is (dr_la M hM3) rfl) (c_X0_setArrow (t_wz (t_st e τ) 0 ((vI τ (9 + M) 1) - 1)) (dr_la M hM3) n ((t_by τ (vI τ 1 5)) - 97) (t_wa (t_st e τ) 0 ((vI τ (9 + M) 1) - 1)) 1) ?_
              refine r_iconst (v := 1) dX5_readArrow_170 (by decide) ?_
              refine r_zret rfl (by decide) dX5_readArrow_171 ?_
              unfold d_rk; rw [if_pos c2, if_pos c3, if_pos c4, if_neg c5, if_pos c6]; exact ⟨rfl, rfl⟩
            · have c6 : ¬ ((a_jn (t_wz (t_st e τ) 0 ((vI τ (9 + M) 1) - 1)) (9 + M) n ((t_by τ (vI τ 1 5)) - 97) (t_wa (t_st e τ) 0 ((vI τ (9 + M) 1) - 1))) = 0) := c6
              refine r_aload_n dX5_readArrow_150 4 rfl ?_
              refine s_getR (b := 1) ok_X5 dX5_readArrow_151 (k := 0) (by decide) fl_X5_35 rfl rfl rfl ?_
              refine r_iconst (v := 3) dX5_readArrow_154 (by decide) ?_
              refine r_iload_n dX5_readArrow_155 5 rfl ?_
              refine x_callV (Y := mX9_blame) (d' := 1) dX5_readArrow_156 ml_X5_62 yv_X9_blame (by omega) rfl rfl (by simp [Value.category]) (sR_is rfl rfl) (c_X9_blame (t_wz (t_st e τ) 0 ((vI τ (9 + M) 1) - 1)) 3 w) ?_
              refine r_zret rfl (by decide) dX5_readArrow_159 ?_
              unfold d_rk; rw [if_pos c2, if_pos c3, if_pos c4, if_neg c5, if_neg c6]; exact ⟨rfl, rfl⟩
          · have c5 : (t_wa (t_st e τ) 0 ((vI τ (9 + M) 1) - 1)) = ((-1)) := c5
            refine r_iconst (v := 0) dX5_readArrow_136 (by decide) ?_
            refine r_zret rfl (by decide) dX5_readArrow_137 ?_
            unfold d_rk; rw [if_pos c2, if_pos c3, if_pos c4, if_pos c5]; exact ⟨rfl, rfl⟩
        · have c4 : ¬ (((t_by τ (vI τ 1 5)) - 97) < (vI τ 3 7)) := c4
          refine r_aload_n dX5_readArrow_98 3 rfl ?_
          refine s_getR (b := 1) ok_X5 dX5_readArrow_99 (k := 0) (by decide) fl_X5_35 rfl rfl rfl ?_
          refine r_iconst (v := 1) dX5_readArrow_102 (by decide) ?_
          refine r_aload_n dX5_readArrow_103 3 rfl ?_
          refine s_getR (b := 1) ok_X5 dX5_readArrow_104 (k := 0) (by decide) fl_X5_35 rfl rfl rfl ?_
          refine s_getI ok_X9 dX5_readArrow_107 (k := 5) (by decide) fl_X5_59 rfl rfl ?_
          refine x_callV (Y := mX9_blame) (d' := 1) dX5_readArrow_110 ml_X5_62 yv_X9_blame (by omega) rfl rfl (by simp [Value.category]) (sR_is rfl rfl) (c_X9_blame τ 1 (vI τ 1 5)) ?_
          refine r_zret rfl (by decide) dX5_readArrow_113 ?_
          unfold d_rk; rw [if_pos c2, if_pos c3, if_neg c4]; exact ⟨rfl, rfl⟩
  · have c1 : (t_wa (t_st e σ) 0 ((vI σ (9 + M) 1) - 1)) = ((-1)) := c1
    refine r_iconst (v := 0) dX5_readArrow_39 (by decide) ?_
    refine r_zret rfl (by decide) dX5_readArrow_40 ?_
    unfold d_rw; rw [if_pos c1]; exact ⟨rfl, rfl⟩
