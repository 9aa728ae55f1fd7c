/-! Loops: leave, goOn, run -/
theorem l_la_2 {σ : sS} {v t : Int32} : (l_la σ v t).2 = σ.2 := by
  unfold l_la l_ra
  repeat' split
  all_goals first | rfl | exact rp_2
theorem l_la_I {σ : sS} {v t : Int32} {b : Nat} (h1 : b ≠ 21) (h2 : b ≠ 22) : vI (l_la σ v t) b = vI σ b := by
  unfold l_la l_ra
  repeat' split
  all_goals first | rfl | exact rp_I h2 | exact rp_I h1
theorem lrel.la {σ : sS} {v t : Int32} : lrel σ (l_la σ v t) := lrel.of2 l_la_2 (fun b hb => l_la_I (by omega) (by omega))
def hok (σ : sS) : Prop := ∃ H, H < 2 ^ 29 ∧ vI σ 19 7 = nI (H + 1)
def l_rlu (fM : sS → List Int32 → Int32) (σ : sS) (v : Int32) : sS := l_rl fM σ v ((vI σ 19 7).toNatClampNeg - 1)
theorem c_releaseU {ad : Nat → Nat} (σ : sS) {d' G : Nat} {J : sS → Prop} {fM : sS → List Int32 → Int32} (hd : 2 ≤ d') (hM : gr_m ad G J ⟨"OddRanks$Graph", "isMarked", "(I)Z"⟩ 1 d' fM) (hJ : J σ) (hH : hok σ) (v : Int32) : ab_X (sR ad) (d' + 1) mX3_release [.ref (ad 19), .ref (ad G), .int v] σ none (l_rlu fM σ v) := by
  obtain ⟨H, h1, h2⟩ := hH
  unfold l_rlu
  rw [h2, nI_clamp (by omega)]
  exact c_X3_release σ (by omega) (Nat.le_refl _) hM hJ h2 (by omega) v
def l_v0 (σ : sS) : sS := uI σ 19 6 (vI σ 19 6 - 1)
def l_v1 (fM : sS → List Int32 → Int32) (σ : sS) (v : Int32) : sS := if rg (l_v0 σ) 21 v = rg (l_v0 σ) 20 v then l_rlu fM (l_v0 σ) v else l_v0 σ
def l_v2 (σ : sS) (v b : Int32) : sS := if l_hs (rp σ 21 b (mnI (rg σ 21 b) (rg σ 21 v))) v 8 = 0 then rp σ 21 b (mnI (rg σ 21 b) (rg σ 21 v)) else l_ra (rp σ 21 b (mnI (rg σ 21 b) (rg σ 21 v))) b 8
def l_v3 (σ : sS) (v : Int32) : sS := if vI σ 19 6 ≤ 0 then σ else l_v2 σ v (rg σ 24 (vI σ 19 6 - 1))
def l_lv (fM : sS → List Int32 → Int32) (σ : sS) (v : Int32) : sS := l_v3 (l_v1 fM σ v) v
theorem c_X3_leave {ad : Nat → Nat} (σ : sS) {d' G : Nat} {J : sS → Prop} {fM : sS → List Int32 → Int32} (hd : 2 ≤ d') (hM : gr_m ad G J ⟨"OddRanks$Graph", "isMarked", "(I)Z"⟩ 1 d' fM) (hst : ∀ σ τ, lrel σ τ → J σ → J τ) (hJ : J σ) (hH : hok σ) (v : Int32) : ab_X (sR ad) (d' + 2) mX3_leave [.ref (ad 19), .ref (ad G), .int v] σ none (l_lv fM σ v) := by
  refine ab_X.of (by decide) (Nat.le_of_ble_eq_true rfl) ?_
  refine r_aload_n dX3_leave_0 0 rfl ?_
  refine r_dup dX3_leave_1 rfl ?_
  refine s_getI ok_X3 dX3_leave_2 (k := 6) (by decide) fl_X3_49 rfl rfl ?_
  refine r_iconst (v := 1) dX3_leave_5 (by decide) ?_
  refine r_isub dX3_leave_6 ?_
  refine s_putI ok_X3 dX3_leave_7 (k := 6) (by decide) fl_X3_49 rfl rfl rfl rfl rfl ?_
  refine r_aload_n dX3_leave_10 0 rfl ?_
  refine s_getR (b := 21) ok_X3 dX3_leave_11 (k := 1) (by decide) fl_X3_18 rfl rfl rfl ?_
  refine r_iload_n dX3_leave_14 2 rfl ?_
  refine x_callV (Y := mX7_get) (d' := 1) dX3_leave_15 ml_X3_63 yv_X7_get (by omega) rfl rfl (by simp [Value.category]) (sR_isR rfl) (c_get rfl v) ?_
  refine r_aload_n dX3_leave_18 0 rfl ?_
  refine s_getR (b := 20) ok_X3 dX3_leave_19 (k := 0) (by decide) fl_X3_14 rfl rfl rfl ?_
  refine r_iload_n dX3_leave_22 2 rfl ?_
  refine x_callV (Y := mX7_get) (d' := 1) dX3_leave_23 ml_X3_63 yv_X7_get (by omega) rfl rfl (by simp [Value.category]) (sR_isR rfl) (c_get rfl v) ?_
  refine r_icmp_ne (t := 35) dX3_leave_26 (by decide) (fun c1 => ?_) (fun c1 => ?_)
  · have c1 : ¬ ((rg (uI σ 19 6 ((vI σ 19 6) - 1)) 21 v) = (rg (uI σ 19 6 ((vI σ 19 6) - 1)) 20 v)) := c1
    refine r_aload_n dX3_leave_35 0 rfl ?_
    refine s_getI ok_X3 dX3_leave_36 (k := 6) (by decide) fl_X3_49 rfl rfl ?_
    refine r_if_le (t := 100) dX3_leave_39 (by decide) (fun c2 => ?_) (fun c2 => ?_)
    · have c2 : ((vI σ 19 6) - 1) ≤ 0 := c2
      refine r_vret rfl dX3_leave_100 ?_
      refine ⟨rfl, Eq.symm ?_⟩
      have e1 : l_v1 fM σ v = uI σ 19 6 (vI σ 19 6 - 1) := by unfold l_v1; exact if_neg c1
      have e2 : l_v3 (uI σ 19 6 (vI σ 19 6 - 1)) v = uI σ 19 6 (vI σ 19 6 - 1) := by unfold l_v3; exact if_pos c2
      unfold l_lv
      rw [e1, e2]
    · have c2 : ¬ (((vI σ 19 6) - 1) ≤ 0) := c2
      refine r_aload_n dX3_leave_42 0 rfl ?_
      refine s_getR (b := 24) ok_X3 dX3_leave_43 (k := 4) (by decide) fl_X3_27 rfl rfl rfl ?_
      refine r_aload_n dX3_leave_46 0 rfl ?_
      refine s_getI ok_X3 dX3_leave_47 (k := 6) (by decide) fl_X3_49 rfl rfl ?_
      refine r_iconst (v := 1) dX3_leave_50 (by decide) ?_
      refine r_isub dX3_leave_51 ?_
      refine x_callV (Y := mX7_get) (d' := 1) dX3_leave_52 ml_X3_63 yv_X7_get (by omega) rfl rfl (by simp [Value.category]) (sR_isR rfl) (c_get rfl (((vI σ 19 6) - 1) - 1)) ?_
      refine r_istore_n (lo' := [(3, .int (rg (uI σ 19 6 ((vI σ 19 6) - 1)) 24 (((vI σ 19 6) - 1) - 1))), (0, .ref (ad 19)), (1, .ref (ad G)), (2, .int v)]) dX3_leave_55 (by decide) rfl ?_
      refine r_aload_n dX3_leave_56 1 rfl ?_
      refine s_getR (b := 21) ok_X3 dX3_leave_57 (k := 1) (by decide) fl_X3_18 rfl rfl rfl ?_
      refine r_iload_n dX3_leave_60 0 rfl ?_
      refine r_aload_n dX3_leave_61 1 rfl ?_
      refine s_getR (b := 21) ok_X3 dX3_leave_62 (k := 1) (by decide) fl_X3_18 rfl rfl rfl ?_
      refine r_iload_n dX3_leave_65 0 rfl ?_
      refine x_callV (Y := mX7_get) (d' := 1) dX3_leave_66 ml_X3_63 yv_X7_get (by omega) rfl rfl (by simp [Value.category]) (sR_isR rfl) (c_get rfl (rg (uI σ 19 6 ((vI σ 19 6) - 1)) 24 (((vI σ 19 6) - 1) - 1))) ?_
      refine r_aload_n dX3_leave_69 1 rfl ?_
      refine s_getR (b := 21) ok_X3 dX3_leave_70 (k := 1) (by decide) fl_X3_18 rfl rfl rfl ?_
      refine r_iload_n dX3_leave_73 3 rfl ?_
      refine x_callV (Y := mX7_get) (d' := 1) dX3_leave_74 ml_X3_63 yv_X7_get (by omega) rfl rfl (by simp [Value.category]) (sR_isR rfl) (c_get rfl v) ?_
      refine r_min dX3_leave_77 (by omega) ml_X3_99 ma_mins ma_i ma_minc (by simp [Value.category]) ?_
      refine x_callV0 (Y := mX7_put) (d' := 1) dX3_leave_80 ml_X3_86 yv_X7_put (by omega) rfl rfl (by simp [Value.category]) (sR_isR rfl) (c_put rfl (rg (uI σ 19 6 ((vI σ 19 6) - 1)) 24 (((vI σ 19 6) - 1) - 1)) (mnI (rg (uI σ 19 6 ((vI σ 19 6) - 1)) 21 (rg (uI σ 19 6 ((vI σ 19 6) - 1)) 24 (((vI σ 19 6) - 1) - 1))) (rg (uI σ 19 6 ((vI σ 19 6) - 1)) 21 v))) ?_
      refine r_aload_n dX3_leave_83 1 rfl ?_
      refine r_iload_n dX3_leave_84 3 rfl ?_
      refine r_bipush (v := 8) dX3_leave_85 (by decide) ?_
      refine x_callV (Y := mX3_has) (d' := 2) dX3_leave_87 ml_X3_33 yv_X3_has (by omega) rfl rfl (by simp [Value.category]) (sR_is rfl rfl) (c_X3_has (rp (uI σ 19 6 ((vI σ 19 6) - 1)) 21 (rg (uI σ 19 6 ((vI σ 19 6) - 1)) 24 (((vI σ 19 6) - 1) - 1)) (mnI (rg (uI σ 19 6 ((vI σ 19 6) - 1)) 21 (rg (uI σ 19 6 ((vI σ 19 6) - 1)) 24 (((vI σ 19 6) - 1) - 1))) (rg (uI σ 19 6 ((vI σ 19 6) - 1)) 21 v))) v 8) ?_
      refine r_if_eq (t := 100) dX3_leave_90 (by decide) (fun c3 => ?_) (fun c3 => ?_)
      · have c3 : (l_hs (rp (uI σ 19 6 ((vI σ 19 6) - 1)) 21 (rg (uI σ 19 6 ((vI σ 19 6) - 1)) 24 (((vI σ 19 6) - 1) - 1)) (mnI (rg (uI σ 19 6 ((vI σ 19 6) - 1)) 21 (rg (uI σ 19 6 ((vI σ 19 6) - 1)) 24 (((vI σ 19 6) - 1) - 1))) (rg (uI σ 19 6 ((vI σ 19 6) - 1)) 21 v))) v 8) = 0 := c3
        refine r_vret rfl dX3_leave_100 ?_
        refine ⟨rfl, Eq.symm ?_⟩
        have e1 : l_v1 fM σ v = uI σ 19 6 (vI σ 19 6 - 1) := by unfold l_v1; exact if_neg c1
        have e2 : l_v3 (uI σ 19 6 (vI σ 19 6 - 1)) v = l_v2 (uI σ 19 6 (vI σ 19 6 - 1)) v (rg (uI σ 19 6 (vI σ 19 6 - 1)) 24 (vI (uI σ 19 6 (vI σ 19 6 - 1)) 19 6 - 1)) := by unfold l_v3; exact if_neg c2
        unfold l_lv
        rw [e1, e2]
        unfold l_v2
        exact if_pos c3
      · have c3 : ¬ ((l_hs (rp (uI σ 19 6 ((vI σ 19 6) - 1)) 21 (rg (uI σ 19 6 ((vI σ 19 6) - 1)) 24 (((vI σ 19 6) - 1) - 1)) (mnI (rg (uI σ 19 6 ((vI σ 19 6) - 1)) 21 (rg (uI σ 19 6 ((vI σ 19 6) - 1)) 24 (((vI σ 19 6) - 1) - 1))) (rg (uI σ 19 6 ((vI σ 19 6) - 1)) 21 v))) v 8) = 0) := c3
        refine r_aload_n dX3_leave_93 1 rfl ?_
        refine r_iload_n dX3_leave_94 0 rfl ?_
        refine r_bipush (v := 8) dX3_leave_95 (by decide) ?_
        refine x_callV0 (Y := mX3_raise) (d' := 2) dX3_leave_97 ml_X3_96 yv_X3_raise (by omega) rfl rfl (by simp [Value.category]) (sR_is rfl rfl) (c_X3_raise (rp (uI σ 19 6 ((vI σ 19 6) - 1)) 21 (rg (uI σ 19 6 ((vI σ 19 6) - 1)) 24 (((vI σ 19 6) - 1) - 1)) (mnI (rg (uI σ 19 6 ((vI σ 19 6) - 1)) 21 (rg (uI σ 19 6 ((vI σ 19 6) - 1)) 24 (((vI σ 19 6) - 1) - 1))) (rg (uI σ 19 6 ((vI σ 19 6) - 1)) 21 v))) (rg (uI σ 19 6 ((vI σ 19 6) - 1)) 24 (((vI σ 19 6) - 1) - 1)) 8) ?_
        refine r_vret rfl dX3_leave_100 ?_
        refine ⟨rfl, Eq.symm ?_⟩
        have e1 : l_v1 fM σ v = uI σ 19 6 (vI σ 19 6 - 1) := by unfold l_v1; exact if_neg c1
        have e2 : l_v3 (uI σ 19 6 (vI σ 19 6 - 1)) v = l_v2 (uI σ 19 6 (vI σ 19 6 - 1)) v (rg (uI σ 19 6 (vI σ 19 6 - 1)) 24 (vI (uI σ 19 6 (vI σ 19 6 - 1)) 19 6 - 1)) := by unfold l_v3; exact if_neg c2
        unfold l_lv
        rw [e1, e2]
        unfold l_v2
        exact if_neg c3
  · have c1 : (rg (uI σ 19 6 ((vI σ 19 6) - 1)) 21 v) = (rg (uI σ 19 6 ((vI σ 19 6) - 1)) 20 v) := c1
    refine r_aload_n dX3_leave_29 0 rfl ?_
    refine r_aload_n dX3_leave_30 1 rfl ?_
    refine r_iload_n dX3_leave_31 2 rfl ?_
    refine x_callV0 (Y := mX3_release) (d' := d' + 1) dX3_leave_32 ml_X3_104 yv_X3_release (by omega) rfl rfl (by simp [Value.category]) (sR_is rfl rfl) (c_releaseU (uI σ 19 6 ((vI σ 19 6) - 1)) hd hM (hst _ _ lrel.uI hJ) hH v) ?_
    refine r_aload_n dX3_leave_35 0 rfl ?_
    refine s_getI ok_X3 dX3_leave_36 (k := 6) (by decide) fl_X3_49 rfl rfl ?_
    refine r_if_le (t := 100) dX3_leave_39 (by decide) (fun c4 => ?_) (fun c4 => ?_)
    · have c4 : (vI (l_rlu fM (uI σ 19 6 ((vI σ 19 6) - 1)) v) 19 6) ≤ 0 := c4
      refine r_vret rfl dX3_leave_100 ?_
      refine ⟨rfl, Eq.symm ?_⟩
      have e1 : l_v1 fM σ v = l_rlu fM (uI σ 19 6 (vI σ 19 6 - 1)) v := by unfold l_v1; exact if_pos c1
      have e2 : l_v3 (l_rlu fM (uI σ 19 6 (vI σ 19 6 - 1)) v) v = l_rlu fM (uI σ 19 6 (vI σ 19 6 - 1)) v := by unfold l_v3; exact if_pos c4
      unfold l_lv
      rw [e1, e2]
    · have c4 : ¬ ((vI (l_rlu fM (uI σ 19 6 ((vI σ 19 6) - 1)) v) 19 6) ≤ 0) := c4
      refine r_aload_n dX3_leave_42 0 rfl ?_
      refine s_getR (b := 24) ok_X3 dX3_leave_43 (k := 4) (by decide) fl_X3_27 rfl rfl rfl ?_
      refine r_aload_n dX3_leave_46 0 rfl ?_
      refine s_getI ok_X3 dX3_leave_47 (k := 6) (by decide) fl_X3_49 rfl rfl ?_
      refine r_iconst (v := 1) dX3_leave_50 (by decide) ?_
      refine r_isub dX3_leave_51 ?_
      refine x_callV (Y := mX7_get) (d' := 1) dX3_leave_52 ml_X3_63 yv_X7_get (by omega) rfl rfl (by simp [Value.category]) (sR_isR rfl) (c_get rfl ((vI (l_rlu fM (uI σ 19 6 ((vI σ 19 6) - 1)) v) 19 6) - 1)) ?_
      refine r_istore_n (lo' := [(3, .int (rg (l_rlu fM (uI σ 19 6 ((vI σ 19 6) - 1)) v) 24 ((vI (l_rlu fM (uI σ 19 6 ((vI σ 19 6) - 1)) v) 19 6) - 1))), (0, .ref (ad 19)), (1, .ref (ad G)), (2, .int v)]) dX3_leave_55 (by decide) rfl ?_
      refine r_aload_n dX3_leave_56 1 rfl ?_
      refine s_getR (b := 21) ok_X3 dX3_leave_57 (k := 1) (by decide) fl_X3_18 rfl rfl rfl ?_
      refine r_iload_n dX3_leave_60 0 rfl ?_
      refine r_aload_n dX3_leave_61 1 rfl ?_
      refine s_getR (b := 21) ok_X3 dX3_leave_62 (k := 1) (by decide) fl_X3_18 rfl rfl rfl ?_
      refine r_iload_n dX3_leave_65 0 rfl ?_
      refine x_callV (Y := mX7_get) (d' := 1) dX3_leave_66 ml_X3_63 yv_X7_get (by omega) rfl rfl (by simp [Value.category]) (sR_isR rfl) (c_get rfl (rg (l_rlu fM (uI σ 19 6 ((vI σ 19 6) - 1)) v) 24 ((vI (l_rlu fM (uI σ 19 6 ((vI σ 19 6) - 1)) v) 19 6) - 1))) ?_
      refine r_aload_n dX3_leave_69 1 rfl ?_
      refine s_getR (b := 21) ok_X3 dX3_leave_70 (k := 1) (by decide) fl_X3_18 rfl rfl rfl ?_
      refine r_iload_n dX3_leave_73 3 rfl ?_
      refine x_callV (Y := mX7_get) (d' := 1) dX3_leave_74 ml_X3_63 yv_X7_get (by omega) rfl rfl (by simp [Value.category]) (sR_isR rfl) (c_get rfl v) ?_
      refine r_min dX3_leave_77 (by omega) ml_X3_99 ma_mins ma_i ma_minc (by simp [Value.category]) ?_
      refine x_callV0 (Y := mX7_put) (d' := 1) dX3_leave_80 ml_X3_86 yv_X7_put (by omega) rfl rfl (by simp [Value.category]) (sR_isR rfl) (c_put rfl (rg (l_rlu fM (uI σ 19 6 ((vI σ 19 6) - 1)) v) 24 ((vI (l_rlu fM (uI σ 19 6 ((vI σ 19 6) - 1)) v) 19 6) - 1)) (mnI (rg (l_rlu fM (uI σ 19 6 ((vI σ 19 6) - 1)) v) 21 (rg (l_rlu fM (uI σ 19 6 ((vI σ 19 6) - 1)) v) 24 ((vI (l_rlu fM (uI σ 19 6 ((vI σ 19 6) - 1)) v) 19 6) - 1))) (rg (l_rlu fM (uI σ 19 6 ((vI σ 19 6) - 1)) v) 21 v))) ?_
      refine r_aload_n dX3_leave_83 1 rfl ?_
      refine r_iload_n dX3_leave_84 3 rfl ?_
      refine r_bipush (v := 8) dX3_leave_85 (by decide) ?_
      refine x_callV (Y := mX3_has) (d' := 2) dX3_leave_87 ml_X3_33 yv_X3_has (by omega) rfl rfl (by simp [Value.category]) (sR_is rfl rfl) (c_X3_has (rp (l_rlu fM (uI σ 19 6 ((vI σ 19 6) - 1)) v) 21 (rg (l_rlu fM (uI σ 19 6 ((vI σ 19 6) - 1)) v) 24 ((vI (l_rlu fM (uI σ 19 6 ((vI σ 19 6) - 1)) v) 19 6) - 1)) (mnI (rg (l_rlu fM (uI σ 19 6 ((vI σ 19 6) - 1)) v) 21 (rg (l_rlu fM (uI σ 19 6 ((vI σ 19 6) - 1)) v) 24 ((vI (l_rlu fM (uI σ 19 6 ((vI σ 19 6) - 1)) v) 19 6) - 1))) (rg (l_rlu fM (uI σ 19 6 ((vI σ 19 6) - 1)) v) 21 v))) v 8) ?_
      refine r_if_eq (t := 100) dX3_leave_90 (by decide) (fun c5 => ?_) (fun c5 => ?_)
      · have c5 : (l_hs (rp (l_rlu fM (uI σ 19 6 ((vI σ 19 6) - 1)) v) 21 (rg (l_rlu fM (uI σ 19 6 ((vI σ 19 6) - 1)) v) 24 ((vI (l_rlu fM (uI σ 19 6 ((vI σ 19 6) - 1)) v) 19 6) - 1)) (mnI (rg (l_rlu fM (uI σ 19 6 ((vI σ 19 6) - 1)) v) 21 (rg (l_rlu fM (uI σ 19 6 ((vI σ 19 6) - 1)) v) 24 ((vI (l_rlu fM (uI σ 19 6 ((vI σ 19 6) - 1)) v) 19 6) - 1))) (rg (l_rlu fM (uI σ 19 6 ((vI σ 19 6) - 1)) v) 21 v))) v 8) = 0 := c5
        refine r_vret rfl dX3_leave_100 ?_
        refine ⟨rfl, Eq.symm ?_⟩
        have e1 : l_v1 fM σ v = l_rlu fM (uI σ 19 6 (vI σ 19 6 - 1)) v := by unfold l_v1; exact if_pos c1
        have e2 : l_v3 (l_rlu fM (uI σ 19 6 (vI σ 19 6 - 1)) v) v = l_v2 (l_rlu fM (uI σ 19 6 (vI σ 19 6 - 1)) v) v (rg (l_rlu fM (uI σ 19 6 (vI σ 19 6 - 1)) v) 24 (vI (l_rlu fM (uI σ 19 6 (vI σ 19 6 - 1)) v) 19 6 - 1)) := by unfold l_v3; exact if_neg c4
        unfold l_lv
        rw [e1, e2]
        unfold l_v2
        exact if_pos c5
      · have c5 : ¬ ((l_hs (rp (l_rlu fM (uI σ 19 6 ((vI σ 19 6) - 1)) v) 21 (rg (l_rlu fM (uI σ 19 6 ((vI σ 19 6) - 1)) v) 24 ((vI (l_rlu fM (uI σ 19 6 ((vI σ 19 6) - 1)) v) 19 6) - 1)) (mnI (rg (l_rlu fM (uI σ 19 6 ((vI σ 19 6) - 1)) v) 21 (rg (l_rlu fM (uI σ 19 6 ((vI σ 19 6) - 1)) v) 24 ((vI (l_rlu fM (uI σ 19 6 ((vI σ 19 6) - 1)) v) 19 6) - 1))) (rg (l_rlu fM (uI σ 19 6 ((vI σ 19 6) - 1)) v) 21 v))) v 8) = 0) := c5
        refine r_aload_n dX3_leave_93 1 rfl ?_
        refine r_iload_n dX3_leave_94 0 rfl ?_
        refine r_bipush (v := 8) dX3_leave_95 (by decide) ?_
        refine x_callV0 (Y := mX3_raise) (d' := 2) dX3_leave_97 ml_X3_96 yv_X3_raise (by omega) rfl rfl (by simp [Value.category]) (sR_is rfl rfl) (c_X3_raise (rp (l_rlu fM (uI σ 19 6 ((vI σ 19 6) - 1)) v) 21 (rg (l_rlu fM (uI σ 19 6 ((vI σ 19 6) - 1)) v) 24 ((vI (l_rlu fM (uI σ 19 6 ((vI σ 19 6) - 1)) v) 19 6) - 1)) (mnI (rg (l_rlu fM (uI σ 19 6 ((vI σ 19 6) - 1)) v) 21 (rg (l_rlu fM (uI σ 19 6 ((vI σ 19 6) - 1)) v) 24 ((vI (l_rlu fM (uI σ 19 6 ((vI σ 19 6) - 1)) v) 19 6) - 1))) (rg (l_rlu fM (uI σ 19 6 ((vI σ 19 6) - 1)) v) 21 v))) (rg (l_rlu fM (uI σ 19 6 ((vI σ 19 6) - 1)) v) 24 ((vI (l_rlu fM (uI σ 19 6 ((vI σ 19 6) - 1)) v) 19 6) - 1)) 8) ?_
        refine r_vret rfl dX3_leave_100 ?_
        refine ⟨rfl, Eq.symm ?_⟩
        have e1 : l_v1 fM σ v = l_rlu fM (uI σ 19 6 (vI σ 19 6 - 1)) v := by unfold l_v1; exact if_pos c1
        have e2 : l_v3 (l_rlu fM (uI σ 19 6 (vI σ 19 6 - 1)) v) v = l_v2 (l_rlu fM (uI σ 19 6 (vI σ 19 6 - 1)) v) v (rg (l_rlu fM (uI σ 19 6 (vI σ 19 6 - 1)) v) 24 (vI (l_rlu fM (uI σ 19 6 (vI σ 19 6 - 1)) v) 19 6 - 1)) := by unfold l_v3; exact if_neg c4
        unfold l_lv
        rw [e1, e2]
        unfold l_v2
        exact if_neg c5
def g_i (fE : sS → List Int32 → Int32) (v s : Int32) : Nat → Nat → sS → Bool × sS
  | 0, _, σ => (false, σ)
  | n + 1, i, σ => if rg σ 20 (fE σ [v, s, nI i]) = 0 then (true, l_en (rp σ 23 v (((s <<< ((16 : Int32) &&& 31)) + nI i) + 1)) (fE σ [v, s, nI i])) else g_i fE v s n (i + 1) (l_la σ v (fE σ [v, s, nI i]))
def g_F (fN : sS → List Int32 → Int32) (σ : sS) (v s : Int32) : Nat := (fN σ [v, s]).toNatClampNeg
def g_o (fN fE : sS → List Int32 → Int32) (v : Int32) : Nat → Nat → Nat → sS → Bool × sS
  | 0, _, _, σ => (false, σ)
  | n + 1, s, i, σ => if (g_i fE v (nI s) (g_F fN σ v (nI s) - i) i σ).1 = true then g_i fE v (nI s) (g_F fN σ v (nI s) - i) i σ else g_o fN fE v n (s + 1) 0 (g_i fE v (nI s) (g_F fN σ v (nI s) - i) i σ).2
theorem g_i_rel {fE : sS → List Int32 → Int32} {v s : Int32} : ∀ (n i : Nat) (σ : sS), (g_i fE v s n i σ).1 = false → lrel σ (g_i fE v s n i σ).2 ∧ vI (g_i fE v s n i σ).2 19 = vI σ 19 := by
  intro n
  induction n with
  | zero => intro i σ _; exact ⟨lrel.rf, rfl⟩
  | succ n ih =>
    intro i σ h
    rw [g_i] at h ⊢
    by_cases c : rg σ 20 (fE σ [v, s, nI i]) = 0
    · rw [if_pos c] at h; cases h
    · rw [if_neg c] at h ⊢
      obtain ⟨h1, h2⟩ := ih (i + 1) _ h
      exact ⟨lrel.la.tr h1, h2.trans (l_la_I (by decide) (by decide))⟩
theorem le_cl {x : Int32} {i : Nat} (hi : i < 2 ^ 31) : x ≤ nI i ↔ x.toNatClampNeg ≤ i := by
  by_cases h : x < 0
  · have h1 : x.toInt < 0 := by simpa using Int32.lt_iff_toInt_lt.mp h
    have h2 : x.toNatClampNeg = 0 := by show x.toInt.toNat = 0; omega
    rw [h2]
    refine ⟨fun _ => Nat.zero_le _, fun _ => ?_⟩
    rw [Int32.le_iff_toInt_le, nI_toInt hi]
    omega
  · obtain ⟨j, hj, rfl⟩ := nI_of h
    rw [nI_clamp hj, nI_leI hj hi]
theorem l_X3_gi {ad : Nat → Nat} {d' G : Nat} {J : sS → Prop} {fL fN fE fM : sS → List Int32 → Int32} (hd : 2 ≤ d') (hL : gr_m ad G J ⟨"OddRanks$Graph", "letterCount", "()I"⟩ 0 d' fL) (hN : gr_m ad G J ⟨"OddRanks$Graph", "fan", "(II)I"⟩ 2 d' fN) (hE : gr_m ad G J ⟨"OddRanks$Graph", "goal", "(III)I"⟩ 3 d' fE) (hM : gr_m ad G J ⟨"OddRanks$Graph", "isMarked", "(I)Z"⟩ 1 d' fM) (hst : ∀ σ τ, lrel σ τ → J σ → J τ) {v x : Int32} {s : Nat} {Q : Option Value → sS → Prop} : ∀ (n i : Nat) (σ : sS), J σ → i < 2 ^ 30 + 1 ∨ i ≤ x.toNatClampNeg → n = x.toNatClampNeg - i → ((g_i fE v (nI s) n i σ).1 = false → ab_E (sR ad) mX3_goOn (d' + 3) 108 [(3, .int (nI (i + n))), (5, .int x), (4, .int (nI s)), (0, .ref (ad 19)), (1, .ref (ad G)), (2, .int v)] [] (g_i fE v (nI s) n i σ).2 Q) → ((g_i fE v (nI s) n i σ).1 = true → Q none (g_i fE v (nI s) n i σ).2) → ab_E (sR ad) mX3_goOn (d' + 3) 43 [(3, .int (nI i)), (5, .int x), (4, .int (nI s)), (0, .ref (ad 19)), (1, .ref (ad G)), (2, .int v)] [] σ Q := by
  intro n
  induction n with
  | zero =>
    intro i σ hJ hi2 hi K R
    have hx := cl_lt (i := x)
    have hc : x ≤ nI i := (le_cl (by omega)).mpr (by omega)
    refine r_iload_n dX3_goOn_43 0 rfl ?_
    refine r_iload dX3_goOn_44 1 rfl ?_
    refine r_icmp_ge (t := 108) dX3_goOn_46 (by decide) (fun _ => ?_) (fun hh => absurd hc hh)
    exact K rfl
  | succ n ih =>
    intro i σ hJ hi2 hi K R
    have hx := cl_lt (i := x)
    have hc : ¬ x ≤ nI i := fun q => absurd ((le_cl (by omega)).mp q) (by omega)
    rw [show i + (n + 1) = i + 1 + n by omega] at K
    refine r_iload_n dX3_goOn_43 0 rfl ?_
    refine r_iload dX3_goOn_44 1 rfl ?_
    refine r_icmp_ge (t := 108) dX3_goOn_46 (by decide) (fun hh => absurd hh hc) (fun _ => ?_)
    refine r_aload_n dX3_goOn_49 4 rfl ?_
    refine r_iload_n dX3_goOn_50 5 rfl ?_
    refine r_iload dX3_goOn_51 2 rfl ?_
    refine r_iload_n dX3_goOn_53 0 rfl ?_
    refine x_callG [v, nI s, nI i] hE dX3_goOn_54 ml_X3_82 (by omega) hJ rfl rfl (by simp [Value.category]) ?_
    refine r_istore (lo' := [(6, .int (fE σ [v, nI s, nI i])), (3, .int (nI i)), (5, .int x), (4, .int (nI s)), (0, .ref (ad 19)), (1, .ref (ad G)), (2, .int v)]) dX3_goOn_57 (by decide) rfl ?_
    refine r_aload_n dX3_goOn_59 4 rfl ?_
    refine s_getR (b := 20) ok_X3 dX3_goOn_60 (k := 0) (by decide) fl_X3_14 rfl rfl rfl ?_
    refine r_iload dX3_goOn_63 0 rfl ?_
    refine x_callV (Y := mX7_get) (d' := 1) dX3_goOn_65 ml_X3_63 yv_X7_get (by omega) rfl rfl (by simp [Value.category]) (sR_isR rfl) (c_get rfl (fE σ [v, nI s, nI i])) ?_
    refine r_if_ne (t := 95) dX3_goOn_68 (by decide) (fun c1 => ?_) (fun c1 => ?_)
    · have c1 : ¬ ((rg σ 20 (fE σ [v, nI s, nI i])) = 0) := c1
      refine r_aload_n dX3_goOn_95 4 rfl ?_
      refine r_iload_n dX3_goOn_96 6 rfl ?_
      refine r_iload dX3_goOn_97 0 rfl ?_
      refine x_callV0 (Y := mX3_lookAt) (d' := 3) dX3_goOn_99 ml_X3_90 yv_X3_lookAt (by omega) rfl rfl (by simp [Value.category]) (sR_is rfl rfl) (c_X3_lookAt σ v (fE σ [v, nI s, nI i])) ?_
      refine r_iinc (v := (nI i) + 1) (lo' := [(3, .int ((nI i) + 1)), (6, .int (fE σ [v, nI s, nI i])), (5, .int x), (4, .int (nI s)), (0, .ref (ad 19)), (1, .ref (ad G)), (2, .int v)]) dX3_goOn_102 1 rfl rfl (by decide) rfl ?_
      refine r_goto (t := 43) dX3_goOn_105 (by decide) ?_
      rw [g_i, if_neg c1] at K R
      rw [nI_1]
      exact ab_E.lo [0, 2, 3, 4, 5, 6] rfl (ih (i + 1) _ (hst _ _ lrel.la hJ) (by omega) (by omega) K R)
    · have c1 : (rg σ 20 (fE σ [v, nI s, nI i])) = 0 := c1
      refine r_aload_n dX3_goOn_71 4 rfl ?_
      refine s_getR (b := 23) ok_X3 dX3_goOn_72 (k := 3) (by decide) fl_X3_24 rfl rfl rfl ?_
      refine r_iload_n dX3_goOn_75 6 rfl ?_
      refine r_iload dX3_goOn_76 3 rfl ?_
      refine r_bipush (v := 16) dX3_goOn_78 (by decide) ?_
      refine r_ishl dX3_goOn_80 ?_
      refine r_iload_n dX3_goOn_81 1 rfl ?_
      refine r_iadd dX3_goOn_82 ?_
      refine r_iconst (v := 1) dX3_goOn_83 (by decide) ?_
      refine r_iadd dX3_goOn_84 ?_
      refine x_callV0 (Y := mX7_put) (d' := 1) dX3_goOn_85 ml_X3_86 yv_X7_put (by omega) rfl rfl (by simp [Value.category]) (sR_isR rfl) (c_put rfl v ((((nI s) <<< ((16 : Int32) &&& 31)) + (nI i)) + 1)) ?_
      refine r_aload_n dX3_goOn_88 4 rfl ?_
      refine r_iload dX3_goOn_89 0 rfl ?_
      refine x_callV0 (Y := mX3_enter) (d' := 3) dX3_goOn_91 ml_X3_67 yv_X3_enter (by omega) rfl rfl (by simp [Value.category]) (sR_is rfl rfl) (c_X3_enter (rp σ 23 v ((((nI s) <<< ((16 : Int32) &&& 31)) + (nI i)) + 1)) (fE σ [v, nI s, nI i])) ?_
      refine r_vret rfl dX3_goOn_94 ?_
      rw [g_i, if_pos c1] at R
      exact R rfl
def l_g2 (fN fE fM : sS → List Int32 → Int32) (v : Int32) (n s i : Nat) (σ : sS) : sS := if (g_o fN fE v n s i σ).1 = true then (g_o fN fE v n s i σ).2 else l_lv fM (g_o fN fE v n s i σ).2 v
theorem l_X3_go {ad : Nat → Nat} {d' G : Nat} {J : sS → Prop} {fL fN fE fM : sS → List Int32 → Int32} (hd : 2 ≤ d') (hL : gr_m ad G J ⟨"OddRanks$Graph", "letterCount", "()I"⟩ 0 d' fL) (hN : gr_m ad G J ⟨"OddRanks$Graph", "fan", "(II)I"⟩ 2 d' fN) (hE : gr_m ad G J ⟨"OddRanks$Graph", "goal", "(III)I"⟩ 3 d' fE) (hM : gr_m ad G J ⟨"OddRanks$Graph", "isMarked", "(I)Z"⟩ 1 d' fM) (hst : ∀ σ τ, lrel σ τ → J σ → J τ) {Lc : Nat} (hLc : ∀ σ, J σ → fL σ [] = nI Lc) (hL3 : Lc ≤ 3) {v : Int32} : ∀ (n s i : Nat) (σ : sS), J σ → hok σ → i < 2 ^ 30 → s < 2 ^ 30 → n = Lc - s → ab_E (sR ad) mX3_goOn (d' + 3) 25 [(4, .int (nI s)), (3, .int (nI i)), (0, .ref (ad 19)), (1, .ref (ad G)), (2, .int v)] [] σ (fun r σ' => r = none ∧ σ' = l_g2 fN fE fM v n s i σ) := by
  intro n
  induction n with
  | zero =>
    intro s i σ hJ hH hi hs hn
    have hc : fL σ [] ≤ nI s := by rw [hLc σ hJ]; exact nI_le (by omega) (by omega)
    refine r_iload dX3_goOn_25 0 rfl ?_
    refine r_aload_n dX3_goOn_27 3 rfl ?_
    refine x_callG [] hL dX3_goOn_28 ml_X3_75 (by omega) hJ rfl rfl (by simp [Value.category]) ?_
    refine r_icmp_ge (t := 116) dX3_goOn_31 (by decide) (fun _ => ?_) (fun hh => absurd hc hh)
    refine r_aload_n dX3_goOn_116 2 rfl ?_
    refine r_aload_n dX3_goOn_117 3 rfl ?_
    refine r_iload_n dX3_goOn_118 4 rfl ?_
    refine x_callV0 (Y := mX3_leave) (d' := d' + 2) dX3_goOn_119 ml_X3_93 yv_X3_leave (by omega) rfl rfl (by simp [Value.category]) (sR_is rfl rfl) (c_X3_leave σ hd hM hst hJ hH v) ?_
    refine r_vret rfl dX3_goOn_122 ?_
    exact ⟨rfl, rfl⟩
  | succ n ih =>
    intro s i σ hJ hH hi hs hn
    have hc : ¬ fL σ [] ≤ nI s := by rw [hLc σ hJ]; exact nI_ge (by omega) (by omega)
    refine r_iload dX3_goOn_25 0 rfl ?_
    refine r_aload_n dX3_goOn_27 3 rfl ?_
    refine x_callG [] hL dX3_goOn_28 ml_X3_75 (by omega) hJ rfl rfl (by simp [Value.category]) ?_
    refine r_icmp_ge (t := 116) dX3_goOn_31 (by decide) (fun hh => absurd hh hc) (fun _ => ?_)
    refine r_aload_n dX3_goOn_34 3 rfl ?_
    refine r_iload_n dX3_goOn_35 4 rfl ?_
    refine r_iload dX3_goOn_36 0 rfl ?_
    refine x_callG [v, nI s] hN dX3_goOn_38 ml_X3_78 (by omega) hJ rfl rfl (by simp [Value.category]) ?_
    refine r_istore (lo' := [(5, .int (fN σ [v, nI s])), (4, .int (nI s)), (3, .int (nI i)), (0, .ref (ad 19)), (1, .ref (ad G)), (2, .int v)]) dX3_goOn_41 (by decide) rfl ?_
    refine ab_E.lo [2, 0, 1, 3, 4, 5] (lo' := [(3, .int (nI i)), (5, .int (fN σ [v, nI s])), (4, .int (nI s)), (0, .ref (ad 19)), (1, .ref (ad G)), (2, .int v)]) rfl ?_
    have hfx : g_F fN σ v (nI s) = (fN σ [v, nI s]).toNatClampNeg := rfl
    refine l_X3_gi hd hL hN hE hM hst (g_F fN σ v (nI s) - i) i σ hJ (by omega) (by rw [hfx]) (fun hq => ?_) (fun hq => ⟨rfl, ?_⟩)
    rotate_left
    · unfold l_g2; rw [g_o, if_pos hq, if_pos hq]
    obtain ⟨hr1, hr2⟩ := g_i_rel _ _ _ hq
    refine r_iconst (v := 0) dX3_goOn_108 (by decide) ?_
    refine r_istore_n (lo' := [(3, .int 0), (5, .int (fN σ [v, nI s])), (4, .int (nI s)), (0, .ref (ad 19)), (1, .ref (ad G)), (2, .int v)]) dX3_goOn_109 (by decide) rfl ?_
    refine r_iinc (v := (nI s) + 1) (lo' := [(4, .int ((nI s) + 1)), (3, .int 0), (5, .int (fN σ [v, nI s])), (0, .ref (ad 19)), (1, .ref (ad G)), (2, .int v)]) dX3_goOn_110 2 rfl rfl (by decide) rfl ?_
    refine r_goto (t := 25) dX3_goOn_113 (by decide) ?_
    rw [nI_1]
    have e0 : l_g2 fN fE fM v (n + 1) s i σ = l_g2 fN fE fM v n (s + 1) 0 (g_i fE v (nI s) (g_F fN σ v (nI s) - i) i σ).2 := by unfold l_g2; rw [g_o]; simp only [hq, Bool.false_eq_true, ↓reduceIte]
    rw [e0]
    exact ab_E.lo [0, 1, 3, 4, 5] rfl (ih (s + 1) 0 _ (hst _ _ hr1 hJ) (by unfold hok; rw [hr2]; exact hH) (by omega) (by omega) (by omega))
def l_gon (fN fE fM : sS → List Int32 → Int32) (Lc : Nat) (σ : sS) (v : Int32) : sS := l_g2 fN fE fM v (Lc - (rg σ 23 v).toNatClampNeg / 65536) ((rg σ 23 v).toNatClampNeg / 65536) ((rg σ 23 v).toNatClampNeg % 65536) σ
theorem c_X3_goOn {ad : Nat → Nat} {d' G : Nat} {J : sS → Prop} {fL fN fE fM : sS → List Int32 → Int32} (hd : 2 ≤ d') (hL : gr_m ad G J ⟨"OddRanks$Graph", "letterCount", "()I"⟩ 0 d' fL) (hN : gr_m ad G J ⟨"OddRanks$Graph", "fan", "(II)I"⟩ 2 d' fN) (hE : gr_m ad G J ⟨"OddRanks$Graph", "goal", "(III)I"⟩ 3 d' fE) (hM : gr_m ad G J ⟨"OddRanks$Graph", "isMarked", "(I)Z"⟩ 1 d' fM) (hst : ∀ σ τ, lrel σ τ → J σ → J τ) {Lc : Nat} (hLc : ∀ σ, J σ → fL σ [] = nI Lc) (hL3 : Lc ≤ 3) (σ : sS) (hJ : J σ) (hH : hok σ) (v : Int32) {cu : Nat} (hcu : rg σ 23 v = nI cu) (hcu2 : cu < 2 ^ 30) : ab_X (sR ad) (d' + 3) mX3_goOn [.ref (ad 19), .ref (ad G), .int v] σ none (l_gon fN fE fM Lc σ v) := by
  refine ab_X.of (by decide) (Nat.le_of_ble_eq_true rfl) ?_
  refine r_aload_n dX3_goOn_0 0 rfl ?_
  refine s_getR (b := 23) ok_X3 dX3_goOn_1 (k := 3) (by decide) fl_X3_24 rfl rfl rfl ?_
  refine r_iload_n dX3_goOn_4 2 rfl ?_
  refine x_callV (Y := mX7_get) (d' := 1) dX3_goOn_5 ml_X3_63 yv_X7_get (by omega) rfl rfl (by simp [Value.category]) (sR_isR rfl) (c_get rfl v) ?_
  refine r_ldc (v := 65535) dX3_goOn_8 co_X3_74 ?_
  refine r_iand dX3_goOn_10 ?_
  refine r_istore_n (lo' := [(3, .int ((rg σ 23 v) &&& 65535)), (0, .ref (ad 19)), (1, .ref (ad G)), (2, .int v)]) dX3_goOn_11 (by decide) rfl ?_
  refine r_aload_n dX3_goOn_12 1 rfl ?_
  refine s_getR (b := 23) ok_X3 dX3_goOn_13 (k := 3) (by decide) fl_X3_24 rfl rfl rfl ?_
  refine r_iload_n dX3_goOn_16 3 rfl ?_
  refine x_callV (Y := mX7_get) (d' := 1) dX3_goOn_17 ml_X3_63 yv_X7_get (by omega) rfl rfl (by simp [Value.category]) (sR_isR rfl) (c_get rfl v) ?_
  refine r_bipush (v := 16) dX3_goOn_20 (by decide) ?_
  refine r_ishr dX3_goOn_22 ?_
  refine r_istore (lo' := [(4, .int ((rg σ 23 v) >>> ((16 : Int32) &&& 31))), (3, .int ((rg σ 23 v) &&& 65535)), (0, .ref (ad 19)), (1, .ref (ad G)), (2, .int v)]) dX3_goOn_23 (by decide) rfl ?_
  have e1 : rg σ 23 v &&& 65535 = nI (cu % 65536) := by rw [hcu]; exact pk_andN (by omega) 16 (by decide)
  have e2 : rg σ 23 v >>> ((16 : Int32) &&& 31) = nI (cu / 65536) := by rw [hcu]; exact pk_shrN (by omega) _ 16 (by decide)
  rw [e1, e2]
  have e3 : (rg σ 23 v).toNatClampNeg = cu := by rw [hcu, nI_clamp (by omega)]
  unfold l_gon
  rw [e3]
  exact ab_E.lo [0, 1, 2, 3, 4] rfl (l_X3_go hd hL hN hE hM hst hLc hL3 _ _ _ σ hJ hH (by omega) (by omega) rfl)
