/-! Shower.show -/
theorem l_ro_RI {J RI : sS → Prop} {fF fN fE fM : sS → List Int32 → Int32} {Lc n : Nat} (hR : l_ok J RI fF fN fE fM Lc n) : ∀ (k r : Nat) (σ : sS), r + k = n → RI σ → RI (l_ro fF fN fE fM Lc n k r σ) := by
  intro k
  induction k with
  | zero => intro r σ _ h; exact h
  | succ k ih =>
    intro r σ hr h
    rw [l_ro]
    exact ih (r + 1) _ (by omega) (l_r1_RI hR (by omega) h)
theorem rg_uI {σ : sS} {a k r : Nat} {x i : Int32} (h : r ≠ a) : rg (uI σ a k x) r i = rg σ r i := by
  unfold rg
  rw [vI_r h]
def w_ln (σ : sS) (v : Int32) : Nat := (rg σ 60 v - 1).toNatClampNeg
def w_lo (σ : sS) (v : Int32) : Prop := rg σ 60 v = nI (w_ln σ v + 1) ∧ w_ln σ v < 2 ^ 20
def w_2 (r : Bool × Int32 × sS) : sS := uI (w_ww (uI r.2.2 56 6 1) (w_fa r) 0 (w_ln r.2.2 (w_fa r))) 56 7 (nI (w_ln r.2.2 (w_fa r)))
def w_4 (σ : sS) (h : Int32) (pl : Nat) : sS := uI (w_ww σ h pl (w_ln σ h)) 56 8 (nI (w_ln σ h))
def w_sw (fF fN fE fM : sS → List Int32 → Int32) (Lc n : Nat) (r : Bool × Int32 × sS) : sS := if w_fa r = -1 then uI r.2.2 56 6 0 else w_4 (w_se fF fN fE fM Lc n (w_2 r) (w_fa r)).2.2 (w_fa r) (w_ln r.2.2 (w_fa r))
def w_sh (fF fN fE fM : sS → List Int32 → Int32) (Lc n : Nat) (σ : sS) : sS := w_sw fF fN fE fM Lc n (w_se fF fN fE fM Lc n (l_run fF fN fE fM Lc n σ) (-1))
theorem w_ww_ok {σ : sS} {v : Int32} {pl ln : Nat} : srel σ (w_ww σ v pl ln) ∧ vC (w_ww σ v pl ln) 57 = vC σ 57 ∧ vI (w_ww σ v pl ln) 56 = vI σ 56 := by
  have q := w_wr_ok (pl := pl) ln v (rx σ 61 (pl + ln))
  refine ⟨(srel.rx (by decide) (by decide)).tr q.1, ?_, q.2.2.trans (by rw [rx_I])⟩
  unfold vC w_ww
  rw [q.2.1]
  exact rx_Cn (by decide)
theorem w_a_56 {fF fM : sS → List Int32 → Int32} {h : Int32} : ∀ (n i : Nat) (σ : sS), vI (w_a fF fM h n i σ).2.2 56 = vI σ 56 := by
  intro n
  induction n with
  | zero => intro i σ; rfl
  | succ n ih =>
    intro i σ
    rw [w_a]
    have k : vI (w_q σ (nI i)) 56 = vI σ 56 := (rp_I (by decide)).trans (rq_I (by decide))
    split
    · exact ih (i + 1) σ
    · split
      · exact (ih (i + 1) (w_q σ (nI i))).trans k
      · exact k
theorem w_i_56 {fE fM : sS → List Int32 → Int32} {v s h : Int32} : ∀ (n i : Nat) (σ : sS), vI (w_i fE fM v s h n i σ).2.2 56 = vI σ 56 := by
  intro n
  induction n with
  | zero => intro i σ; rfl
  | succ n ih =>
    intro i σ
    rw [w_i]
    have k : vI (w_s1 σ v s (fE σ [v, s, nI i])) 56 = vI σ 56 := (rp_I (by decide)).trans ((rp_I (by decide)).trans ((rp_I (by decide)).trans (rq_I (by decide))))
    split
    · split
      · exact (ih (i + 1) _).trans k
      · exact k
    · exact ih (i + 1) σ
theorem w_o_56 {fN fE fM : sS → List Int32 → Int32} {v h : Int32} : ∀ (n s : Nat) (σ : sS), vI (w_o fN fE fM v h n s σ).2.2 56 = vI σ 56 := by
  intro n
  induction n with
  | zero => intro i σ; rfl
  | succ n ih =>
    intro s σ
    rw [w_o]
    have k := w_i_56 (fE := fE) (fM := fM) (v := v) (s := nI s) (h := h) (g_F fN σ v (nI s)) 0 σ
    split
    · exact k
    · exact (ih (s + 1) _).trans k
theorem w_b_56 {fN fE fM : sS → List Int32 → Int32} {Lc : Nat} {h : Int32} : ∀ (n i : Nat) (σ : sS), vI (w_b fN fE fM Lc h n i σ).2.2 56 = vI σ 56 := by
  intro n
  induction n with
  | zero => intro i σ; rfl
  | succ n ih =>
    intro i σ
    rw [w_b]
    have k : vI (w_sf fN fE fM Lc σ (rg σ 57 (nI i)) h).2.2 56 = vI σ 56 := w_o_56 Lc 0 σ
    split
    · rfl
    · split
      · exact (ih (i + 1) _).trans k
      · exact k
theorem w_in_56 {σ : sS} {n : Nat} : vI (w_in σ n) 56 = vI σ 56 := (rz_I (by decide)).trans ((rz_I (by decide)).trans ((rz_I (by decide)).trans rfl))
theorem w_se_56 {fF fN fE fM : sS → List Int32 → Int32} {Lc n : Nat} {σ : sS} {h : Int32} : vI (w_se fF fN fE fM Lc n σ h).2.2 56 = vI σ 56 := by
  have k2 := (w_a_56 (fF := fF) (fM := fM) (h := h) n 0 (w_in σ n)).trans w_in_56
  unfold w_se
  split
  · exact k2
  · exact (w_b_56 n 0 _).trans k2
theorem u2_k {σ : sS} {a k j : Nat} {x : Int32} (h : j ≠ k) : vI (uI σ a k x) a j = vI σ a j := by
  show u2 σ.1 a k x a j = _
  unfold u2
  rw [if_neg (fun q => h q.2)]
  rfl
theorem c_X8_show {ad : Nat → Nat} {d' G : Nat} {J : sS → Prop} {fV fF fL fN fE fM : sS → List Int32 → Int32} (hd : 3 ≤ d') (hV : gr_m ad G J ⟨"OddRanks$Graph", "vertices", "()I"⟩ 0 d' fV) (hF : gr_m ad G J ⟨"OddRanks$Graph", "isFirst", "(I)Z"⟩ 1 d' fF) (hL : gr_m ad G J ⟨"OddRanks$Graph", "letterCount", "()I"⟩ 0 d' fL) (hN : gr_m ad G J ⟨"OddRanks$Graph", "fan", "(II)I"⟩ 2 d' fN) (hE : gr_m ad G J ⟨"OddRanks$Graph", "goal", "(III)I"⟩ 3 d' fE) (hM : gr_m ad G J ⟨"OddRanks$Graph", "isMarked", "(I)Z"⟩ 1 d' fM) (hst : ∀ σ τ, srel σ τ → J σ → J τ) {Lc : Nat} (hLc : ∀ σ, J σ → fL σ [] = nI Lc) (hL3 : Lc ≤ 3) {RI : sS → Prop} {n : Nat} (hn : n ≤ 100000) (hsl : ∀ σ τ, lrel σ τ → J σ → J τ) (hR : l_ok J RI fF fN fE fM Lc n) (hVJ : ∀ σ, J σ → fV σ [] = nI n) (σ : sS) (hJ : J σ) (hI : RI (l_ini σ n)) (hu0 : vC (l_run fF fN fE fM Lc n σ) 57 ≤ 270000) (hw1 : ¬ w_fa (w_se fF fN fE fM Lc n (l_run fF fN fE fM Lc n σ) (-1)) = -1 → w_lo (w_se fF fN fE fM Lc n (l_run fF fN fE fM Lc n σ) (-1)).2.2 (w_fa (w_se fF fN fE fM Lc n (l_run fF fN fE fM Lc n σ) (-1)))) (hw2 : ¬ w_fa (w_se fF fN fE fM Lc n (l_run fF fN fE fM Lc n σ) (-1)) = -1 → w_lo (w_se fF fN fE fM Lc n (w_2 (w_se fF fN fE fM Lc n (l_run fF fN fE fM Lc n σ) (-1))) (w_fa (w_se fF fN fE fM Lc n (l_run fF fN fE fM Lc n σ) (-1)))).2.2 (w_fa (w_se fF fN fE fM Lc n (l_run fF fN fE fM Lc n σ) (-1)))) : ab_X (sR ad) (d' + 5) mX8_show [.ref (ad 56), .ref (ad G)] σ (some (.int (if w_fa (w_se fF fN fE fM Lc n (l_run fF fN fE fM Lc n σ) (-1)) = -1 then 0 else 1))) (w_sh fF fN fE fM Lc n σ) := by
  refine ab_X.of (by decide) (Nat.le_of_ble_eq_true rfl) ?_
  refine r_aload_n dX8_show_0 0 rfl ?_
  refine s_getR (b := 19) ok_X8 dX8_show_1 (k := 0) (by decide) fl_X8_32 rfl rfl rfl ?_
  refine r_aload_n dX8_show_4 1 rfl ?_
  refine x_callV0 (Y := mX3_run) (d' := d' + 4) dX8_show_5 ml_X8_36 yv_X3_run (by omega) rfl rfl (by simp [Value.category]) (sR_is rfl rfl) (c_X3_run (Nat.le_of_succ_le hd) hV hF hL hN hE hM hsl hLc hL3 hR hn σ hJ (hVJ σ hJ) hI) ?_
  refine r_aload_n dX8_show_8 0 rfl ?_
  refine r_aload_n dX8_show_9 1 rfl ?_
  refine r_iconst (v := (-1)) dX8_show_10 (by decide) ?_
  have hJ0 : J (l_run fF fN fE fM Lc n σ) := hR.1 _ (l_ro_RI hR n 0 _ (by omega) hI)
  refine x_callV (Y := mX8_search) (d' := d' + 3) dX8_show_11 ml_X8_42 yv_X8_search (by omega) rfl rfl (by simp [Value.category]) (sR_is rfl rfl) (c_X8_search hd hV hF hL hN hE hM hst hLc hL3 hn (l_run fF fN fE fM Lc n σ) hJ0 (hVJ _ hJ0) hu0 ((-1))) ?_
  show ab_E _ _ _ _ _ _ _ (fun r9 τ => r9 = some (.int (if w_fa (w_se fF fN fE fM Lc n (l_run fF fN fE fM Lc n σ) (-1)) = -1 then 0 else 1)) ∧ τ = w_sw fF fN fE fM Lc n (w_se fF fN fE fM Lc n (l_run fF fN fE fM Lc n σ) (-1)))
  have q1 := w_se_ok (fF := fF) (fN := fN) (fE := fE) (fM := fM) (Lc := Lc) (n := n) (σ := l_run fF fN fE fM Lc n σ) (h := -1)
  generalize (w_se fF fN fE fM Lc n (l_run fF fN fE fM Lc n σ) (-1)) = R at hw1 hw2 q1 ⊢
  generalize l_run fF fN fE fM Lc n σ = τ0 at hJ0 hu0 q1
  refine r_istore_n (lo' := [(2, .int (w_fa R)), (0, .ref (ad 56)), (1, .ref (ad G))]) dX8_show_14 (by decide) rfl ?_
  refine r_aload_n dX8_show_15 1 rfl ?_
  refine r_iload_n dX8_show_16 0 rfl ?_
  refine r_iconst (v := (-1)) dX8_show_17 (by decide) ?_
  refine r_icmp_eq (t := 25) dX8_show_18 (by decide) (fun c1 => ?_) (fun c1 => ?_)
  · have c1 : (w_fa R) = ((-1)) := c1
    refine r_iconst (v := 0) dX8_show_25 (by decide) ?_
    refine s_putI ok_X8 dX8_show_26 (k := 6) (by decide) fl_X8_46 rfl (by decide) (by decide) rfl rfl ?_
    refine r_aload_n dX8_show_29 1 rfl ?_
    refine s_getI ok_X8 dX8_show_30 (k := 6) (by decide) fl_X8_46 rfl rfl ?_
    rw [show vI (uI R.2.2 56 6 0) 56 6 = 0 from vI_s]
    refine r_if_eq (t := 66) dX8_show_33 (by decide) (fun _ => ?_) (fun hh => absurd (by decide) hh)
    refine r_aload_n dX8_show_66 1 rfl ?_
    refine s_getI ok_X8 dX8_show_67 (k := 6) (by decide) fl_X8_46 rfl rfl ?_
    rw [show vI (uI R.2.2 56 6 0) 56 6 = 0 from vI_s]
    refine r_zret rfl (by decide) dX8_show_70 ?_
    unfold w_sw; rw [if_pos c1, if_pos c1]; exact ⟨rfl, rfl⟩
  · have c1 : ¬ ((w_fa R) = ((-1))) := c1
    refine r_iconst (v := 1) dX8_show_21 (by decide) ?_
    refine r_goto (t := 26) dX8_show_22 (by decide) ?_
    refine s_putI ok_X8 dX8_show_26 (k := 6) (by decide) fl_X8_46 rfl (by decide) (by decide) rfl rfl ?_
    refine r_aload_n dX8_show_29 1 rfl ?_
    refine s_getI ok_X8 dX8_show_30 (k := 6) (by decide) fl_X8_46 rfl rfl ?_
    rw [show vI (uI R.2.2 56 6 1) 56 6 = 1 from vI_s]
    refine r_if_eq (t := 66) dX8_show_33 (by decide) (fun hh => absurd hh (by decide)) (fun _ => ?_)
    refine r_aload_n dX8_show_36 1 rfl ?_
    refine r_aload_n dX8_show_37 1 rfl ?_
    refine r_iload_n dX8_show_38 0 rfl ?_
    refine r_iconst (v := 0) dX8_show_39 (by decide) ?_
    have hl := hw1 c1
    have hJ2 : J (w_2 R) := hst _ _ ((srel.uI.tr w_ww_ok.1).tr srel.uI) (hst _ _ q1.1 hJ0)
    have hu2 : vC (w_2 R) 57 ≤ 270000 := by show vC (w_ww (uI R.2.2 56 6 1) (w_fa R) 0 (w_ln R.2.2 (w_fa R))) 57 ≤ _; rw [w_ww_ok.2.1]; exact q1.2 hu0
    refine x_callV (Y := mX8_writeWay) (d' := 3) dX8_show_40 ml_X8_50 yv_X8_writeWay (by omega) rfl rfl (by simp [Value.category]) (sR_is rfl rfl) (c_X8_writeWay (uI R.2.2 56 6 1) (w_fa R) (pl := 0) (ln := (w_ln R.2.2 (w_fa R))) (by rw [rg_uI (by decide)]; exact hl.1) hl.2 (by decide)) ?_
    refine s_putI ok_X8 dX8_show_43 (k := 7) (by decide) fl_X8_54 rfl rfl rfl rfl rfl ?_
    refine r_aload_n dX8_show_46 1 rfl ?_
    refine r_aload_n dX8_show_47 2 rfl ?_
    refine r_iload_n dX8_show_48 0 rfl ?_
    refine x_callV (Y := mX8_search) (d' := d' + 3) dX8_show_49 ml_X8_42 yv_X8_search (by omega) rfl rfl (by simp [Value.category]) (sR_is rfl rfl) (c_X8_search hd hV hF hL hN hE hM hst hLc hL3 hn (w_2 R) hJ2 (hVJ _ hJ2) hu2 (w_fa R)) ?_
    refine r_pop dX8_show_52 rfl ?_
    refine r_aload_n dX8_show_53 1 rfl ?_
    refine r_aload_n dX8_show_54 1 rfl ?_
    refine r_iload_n dX8_show_55 0 rfl ?_
    refine r_aload_n dX8_show_56 1 rfl ?_
    refine s_getI ok_X8 dX8_show_57 (k := 7) (by decide) fl_X8_54 rfl rfl ?_
    rw [show vI (w_se fF fN fE fM Lc n (w_2 R) (w_fa R)).2.2 56 7 = nI (w_ln R.2.2 (w_fa R)) by rw [w_se_56]; exact vI_s]
    have hl2 := hw2 c1
    refine x_callV (Y := mX8_writeWay) (d' := 3) dX8_show_60 ml_X8_50 yv_X8_writeWay (by omega) rfl rfl (by simp [Value.category]) (sR_is rfl rfl) (c_X8_writeWay ((w_se fF fN fE fM Lc n (w_2 R) (w_fa R)).2.2) (w_fa R) (pl := w_ln R.2.2 (w_fa R)) (ln := (w_ln (w_se fF fN fE fM Lc n (w_2 R) (w_fa R)).2.2 (w_fa R))) hl2.1 hl2.2 hl.2) ?_
    refine s_putI ok_X8 dX8_show_63 (k := 8) (by decide) fl_X8_58 rfl rfl rfl rfl rfl ?_
    refine r_aload_n dX8_show_66 1 rfl ?_
    refine s_getI ok_X8 dX8_show_67 (k := 6) (by decide) fl_X8_46 rfl rfl ?_
    rw [show vI (uI (w_ww ((w_se fF fN fE fM Lc n (w_2 R) (w_fa R)).2.2) (w_fa R) (w_ln R.2.2 (w_fa R)) (w_ln (w_se fF fN fE fM Lc n (w_2 R) (w_fa R)).2.2 (w_fa R))) 56 8 (nI (w_ln (w_se fF fN fE fM Lc n (w_2 R) (w_fa R)).2.2 (w_fa R)))) 56 6 = 1 by rw [u2_k (by decide), congrFun w_ww_ok.2.2 6, w_se_56]; exact (u2_k (by decide)).trans ((congrFun w_ww_ok.2.2 6).trans vI_s)]
    refine r_zret rfl (by decide) dX8_show_70 ?_
    unfold w_sw; rw [if_neg c1, if_neg c1]; exact ⟨rfl, rfl⟩
