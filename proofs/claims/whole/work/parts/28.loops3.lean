/-! Loops.run: RI is what the walk keeps to (told by the pure part) -/
def l_tp (σ : sS) : Int32 := rg σ 24 (vI σ 19 6 - 1)
def l_st (fN fE fM : sS → List Int32 → Int32) (Lc : Nat) : Nat → sS → sS
  | 0, σ => σ
  | k + 1, σ => if vI σ 19 6 ≤ 0 then σ else l_st fN fE fM Lc k (l_gon fN fE fM Lc σ (l_tp σ))
def l_r1 (fF fN fE fM : sS → List Int32 → Int32) (Lc n r : Nat) (σ : sS) : sS := if fF σ [nI r] = 0 then σ else if rg σ 20 (nI r) = 0 then l_st fN fE fM Lc (2 * n) (l_en σ (nI r)) else σ
def l_ro (fF fN fE fM : sS → List Int32 → Int32) (Lc n : Nat) : Nat → Nat → sS → sS
  | 0, _, σ => σ
  | k + 1, r, σ => l_ro fF fN fE fM Lc n k (r + 1) (l_r1 fF fN fE fM Lc n r σ)
def l_ini (σ : sS) (n : Nat) : sS := uI (uI (uI (rx (rx (rz (rz (rx (rz σ 20 n) 21 n) 22 n) 23 n) 24 n) 25 n) 19 6 0) 19 7 0) 19 8 0
def l_run (fF fN fE fM : sS → List Int32 → Int32) (Lc n : Nat) (σ : sS) : sS := l_ro fF fN fE fM Lc n n 0 (l_ini σ n)
/-- what the walk through a graph keeps to -/
def l_ok (J RI : sS → Prop) (fF fN fE fM : sS → List Int32 → Int32) (Lc n : Nat) : Prop :=
  (∀ τ, RI τ → J τ) ∧ ∃ RJ : sS → Prop, (∀ τ r, RI τ → r < n → ¬ fF τ [nI r] = 0 → rg τ 20 (nI r) = 0 → RJ (l_en τ (nI r)) ∧ RI (l_st fN fE fM Lc (2 * n) (l_en τ (nI r)))) ∧ ∀ τ, RJ τ → J τ ∧ (¬ vI τ 19 6 ≤ 0 → hok τ ∧ (∃ cu, cu < 2 ^ 30 ∧ rg τ 23 (l_tp τ) = nI cu) ∧ RJ (l_gon fN fE fM Lc τ (l_tp τ)))
theorem l_X3_st {ad : Nat → Nat} {d' G : Nat} {J RI : sS → Prop} {fV fF fL fN fE fM : sS → List Int32 → Int32} (hd : 2 ≤ d') (hV : gr_m ad G J ⟨"OddRanks$Graph", "vertices", "()I"⟩ 0 d' fV) (hF : gr_m ad G J ⟨"OddRanks$Graph", "isFirst", "(I)Z"⟩ 1 d' fF) (hL : gr_m ad G J ⟨"OddRanks$Graph", "letterCount", "()I"⟩ 0 d' fL) (hN : gr_m ad G J ⟨"OddRanks$Graph", "fan", "(II)I"⟩ 2 d' fN) (hE : gr_m ad G J ⟨"OddRanks$Graph", "goal", "(III)I"⟩ 3 d' fE) (hM : gr_m ad G J ⟨"OddRanks$Graph", "isMarked", "(I)Z"⟩ 1 d' fM) (hst : ∀ σ τ, lrel σ τ → J σ → J τ) {Lc n : Nat} (hLc : ∀ σ, J σ → fL σ [] = nI Lc) (hL3 : Lc ≤ 3) (hR : ∀ τ, RI τ → J τ ∧ (¬ vI τ 19 6 ≤ 0 → hok τ ∧ (∃ cu, cu < 2 ^ 30 ∧ rg τ 23 (l_tp τ) = nI cu) ∧ RI (l_gon fN fE fM Lc τ (l_tp τ)))) (hn : n ≤ 100000) {r : Nat} {Q : Option Value → sS → Prop} : ∀ (k i : Nat) (σ : sS), RI σ → i + k = 2 * n → ab_E (sR ad) mX3_run (d' + 4) 141 [(3, .int (nI r)), (2, .int (nI n)), (0, .ref (ad 19)), (1, .ref (ad G))] [] (l_st fN fE fM Lc k σ) Q → ab_E (sR ad) mX3_run (d' + 4) 102 [(4, .int (nI i)), (3, .int (nI r)), (2, .int (nI n)), (0, .ref (ad 19)), (1, .ref (ad G))] [] σ Q := by
  have e2 : (2 : Int32) * nI n = nI (2 * n) := by
    have h2 : (2 : Int32) = nI 2 := by decide +kernel
    rw [h2, pk_mul]
  intro k
  induction k with
  | zero =>
    intro i σ hI hi K
    have hc : (2 : Int32) * nI n ≤ nI i := by rw [e2]; exact nI_le (by omega) (by omega)
    refine r_iload dX3_run_102 0 rfl ?_
    refine r_iconst (v := 2) dX3_run_104 (by decide) ?_
    refine r_iload_n dX3_run_105 2 rfl ?_
    refine r_imul dX3_run_106 ?_
    refine r_icmp_ge (t := 141) dX3_run_107 (by decide) (fun _ => ?_) (fun hh => absurd hc hh)
    exact ab_E.lo [1, 2, 3, 4] rfl K
  | succ k ih =>
    intro i σ hI hi K
    have hc : ¬ (2 : Int32) * nI n ≤ nI i := by rw [e2]; exact nI_ge (by omega) (by omega)
    refine r_iload dX3_run_102 0 rfl ?_
    refine r_iconst (v := 2) dX3_run_104 (by decide) ?_
    refine r_iload_n dX3_run_105 2 rfl ?_
    refine r_imul dX3_run_106 ?_
    refine r_icmp_ge (t := 141) dX3_run_107 (by decide) (fun hh => absurd hh hc) (fun _ => ?_)
    refine r_aload_n dX3_run_110 3 rfl ?_
    refine s_getI ok_X3 dX3_run_111 (k := 6) (by decide) fl_X3_49 rfl rfl ?_
    refine r_if_le (t := 141) dX3_run_114 (by decide) (fun c1 => ?_) (fun c1 => ?_)
    · have c1 : (vI σ 19 6) ≤ 0 := c1
      rw [l_st, if_pos c1] at K
      exact ab_E.lo [1, 2, 3, 4] rfl K
    · have c1 : ¬ ((vI σ 19 6) ≤ 0) := c1
      obtain ⟨hok1, ⟨cu, hcu2, hcu1⟩, hI2⟩ := (hR σ hI).2 c1
      refine r_aload_n dX3_run_117 3 rfl ?_
      refine r_aload_n dX3_run_118 4 rfl ?_
      refine r_aload_n dX3_run_119 3 rfl ?_
      refine s_getR (b := 24) ok_X3 dX3_run_120 (k := 4) (by decide) fl_X3_27 rfl rfl rfl ?_
      refine r_aload_n dX3_run_123 3 rfl ?_
      refine s_getI ok_X3 dX3_run_124 (k := 6) (by decide) fl_X3_49 rfl rfl ?_
      refine r_iconst (v := 1) dX3_run_127 (by decide) ?_
      refine r_isub dX3_run_128 ?_
      refine x_callV (Y := mX7_get) (d' := 1) dX3_run_129 ml_X3_63 yv_X7_get (by omega) rfl rfl (by simp [Value.category]) (sR_isR rfl) (c_get rfl ((vI σ 19 6) - 1)) ?_
      refine x_callV0 (Y := mX3_goOn) (d' := d' + 3) dX3_run_132 ml_X3_70 yv_X3_goOn (by omega) rfl rfl (by simp [Value.category]) (sR_is rfl rfl) (c_X3_goOn hd hL hN hE hM hst hLc hL3 σ (hR _ hI).1 hok1 (rg σ 24 ((vI σ 19 6) - 1)) hcu1 hcu2) ?_
      refine r_iinc (v := (nI i) + 1) (lo' := [(4, .int ((nI i) + 1)), (3, .int (nI r)), (2, .int (nI n)), (0, .ref (ad 19)), (1, .ref (ad G))]) dX3_run_135 0 rfl rfl (by decide) rfl ?_
      refine r_goto (t := 102) dX3_run_138 (by decide) ?_
      rw [l_st, if_neg c1] at K
      rw [nI_1]
      exact ab_E.lo [0, 1, 2, 3, 4] rfl (ih (i + 1) _ hI2 (by omega) K)
theorem l_r1_RI {J RI : sS → Prop} {fF fN fE fM : sS → List Int32 → Int32} {Lc n r : Nat} (hR : l_ok J RI fF fN fE fM Lc n) (hr : r < n) {σ : sS} (h : RI σ) : RI (l_r1 fF fN fE fM Lc n r σ) := by
  unfold l_r1
  by_cases c : fF σ [nI r] = 0
  · rw [if_pos c]; exact h
  · rw [if_neg c]
    by_cases c2 : rg σ 20 (nI r) = 0
    · rw [if_pos c2]; obtain ⟨_, RJ, h2, _⟩ := hR; exact (h2 σ r h hr c c2).2
    · rw [if_neg c2]; exact h
theorem l_X3_ro {ad : Nat → Nat} {d' G : Nat} {J RI : sS → Prop} {fV fF fL fN fE fM : sS → List Int32 → Int32} (hd : 2 ≤ d') (hV : gr_m ad G J ⟨"OddRanks$Graph", "vertices", "()I"⟩ 0 d' fV) (hF : gr_m ad G J ⟨"OddRanks$Graph", "isFirst", "(I)Z"⟩ 1 d' fF) (hL : gr_m ad G J ⟨"OddRanks$Graph", "letterCount", "()I"⟩ 0 d' fL) (hN : gr_m ad G J ⟨"OddRanks$Graph", "fan", "(II)I"⟩ 2 d' fN) (hE : gr_m ad G J ⟨"OddRanks$Graph", "goal", "(III)I"⟩ 3 d' fE) (hM : gr_m ad G J ⟨"OddRanks$Graph", "isMarked", "(I)Z"⟩ 1 d' fM) (hst : ∀ σ τ, lrel σ τ → J σ → J τ) {Lc n : Nat} (hLc : ∀ σ, J σ → fL σ [] = nI Lc) (hL3 : Lc ≤ 3) (hR : l_ok J RI fF fN fE fM Lc n) (hn : n ≤ 100000) : ∀ (k r : Nat) (σ : sS), RI σ → r + k = n → ab_E (sR ad) mX3_run (d' + 4) 70 [(3, .int (nI r)), (2, .int (nI n)), (0, .ref (ad 19)), (1, .ref (ad G))] [] σ (fun r9 σ' => r9 = none ∧ σ' = l_ro fF fN fE fM Lc n k r σ) := by
  intro k
  induction k with
  | zero =>
    intro r σ hI hi
    have hc : nI n ≤ nI r := nI_le (by omega) (by omega)
    refine r_iload_n dX3_run_70 0 rfl ?_
    refine r_iload_n dX3_run_71 1 rfl ?_
    refine r_icmp_ge (t := 147) dX3_run_72 (by decide) (fun _ => ?_) (fun hh => absurd hc hh)
    refine r_vret rfl dX3_run_147 ?_
    exact ⟨rfl, rfl⟩
  | succ k ih =>
    intro r σ hI hi
    have hc : ¬ nI n ≤ nI r := nI_ge (by omega) (by omega)
    refine r_iload_n dX3_run_70 0 rfl ?_
    refine r_iload_n dX3_run_71 1 rfl ?_
    refine r_icmp_ge (t := 147) dX3_run_72 (by decide) (fun hh => absurd hh hc) (fun _ => ?_)
    refine r_aload_n dX3_run_75 3 rfl ?_
    refine r_iload_n dX3_run_76 0 rfl ?_
    refine x_callG [nI r] hF dX3_run_77 ml_X3_59 (by omega) (hR.1 _ hI) rfl rfl (by simp [Value.category]) ?_
    refine r_if_eq (t := 141) dX3_run_80 (by decide) (fun c1 => ?_) (fun c1 => ?_)
    · have c1 : (fF σ [nI r]) = 0 := c1
      refine r_iinc (v := (nI r) + 1) (lo' := [(3, .int ((nI r) + 1)), (2, .int (nI n)), (0, .ref (ad 19)), (1, .ref (ad G))]) dX3_run_141 0 rfl rfl (by decide) rfl ?_
      refine r_goto (t := 70) dX3_run_144 (by decide) ?_
      have e0 : l_r1 fF fN fE fM Lc n r σ = σ := by unfold l_r1; simp only [eq_true c1, ↓reduceIte]
      have hI2 := l_r1_RI hR (r := r) (by omega) hI
      rw [e0] at hI2
      rw [nI_1, l_ro, e0]
      exact ab_E.lo [0, 1, 2, 3] rfl (ih (r + 1) _ hI2 (by omega))
    · have c1 : ¬ ((fF σ [nI r]) = 0) := c1
      refine r_aload_n dX3_run_83 2 rfl ?_
      refine s_getR (b := 20) ok_X3 dX3_run_84 (k := 0) (by decide) fl_X3_14 rfl rfl rfl ?_
      refine r_iload_n dX3_run_87 0 rfl ?_
      refine x_callV (Y := mX7_get) (d' := 1) dX3_run_88 ml_X3_63 yv_X7_get (by omega) rfl rfl (by simp [Value.category]) (sR_isR rfl) (c_get rfl (nI r)) ?_
      refine r_if_ne (t := 141) dX3_run_91 (by decide) (fun c2 => ?_) (fun c2 => ?_)
      · have c2 : ¬ ((rg σ 20 (nI r)) = 0) := c2
        refine r_iinc (v := (nI r) + 1) (lo' := [(3, .int ((nI r) + 1)), (2, .int (nI n)), (0, .ref (ad 19)), (1, .ref (ad G))]) dX3_run_141 0 rfl rfl (by decide) rfl ?_
        refine r_goto (t := 70) dX3_run_144 (by decide) ?_
        have e0 : l_r1 fF fN fE fM Lc n r σ = σ := by unfold l_r1; simp only [eq_false c1, eq_false c2, ↓reduceIte]
        have hI2 := l_r1_RI hR (r := r) (by omega) hI
        rw [e0] at hI2
        rw [nI_1, l_ro, e0]
        exact ab_E.lo [0, 1, 2, 3] rfl (ih (r + 1) _ hI2 (by omega))
      · have c2 : (rg σ 20 (nI r)) = 0 := c2
        refine r_aload_n dX3_run_94 2 rfl ?_
        refine r_iload_n dX3_run_95 0 rfl ?_
        refine x_callV0 (Y := mX3_enter) (d' := 3) dX3_run_96 ml_X3_67 yv_X3_enter (by omega) rfl rfl (by simp [Value.category]) (sR_is rfl rfl) (c_X3_enter σ (nI r)) ?_
        refine r_iconst (v := 0) dX3_run_99 (by decide) ?_
        refine r_istore (lo' := [(4, .int 0), (3, .int (nI r)), (2, .int (nI n)), (0, .ref (ad 19)), (1, .ref (ad G))]) dX3_run_100 (by decide) rfl ?_
        refine ab_E.lo [0, 1, 2, 3, 4] (lo' := [(4, .int (nI 0)), (3, .int (nI r)), (2, .int (nI n)), (0, .ref (ad 19)), (1, .ref (ad G))]) rfl ?_
        obtain ⟨-, RJ, hR2, hR3⟩ := id hR
        refine l_X3_st hd hV hF hL hN hE hM hst hLc hL3 hR3 hn (2 * n) 0 _ (hR2 σ r hI (by omega) c1 c2).1 (by omega) ?_
        refine r_iinc (v := (nI r) + 1) (lo' := [(3, .int ((nI r) + 1)), (2, .int (nI n)), (0, .ref (ad 19)), (1, .ref (ad G))]) dX3_run_141 0 rfl rfl (by decide) rfl ?_
        refine r_goto (t := 70) dX3_run_144 (by decide) ?_
        have e0 : l_r1 fF fN fE fM Lc n r σ = l_st fN fE fM Lc (2 * n) (l_en σ (nI r)) := by unfold l_r1; simp only [eq_false c1, eq_true c2, ↓reduceIte]
        have hI2 := l_r1_RI hR (r := r) (by omega) hI
        rw [e0] at hI2
        rw [nI_1, l_ro, e0]
        exact ab_E.lo [0, 1, 2, 3] rfl (ih (r + 1) _ hI2 (by omega))
theorem c_X3_run {ad : Nat → Nat} {d' G : Nat} {J RI : sS → Prop} {fV fF fL fN fE fM : sS → List Int32 → Int32} (hd : 2 ≤ d') (hV : gr_m ad G J ⟨"OddRanks$Graph", "vertices", "()I"⟩ 0 d' fV) (hF : gr_m ad G J ⟨"OddRanks$Graph", "isFirst", "(I)Z"⟩ 1 d' fF) (hL : gr_m ad G J ⟨"OddRanks$Graph", "letterCount", "()I"⟩ 0 d' fL) (hN : gr_m ad G J ⟨"OddRanks$Graph", "fan", "(II)I"⟩ 2 d' fN) (hE : gr_m ad G J ⟨"OddRanks$Graph", "goal", "(III)I"⟩ 3 d' fE) (hM : gr_m ad G J ⟨"OddRanks$Graph", "isMarked", "(I)Z"⟩ 1 d' fM) (hst : ∀ σ τ, lrel σ τ → J σ → J τ) {Lc n : Nat} (hLc : ∀ σ, J σ → fL σ [] = nI Lc) (hL3 : Lc ≤ 3) (hR : l_ok J RI fF fN fE fM Lc n) (hn : n ≤ 100000) (σ : sS) (hJ : J σ) (hVn : fV σ [] = nI n) (hI : RI (l_ini σ n)) : ab_X (sR ad) (d' + 4) mX3_run [.ref (ad 19), .ref (ad G)] σ none (l_run fF fN fE fM Lc n σ) := by
  refine ab_X.of (by decide) (Nat.le_of_ble_eq_true rfl) ?_
  refine r_aload_n dX3_run_0 1 rfl ?_
  refine x_callG [] hV dX3_run_1 ml_X3_37 (by omega) hJ rfl rfl (by simp [Value.category]) ?_
  rw [hVn]
  refine r_istore_n (lo' := [(2, .int (nI n)), (0, .ref (ad 19)), (1, .ref (ad G))]) dX3_run_4 (by decide) rfl ?_
  refine r_aload_n dX3_run_5 1 rfl ?_
  refine s_getR (b := 20) ok_X3 dX3_run_6 (k := 0) (by decide) fl_X3_14 rfl rfl rfl ?_
  refine r_iload_n dX3_run_9 0 rfl ?_
  refine x_callV0 (Y := mX7_wipe) (d' := 3) dX3_run_10 ml_X3_43 yv_X7_wipe (by omega) rfl rfl (by simp [Value.category]) (sR_isR rfl) (c_wipe rfl n (by omega)) ?_
  refine r_aload_n dX3_run_13 1 rfl ?_
  refine s_getR (b := 21) ok_X3 dX3_run_14 (k := 1) (by decide) fl_X3_18 rfl rfl rfl ?_
  refine r_iload_n dX3_run_17 0 rfl ?_
  refine x_callV0 (Y := mX7_stretch) (d' := 2) dX3_run_18 ml_X3_46 yv_X7_stretch (by omega) rfl rfl (by simp [Value.category]) (sR_isR rfl) (c_stretch rfl n (by omega)) ?_
  refine r_aload_n dX3_run_21 1 rfl ?_
  refine s_getR (b := 22) ok_X3 dX3_run_22 (k := 2) (by decide) fl_X3_21 rfl rfl rfl ?_
  refine r_iload_n dX3_run_25 0 rfl ?_
  refine x_callV0 (Y := mX7_wipe) (d' := 3) dX3_run_26 ml_X3_43 yv_X7_wipe (by omega) rfl rfl (by simp [Value.category]) (sR_isR rfl) (c_wipe rfl n (by omega)) ?_
  refine r_aload_n dX3_run_29 1 rfl ?_
  refine s_getR (b := 23) ok_X3 dX3_run_30 (k := 3) (by decide) fl_X3_24 rfl rfl rfl ?_
  refine r_iload_n dX3_run_33 0 rfl ?_
  refine x_callV0 (Y := mX7_wipe) (d' := 3) dX3_run_34 ml_X3_43 yv_X7_wipe (by omega) rfl rfl (by simp [Value.category]) (sR_isR rfl) (c_wipe rfl n (by omega)) ?_
  refine r_aload_n dX3_run_37 1 rfl ?_
  refine s_getR (b := 24) ok_X3 dX3_run_38 (k := 4) (by decide) fl_X3_27 rfl rfl rfl ?_
  refine r_iload_n dX3_run_41 0 rfl ?_
  refine x_callV0 (Y := mX7_stretch) (d' := 2) dX3_run_42 ml_X3_46 yv_X7_stretch (by omega) rfl rfl (by simp [Value.category]) (sR_isR rfl) (c_stretch rfl n (by omega)) ?_
  refine r_aload_n dX3_run_45 1 rfl ?_
  refine s_getR (b := 25) ok_X3 dX3_run_46 (k := 5) (by decide) fl_X3_30 rfl rfl rfl ?_
  refine r_iload_n dX3_run_49 0 rfl ?_
  refine x_callV0 (Y := mX7_stretch) (d' := 2) dX3_run_50 ml_X3_46 yv_X7_stretch (by omega) rfl rfl (by simp [Value.category]) (sR_isR rfl) (c_stretch rfl n (by omega)) ?_
  refine r_aload_n dX3_run_53 1 rfl ?_
  refine r_iconst (v := 0) dX3_run_54 (by decide) ?_
  refine s_putI ok_X3 dX3_run_55 (k := 6) (by decide) fl_X3_49 rfl rfl rfl rfl rfl ?_
  refine r_aload_n dX3_run_58 1 rfl ?_
  refine r_iconst (v := 0) dX3_run_59 (by decide) ?_
  refine s_putI ok_X3 dX3_run_60 (k := 7) (by decide) fl_X3_53 rfl rfl rfl rfl rfl ?_
  refine r_aload_n dX3_run_63 1 rfl ?_
  refine r_iconst (v := 0) dX3_run_64 (by decide) ?_
  refine s_putI ok_X3 dX3_run_65 (k := 8) (by decide) fl_X3_56 rfl rfl rfl rfl rfl ?_
  refine r_iconst (v := 0) dX3_run_68 (by decide) ?_
  refine r_istore_n (lo' := [(3, .int 0), (2, .int (nI n)), (0, .ref (ad 19)), (1, .ref (ad G))]) dX3_run_69 (by decide) rfl ?_
  exact l_X3_ro hd hV hF hL hN hE hM hst hLc hL3 hR hn n 0 (l_ini σ n) hI (by omega)
