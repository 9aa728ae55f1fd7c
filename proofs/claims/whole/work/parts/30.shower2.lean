/-! Shower: search, the way -/
def w_c (fF : sS → List Int32 → Int32) (σ : sS) (h v : Int32) : Int32 := if h = -1 then fF σ [v] else if v = h then 1 else 0
def w_h (fM : sS → List Int32 → Int32) (σ : sS) (h v : Int32) : Int32 := if h = -1 then w_so fM σ v else 0
def w_q (σ : sS) (v : Int32) : sS := rp (rqu σ 57 v) 60 v 1
def w_a (fF fM : sS → List Int32 → Int32) (h : Int32) : Nat → Nat → sS → Bool × Int32 × sS
  | 0, _, σ => (false, 0, σ)
  | n + 1, i, σ => if w_c fF σ h (nI i) = 0 then w_a fF fM h n (i + 1) σ else if w_h fM (w_q σ (nI i)) h (nI i) = 0 then w_a fF fM h n (i + 1) (w_q σ (nI i)) else (true, nI i, w_q σ (nI i))
def w_b (fN fE fM : sS → List Int32 → Int32) (Lc : Nat) (h : Int32) : Nat → Nat → sS → Bool × Int32 × sS
  | 0, _, σ => (false, 0, σ)
  | n + 1, i, σ => if vU σ 57 ≤ nI i then (false, 0, σ) else if w_fa (w_sf fN fE fM Lc σ (rg σ 57 (nI i)) h) = -1 then w_b fN fE fM Lc h n (i + 1) (w_sf fN fE fM Lc σ (rg σ 57 (nI i)) h).2.2 else w_sf fN fE fM Lc σ (rg σ 57 (nI i)) h
def w_in (σ : sS) (n : Nat) : sS := rz (rz (rz (uU σ 57 0) 58 n) 59 n) 60 n
def w_se (fF fN fE fM : sS → List Int32 → Int32) (Lc n : Nat) (σ : sS) (h : Int32) : Bool × Int32 × sS := if (w_a fF fM h n 0 (w_in σ n)).1 = true then w_a fF fM h n 0 (w_in σ n) else w_b fN fE fM Lc h n 0 (w_a fF fM h n 0 (w_in σ n)).2.2
theorem w_q_ok {σ : sS} {v : Int32} : srel σ (w_q σ v) ∧ (uok σ 57 → uok (w_q σ v) 57) := ⟨(srel.rq (by decide) (by decide)).tr (srel.rp (by decide) (by decide)), fun h => (h.push v).same rp_2⟩
theorem w_a_ok {fF fM : sS → List Int32 → Int32} {h : Int32} : ∀ (n i : Nat) (σ : sS), srel σ (w_a fF fM h n i σ).2.2 ∧ (uok σ 57 → uok (w_a fF fM h n i σ).2.2 57) := by
  intro n
  induction n with
  | zero => intro i σ; exact ⟨srel.rf, id⟩
  | succ n ih =>
    intro i σ
    rw [w_a]
    split
    · exact ih (i + 1) σ
    · have k := w_q_ok (σ := σ) (v := nI i)
      split
      · have k2 := ih (i + 1) (w_q σ (nI i))
        exact ⟨k.1.tr k2.1, fun h => k2.2 (k.2 h)⟩
      · exact k
theorem w_b_ok {fN fE fM : sS → List Int32 → Int32} {Lc : Nat} {h : Int32} : ∀ (n i : Nat) (σ : sS), srel σ (w_b fN fE fM Lc h n i σ).2.2 ∧ (uok σ 57 → uok (w_b fN fE fM Lc h n i σ).2.2 57) := by
  intro n
  induction n with
  | zero => intro i σ; exact ⟨srel.rf, id⟩
  | succ n ih =>
    intro i σ
    rw [w_b]
    split
    · exact ⟨srel.rf, id⟩
    · have k : srel σ (w_sf fN fE fM Lc σ (rg σ 57 (nI i)) h).2.2 ∧ (uok σ 57 → uok (w_sf fN fE fM Lc σ (rg σ 57 (nI i)) h).2.2 57) := w_o_ok Lc 0 σ
      split
      · have k2 := ih (i + 1) (w_sf fN fE fM Lc σ (rg σ 57 (nI i)) h).2.2
        exact ⟨k.1.tr k2.1, fun h => k2.2 (k.2 h)⟩
      · exact k
theorem rz_U {σ : sS} {r m b : Nat} (hb : b ≠ r) : vU (rz σ r m) b = vU σ b := by
  show u1 _ _ _ _ = _
  unfold u1
  rw [if_neg hb]
  exact rx_U
theorem w_in_ok {σ : sS} {n : Nat} : srel σ (w_in σ n) ∧ (vC σ 57 ≤ 270000 → uok (w_in σ n) 57) := by
  refine ⟨(((srel.uU (by decide) (by decide)).tr (srel.rz (by decide) (by decide))).tr (srel.rz (by decide) (by decide))).tr (srel.rz (by decide) (by decide)), fun h => ?_⟩
  unfold uok w_in
  rw [rz_C (by decide), rz_C (by decide), rz_C (by decide), rz_U (by decide), rz_U (by decide), rz_U (by decide)]
  exact ⟨h, 0, Nat.zero_le _, rfl⟩
theorem w_se_ok {fF fN fE fM : sS → List Int32 → Int32} {Lc n : Nat} {σ : sS} {h : Int32} : srel σ (w_se fF fN fE fM Lc n σ h).2.2 ∧ (vC σ 57 ≤ 270000 → vC (w_se fF fN fE fM Lc n σ h).2.2 57 ≤ 270000) := by
  have k := w_in_ok (σ := σ) (n := n)
  have k2 := w_a_ok (fF := fF) (fM := fM) (h := h) n 0 (w_in σ n)
  unfold w_se
  split
  · exact ⟨k.1.tr k2.1, fun q => (k2.2 (k.2 q)).1⟩
  · have k3 := w_b_ok (fN := fN) (fE := fE) (fM := fM) (Lc := Lc) (h := h) n 0 (w_a fF fM h n 0 (w_in σ n)).2.2
    exact ⟨(k.1.tr k2.1).tr k3.1, fun q => (k3.2 (k2.2 (k.2 q))).1⟩
theorem l_X8_a {ad : Nat → Nat} {d' G : Nat} {J : sS → Prop} {fV fF fL fN fE fM : sS → List Int32 → Int32} (hd : 3 ≤ d') (hV : gr_m ad G J ⟨"OddRanks$Graph", "vertices", "()I"⟩ 0 d' fV) (hF : gr_m ad G J ⟨"OddRanks$Graph", "isFirst", "(I)Z"⟩ 1 d' fF) (hL : gr_m ad G J ⟨"OddRanks$Graph", "letterCount", "()I"⟩ 0 d' fL) (hN : gr_m ad G J ⟨"OddRanks$Graph", "fan", "(II)I"⟩ 2 d' fN) (hE : gr_m ad G J ⟨"OddRanks$Graph", "goal", "(III)I"⟩ 3 d' fE) (hM : gr_m ad G J ⟨"OddRanks$Graph", "isMarked", "(I)Z"⟩ 1 d' fM) (hst : ∀ σ τ, srel σ τ → J σ → J τ) {Lc : Nat} (hLc : ∀ σ, J σ → fL σ [] = nI Lc) (hL3 : Lc ≤ 3) {h : Int32} {n : Nat} (hn : n ≤ 100000) {Q : Option Value → sS → Prop} : ∀ (k i : Nat) (σ : sS), J σ → uok σ 57 → i + k = n → ((w_a fF fM h k i σ).1 = false → ab_E (sR ad) mX8_search (d' + 3) 112 [(3, .int (nI n)), (0, .ref (ad 56)), (1, .ref (ad G)), (2, .int h)] [] (w_a fF fM h k i σ).2.2 Q) → ((w_a fF fM h k i σ).1 = true → Q (some (.int (w_a fF fM h k i σ).2.1)) (w_a fF fM h k i σ).2.2) → ab_E (sR ad) mX8_search (d' + 3) 40 [(4, .int (nI i)), (3, .int (nI n)), (0, .ref (ad 56)), (1, .ref (ad G)), (2, .int h)] [] σ Q := by
  intro k
  induction k with
  | zero =>
    intro i σ hJ hu hi K R
    have hc : nI n ≤ nI i := nI_le (by omega) (by omega)
    refine r_iload dX8_search_40 0 rfl ?_
    refine r_iload_n dX8_search_42 1 rfl ?_
    refine r_icmp_ge (t := 112) dX8_search_43 (by decide) (fun _ => ?_) (fun hh => absurd hc hh)
    exact ab_E.lo [1, 2, 3, 4] rfl (K rfl)
  | succ k ih =>
    intro i σ hJ hu hi K R
    have hc : ¬ nI n ≤ nI i := nI_ge (by omega) (by omega)
    refine r_iload dX8_search_40 0 rfl ?_
    refine r_iload_n dX8_search_42 1 rfl ?_
    refine r_icmp_ge (t := 112) dX8_search_43 (by decide) (fun hh => absurd hh hc) (fun _ => ?_)
    refine r_iload_n dX8_search_46 4 rfl ?_
    refine r_iconst (v := (-1)) dX8_search_47 (by decide) ?_
    refine r_icmp_ne (t := 63) dX8_search_48 (by decide) (fun c1 => ?_) (fun c1 => ?_)
    · have c1 : ¬ (h = ((-1))) := c1
      refine r_iload dX8_search_63 0 rfl ?_
      refine r_iload_n dX8_search_65 4 rfl ?_
      refine r_icmp_ne (t := 106) dX8_search_66 (by decide) (fun c2 => ?_) (fun c2 => ?_)
      · have c2 : ¬ ((nI i) = h) := c2
        refine r_iinc (v := (nI i) + 1) (lo' := [(4, .int ((nI i) + 1)), (3, .int (nI n)), (0, .ref (ad 56)), (1, .ref (ad G)), (2, .int h)]) dX8_search_106 0 rfl rfl (by decide) rfl ?_
        refine r_goto (t := 40) dX8_search_109 (by decide) ?_
        have e1 : w_c fF σ h (nI i) = 0 := by unfold w_c; rw [if_neg c1, if_neg c2]
        rw [w_a, if_pos e1] at K R
        rw [nI_1]
        exact ab_E.lo [0, 1, 2, 3, 4] rfl (ih (i + 1) σ hJ hu (by omega) K R)
      · have c2 : (nI i) = h := c2
        refine r_aload_n dX8_search_69 2 rfl ?_
        refine s_getR (b := 57) ok_X8 dX8_search_70 (k := 1) (by decide) fl_X8_14 rfl rfl rfl ?_
        refine r_iload dX8_search_73 0 rfl ?_
        refine x_callV0 (Y := mX7_push) (d' := 3) dX8_search_75 ml_X8_77 yv_X7_push (by omega) rfl rfl (by simp [Value.category]) (sR_isR rfl) (c_pushU rfl hu (nI i)) ?_
        refine r_aload_n dX8_search_78 2 rfl ?_
        refine s_getR (b := 60) ok_X8 dX8_search_79 (k := 4) (by decide) fl_X8_26 rfl rfl rfl ?_
        refine r_iload dX8_search_82 0 rfl ?_
        refine r_iconst (v := 1) dX8_search_84 (by decide) ?_
        refine x_callV0 (Y := mX7_put) (d' := 1) dX8_search_85 ml_X8_80 yv_X7_put (by omega) rfl rfl (by simp [Value.category]) (sR_isR rfl) (c_put rfl (nI i) 1) ?_
        refine r_iload_n dX8_search_88 4 rfl ?_
        refine r_iconst (v := (-1)) dX8_search_89 (by decide) ?_
        refine r_icmp_ne (t := 106) dX8_search_90 (by decide) (fun _ => ?_) (fun hh => absurd hh c1)
        refine r_iinc (v := (nI i) + 1) (lo' := [(4, .int ((nI i) + 1)), (3, .int (nI n)), (0, .ref (ad 56)), (1, .ref (ad G)), (2, .int h)]) dX8_search_106 0 rfl rfl (by decide) rfl ?_
        refine r_goto (t := 40) dX8_search_109 (by decide) ?_
        have e1 : ¬ w_c fF σ h (nI i) = 0 := by unfold w_c; rw [if_neg c1, if_pos c2]; decide
        have e2 : w_h fM (w_q σ (nI i)) h (nI i) = 0 := by unfold w_h; rw [if_neg c1]
        rw [w_a, if_neg e1, if_pos e2] at K R
        rw [nI_1]
        exact ab_E.lo [0, 1, 2, 3, 4] rfl (ih (i + 1) (w_q σ (nI i)) (hst _ _ w_q_ok.1 hJ) (w_q_ok.2 hu) (by omega) K R)
    · have c1 : h = ((-1)) := c1
      refine r_aload_n dX8_search_51 3 rfl ?_
      refine r_iload dX8_search_52 0 rfl ?_
      refine x_callG [nI i] hF dX8_search_54 ml_X8_73 (by omega) hJ rfl rfl (by simp [Value.category]) ?_
      refine r_if_eq (t := 106) dX8_search_57 (by decide) (fun c3 => ?_) (fun c3 => ?_)
      · have c3 : (fF σ [nI i]) = 0 := c3
        refine r_iinc (v := (nI i) + 1) (lo' := [(4, .int ((nI i) + 1)), (3, .int (nI n)), (0, .ref (ad 56)), (1, .ref (ad G)), (2, .int h)]) dX8_search_106 0 rfl rfl (by decide) rfl ?_
        refine r_goto (t := 40) dX8_search_109 (by decide) ?_
        have e1 : w_c fF σ h (nI i) = 0 := by unfold w_c; rw [if_pos c1]; exact c3
        rw [w_a, if_pos e1] at K R
        rw [nI_1]
        exact ab_E.lo [0, 1, 2, 3, 4] rfl (ih (i + 1) σ hJ hu (by omega) K R)
      · have c3 : ¬ ((fF σ [nI i]) = 0) := c3
        refine r_goto (t := 69) dX8_search_60 (by decide) ?_
        refine r_aload_n dX8_search_69 2 rfl ?_
        refine s_getR (b := 57) ok_X8 dX8_search_70 (k := 1) (by decide) fl_X8_14 rfl rfl rfl ?_
        refine r_iload dX8_search_73 0 rfl ?_
        refine x_callV0 (Y := mX7_push) (d' := 3) dX8_search_75 ml_X8_77 yv_X7_push (by omega) rfl rfl (by simp [Value.category]) (sR_isR rfl) (c_pushU rfl hu (nI i)) ?_
        refine r_aload_n dX8_search_78 2 rfl ?_
        refine s_getR (b := 60) ok_X8 dX8_search_79 (k := 4) (by decide) fl_X8_26 rfl rfl rfl ?_
        refine r_iload dX8_search_82 0 rfl ?_
        refine r_iconst (v := 1) dX8_search_84 (by decide) ?_
        refine x_callV0 (Y := mX7_put) (d' := 1) dX8_search_85 ml_X8_80 yv_X7_put (by omega) rfl rfl (by simp [Value.category]) (sR_isR rfl) (c_put rfl (nI i) 1) ?_
        refine r_iload_n dX8_search_88 4 rfl ?_
        refine r_iconst (v := (-1)) dX8_search_89 (by decide) ?_
        refine r_icmp_ne (t := 106) dX8_search_90 (by decide) (fun hh => absurd c1 hh) (fun _ => ?_)
        refine r_aload_n dX8_search_93 2 rfl ?_
        refine r_aload_n dX8_search_94 3 rfl ?_
        refine r_iload dX8_search_95 0 rfl ?_
        refine x_callV (Y := mX8_isSought) (d' := d' + 1) dX8_search_97 ml_X8_84 yv_X8_isSought (by omega) rfl rfl (by simp [Value.category]) (sR_is rfl rfl) (c_X8_isSought (rp (rqu σ 57 (nI i)) 60 (nI i) 1) hd hM (hst _ _ w_q_ok.1 hJ) (nI i)) ?_
        refine r_if_eq (t := 106) dX8_search_100 (by decide) (fun c4 => ?_) (fun c4 => ?_)
        · have c4 : (w_so fM (rp (rqu σ 57 (nI i)) 60 (nI i) 1) (nI i)) = 0 := c4
          refine r_iinc (v := (nI i) + 1) (lo' := [(4, .int ((nI i) + 1)), (3, .int (nI n)), (0, .ref (ad 56)), (1, .ref (ad G)), (2, .int h)]) dX8_search_106 0 rfl rfl (by decide) rfl ?_
          refine r_goto (t := 40) dX8_search_109 (by decide) ?_
          have e1 : ¬ w_c fF σ h (nI i) = 0 := by unfold w_c; rw [if_pos c1]; exact c3
          have e2 : w_h fM (w_q σ (nI i)) h (nI i) = 0 := by unfold w_h; rw [if_pos c1]; exact c4
          rw [w_a, if_neg e1, if_pos e2] at K R
          rw [nI_1]
          exact ab_E.lo [0, 1, 2, 3, 4] rfl (ih (i + 1) (w_q σ (nI i)) (hst _ _ w_q_ok.1 hJ) (w_q_ok.2 hu) (by omega) K R)
        · have c4 : ¬ ((w_so fM (rp (rqu σ 57 (nI i)) 60 (nI i) 1) (nI i)) = 0) := c4
          refine r_iload dX8_search_103 0 rfl ?_
          refine r_iret rfl dX8_search_105 ?_
          have e1 : ¬ w_c fF σ h (nI i) = 0 := by unfold w_c; rw [if_pos c1]; exact c3
          have e2 : ¬ w_h fM (w_q σ (nI i)) h (nI i) = 0 := by unfold w_h; rw [if_pos c1]; exact c4
          rw [w_a, if_neg e1, if_neg e2] at R
          exact R rfl
theorem l_X8_b {ad : Nat → Nat} {d' G : Nat} {J : sS → Prop} {fV fF fL fN fE fM : sS → List Int32 → Int32} (hd : 3 ≤ d') (hV : gr_m ad G J ⟨"OddRanks$Graph", "vertices", "()I"⟩ 0 d' fV) (hF : gr_m ad G J ⟨"OddRanks$Graph", "isFirst", "(I)Z"⟩ 1 d' fF) (hL : gr_m ad G J ⟨"OddRanks$Graph", "letterCount", "()I"⟩ 0 d' fL) (hN : gr_m ad G J ⟨"OddRanks$Graph", "fan", "(II)I"⟩ 2 d' fN) (hE : gr_m ad G J ⟨"OddRanks$Graph", "goal", "(III)I"⟩ 3 d' fE) (hM : gr_m ad G J ⟨"OddRanks$Graph", "isMarked", "(I)Z"⟩ 1 d' fM) (hst : ∀ σ τ, srel σ τ → J σ → J τ) {Lc : Nat} (hLc : ∀ σ, J σ → fL σ [] = nI Lc) (hL3 : Lc ≤ 3) {h : Int32} {n : Nat} (hn : n ≤ 100000) : ∀ (k i : Nat) (σ : sS), J σ → uok σ 57 → i + k = n → ab_E (sR ad) mX8_search (d' + 3) 115 [(4, .int (nI i)), (3, .int (nI n)), (0, .ref (ad 56)), (1, .ref (ad G)), (2, .int h)] [] σ (fun r σ' => r = some (.int (w_fa (w_b fN fE fM Lc h k i σ))) ∧ σ' = (w_b fN fE fM Lc h k i σ).2.2) := by
  intro k
  induction k with
  | zero =>
    intro i σ hJ hu hi
    have hc : nI n ≤ nI i := nI_le (by omega) (by omega)
    refine r_iload dX8_search_115 0 rfl ?_
    refine r_aload_n dX8_search_117 2 rfl ?_
    refine s_getR (b := 57) ok_X8 dX8_search_118 (k := 1) (by decide) fl_X8_14 rfl rfl rfl ?_
    refine s_getU dX8_search_121 fl_X8_67 rfl ?_
    refine r_icmp_ge (t := 165) dX8_search_124 (by decide) (fun c1 => ?_) (fun c1 => ?_)
    · have c1 : (vU σ 57) ≤ (nI i) := c1
      refine r_iconst (v := (-1)) dX8_search_165 (by decide) ?_
      refine r_iret rfl dX8_search_166 ?_
      rw [w_b]; exact ⟨rfl, rfl⟩
    · have c1 : ¬ ((vU σ 57) ≤ (nI i)) := c1
      refine r_iload dX8_search_127 0 rfl ?_
      refine r_iload_n dX8_search_129 1 rfl ?_
      refine r_icmp_ge (t := 165) dX8_search_130 (by decide) (fun _ => ?_) (fun hh => absurd hc hh)
      refine r_iconst (v := (-1)) dX8_search_165 (by decide) ?_
      refine r_iret rfl dX8_search_166 ?_
      rw [w_b]; exact ⟨rfl, rfl⟩
  | succ k ih =>
    intro i σ hJ hu hi
    have hc : ¬ nI n ≤ nI i := nI_ge (by omega) (by omega)
    refine r_iload dX8_search_115 0 rfl ?_
    refine r_aload_n dX8_search_117 2 rfl ?_
    refine s_getR (b := 57) ok_X8 dX8_search_118 (k := 1) (by decide) fl_X8_14 rfl rfl rfl ?_
    refine s_getU dX8_search_121 fl_X8_67 rfl ?_
    refine r_icmp_ge (t := 165) dX8_search_124 (by decide) (fun c1 => ?_) (fun c1 => ?_)
    · have c1 : (vU σ 57) ≤ (nI i) := c1
      refine r_iconst (v := (-1)) dX8_search_165 (by decide) ?_
      refine r_iret rfl dX8_search_166 ?_
      rw [w_b, if_pos c1]; exact ⟨rfl, rfl⟩
    · have c1 : ¬ ((vU σ 57) ≤ (nI i)) := c1
      refine r_iload dX8_search_127 0 rfl ?_
      refine r_iload_n dX8_search_129 1 rfl ?_
      refine r_icmp_ge (t := 165) dX8_search_130 (by decide) (fun hh => absurd hh hc) (fun _ => ?_)
      refine r_aload_n dX8_search_133 2 rfl ?_
      refine r_aload_n dX8_search_134 3 rfl ?_
      refine r_aload_n dX8_search_135 2 rfl ?_
      refine s_getR (b := 57) ok_X8 dX8_search_136 (k := 1) (by decide) fl_X8_14 rfl rfl rfl ?_
      refine r_iload dX8_search_139 0 rfl ?_
      refine x_callV (Y := mX7_get) (d' := 1) dX8_search_141 ml_X8_88 yv_X7_get (by omega) rfl rfl (by simp [Value.category]) (sR_isR rfl) (c_get rfl (nI i)) ?_
      refine r_iload_n dX8_search_144 4 rfl ?_
      refine x_callV (Y := mX8_searchFrom) (d' := d' + 2) dX8_search_145 ml_X8_92 yv_X8_searchFrom (by omega) rfl rfl (by simp [Value.category]) (sR_is rfl rfl) (c_X8_searchFrom hd hV hF hL hN hE hM hst hLc hL3 σ hJ hu (rg σ 57 (nI i)) h) ?_
      refine r_istore (lo' := [(5, .int (w_fa (w_sf fN fE fM Lc σ (rg σ 57 (nI i)) h))), (4, .int (nI i)), (3, .int (nI n)), (0, .ref (ad 56)), (1, .ref (ad G)), (2, .int h)]) dX8_search_148 (by decide) rfl ?_
      refine r_iload dX8_search_150 0 rfl ?_
      refine r_iconst (v := (-1)) dX8_search_152 (by decide) ?_
      refine r_icmp_eq (t := 159) dX8_search_153 (by decide) (fun c2 => ?_) (fun c2 => ?_)
      · have c2 : (w_fa (w_sf fN fE fM Lc σ (rg σ 57 (nI i)) h)) = ((-1)) := c2
        refine r_iinc (v := (nI i) + 1) (lo' := [(4, .int ((nI i) + 1)), (5, .int (w_fa (w_sf fN fE fM Lc σ (rg σ 57 (nI i)) h))), (3, .int (nI n)), (0, .ref (ad 56)), (1, .ref (ad G)), (2, .int h)]) dX8_search_159 1 rfl rfl (by decide) rfl ?_
        refine r_goto (t := 115) dX8_search_162 (by decide) ?_
        have hr : srel σ (w_sf fN fE fM Lc σ (rg σ 57 (nI i)) h).2.2 ∧ (uok σ 57 → uok (w_sf fN fE fM Lc σ (rg σ 57 (nI i)) h).2.2 57) := w_o_ok Lc 0 σ
        rw [nI_1, w_b, if_neg c1, if_pos c2]
        exact ab_E.lo [0, 2, 3, 4, 5] rfl (ih (i + 1) _ (hst _ _ hr.1 hJ) (hr.2 hu) (by omega))
      · have c2 : ¬ ((w_fa (w_sf fN fE fM Lc σ (rg σ 57 (nI i)) h)) = ((-1))) := c2
        refine r_iload dX8_search_156 0 rfl ?_
        refine r_iret rfl dX8_search_158 ?_
        rw [w_b, if_neg c1, if_neg c2]; exact ⟨rfl, rfl⟩
theorem c_X8_search {ad : Nat → Nat} {d' G : Nat} {J : sS → Prop} {fV fF fL fN fE fM : sS → List Int32 → Int32} (hd : 3 ≤ d') (hV : gr_m ad G J ⟨"OddRanks$Graph", "vertices", "()I"⟩ 0 d' fV) (hF : gr_m ad G J ⟨"OddRanks$Graph", "isFirst", "(I)Z"⟩ 1 d' fF) (hL : gr_m ad G J ⟨"OddRanks$Graph", "letterCount", "()I"⟩ 0 d' fL) (hN : gr_m ad G J ⟨"OddRanks$Graph", "fan", "(II)I"⟩ 2 d' fN) (hE : gr_m ad G J ⟨"OddRanks$Graph", "goal", "(III)I"⟩ 3 d' fE) (hM : gr_m ad G J ⟨"OddRanks$Graph", "isMarked", "(I)Z"⟩ 1 d' fM) (hst : ∀ σ τ, srel σ τ → J σ → J τ) {Lc : Nat} (hLc : ∀ σ, J σ → fL σ [] = nI Lc) (hL3 : Lc ≤ 3) {n : Nat} (hn : n ≤ 100000) (σ : sS) (hJ : J σ) (hVn : fV σ [] = nI n) (hu : vC σ 57 ≤ 270000) (h : Int32) : ab_X (sR ad) (d' + 3) mX8_search [.ref (ad 56), .ref (ad G), .int h] σ (some (.int (w_fa (w_se fF fN fE fM Lc n σ h)))) (w_se fF fN fE fM Lc n σ h).2.2 := by
  refine ab_X.of (by decide) (Nat.le_of_ble_eq_true rfl) ?_
  refine r_aload_n dX8_search_0 1 rfl ?_
  refine x_callG [] hV dX8_search_1 ml_X8_61 (by omega) hJ rfl rfl (by simp [Value.category]) ?_
  rw [hVn]
  refine r_istore_n (lo' := [(3, .int (nI n)), (0, .ref (ad 56)), (1, .ref (ad G)), (2, .int h)]) dX8_search_4 (by decide) rfl ?_
  refine r_aload_n dX8_search_5 1 rfl ?_
  refine s_getR (b := 57) ok_X8 dX8_search_6 (k := 1) (by decide) fl_X8_14 rfl rfl rfl ?_
  refine r_iconst (v := 0) dX8_search_9 (by decide) ?_
  refine s_putU dX8_search_10 fl_X8_67 rfl ?_
  refine r_aload_n dX8_search_13 1 rfl ?_
  refine s_getR (b := 58) ok_X8 dX8_search_14 (k := 2) (by decide) fl_X8_20 rfl rfl rfl ?_
  refine r_iload_n dX8_search_17 0 rfl ?_
  refine x_callV0 (Y := mX7_wipe) (d' := 3) dX8_search_18 ml_X8_70 yv_X7_wipe (by omega) rfl rfl (by simp [Value.category]) (sR_isR rfl) (c_wipe rfl n (by omega)) ?_
  refine r_aload_n dX8_search_21 1 rfl ?_
  refine s_getR (b := 59) ok_X8 dX8_search_22 (k := 3) (by decide) fl_X8_23 rfl rfl rfl ?_
  refine r_iload_n dX8_search_25 0 rfl ?_
  refine x_callV0 (Y := mX7_wipe) (d' := 3) dX8_search_26 ml_X8_70 yv_X7_wipe (by omega) rfl rfl (by simp [Value.category]) (sR_isR rfl) (c_wipe rfl n (by omega)) ?_
  refine r_aload_n dX8_search_29 1 rfl ?_
  refine s_getR (b := 60) ok_X8 dX8_search_30 (k := 4) (by decide) fl_X8_26 rfl rfl rfl ?_
  refine r_iload_n dX8_search_33 0 rfl ?_
  refine x_callV0 (Y := mX7_wipe) (d' := 3) dX8_search_34 ml_X8_70 yv_X7_wipe (by omega) rfl rfl (by simp [Value.category]) (sR_isR rfl) (c_wipe rfl n (by omega)) ?_
  refine r_iconst (v := 0) dX8_search_37 (by decide) ?_
  refine r_istore (lo' := [(4, .int 0), (3, .int (nI n)), (0, .ref (ad 56)), (1, .ref (ad G)), (2, .int h)]) dX8_search_38 (by decide) rfl ?_
  refine ab_E.lo [0, 1, 2, 3, 4] (lo' := [(4, .int (nI 0)), (3, .int (nI n)), (0, .ref (ad 56)), (1, .ref (ad G)), (2, .int h)]) rfl ?_
  refine l_X8_a hd hV hF hL hN hE hM hst hLc hL3 hn n 0 (w_in σ n) (hst _ _ w_in_ok.1 hJ) (w_in_ok.2 hu) (by omega) (fun hq => ?_) (fun hq => ?_)
  rotate_left
  · unfold w_se; rw [if_pos hq]; unfold w_fa; rw [if_pos hq]; exact ⟨rfl, rfl⟩
  have hr := w_a_ok (fF := fF) (fM := fM) (h := h) n 0 (w_in σ n)
  have e0 : w_se fF fN fE fM Lc n σ h = w_b fN fE fM Lc h n 0 (w_a fF fM h n 0 (w_in σ n)).2.2 := by unfold w_se; rw [if_neg (by rw [hq]; decide)]
  rw [e0]
  refine r_iconst (v := 0) dX8_search_112 (by decide) ?_
  refine r_istore (lo' := [(4, .int 0), (3, .int (nI n)), (0, .ref (ad 56)), (1, .ref (ad G)), (2, .int h)]) dX8_search_113 (by decide) rfl ?_
  exact ab_E.lo [0, 1, 2, 3, 4] rfl (l_X8_b hd hV hF hL hN hE hM hst hLc hL3 hn n 0 _ (hst _ _ hr.1 (hst _ _ w_in_ok.1 hJ)) (hr.2 (w_in_ok.2 hu)) (by omega))
def w_wr (pl : Nat) : Nat → Int32 → sS → sS
  | 0, _, σ => σ
  | k + 1, u, σ => w_wr pl k (rg (rp σ 61 (nI pl + nI k) (rg σ 59 u)) 58 u) (rp σ 61 (nI pl + nI k) (rg σ 59 u))
theorem w_wr_ok {pl : Nat} : ∀ (k : Nat) (u : Int32) (σ : sS), srel σ (w_wr pl k u σ) ∧ (w_wr pl k u σ).2 = σ.2 ∧ vI (w_wr pl k u σ) 56 = vI σ 56 := by
  intro k
  induction k with
  | zero => intro u σ; exact ⟨srel.rf, rfl, rfl⟩
  | succ k ih =>
    intro u σ
    rw [w_wr]
    have q := ih (rg (rp σ 61 (nI pl + nI k) (rg σ 59 u)) 58 u) (rp σ 61 (nI pl + nI k) (rg σ 59 u))
    exact ⟨(srel.rp (by decide) (by decide)).tr q.1, q.2.1.trans rp_2, q.2.2.trans (rp_I (by decide))⟩
def w_ww (σ : sS) (v : Int32) (pl ln : Nat) : sS := w_wr pl ln v (rx σ 61 (pl + ln))
theorem l_X8_w {ad : Nat → Nat} {d pl : Nat} {v x : Int32} (hd : 2 ≤ d) : ∀ (k : Nat) (u : Int32) (σ : sS), k < 2 ^ 30 → ab_E (sR ad) mX8_writeWay d 29 [(5, .int (nI k + (-1))), (4, .int u), (3, .int x), (0, .ref (ad 56)), (1, .int v), (2, .int (nI pl))] [] σ (fun r σ' => r = some (.int x) ∧ σ' = w_wr pl k u σ) := by
  intro k
  induction k with
  | zero =>
    intro u σ hk
    refine r_iload dX8_writeWay_29 0 rfl ?_
    refine r_if_lt (t := 71) dX8_writeWay_31 (by decide) (fun _ => ?_) (fun hh => absurd (by decide) hh)
    refine r_iload_n dX8_writeWay_71 2 rfl ?_
    refine r_iret rfl dX8_writeWay_72 ?_
    exact ⟨rfl, rfl⟩
  | succ k ih =>
    intro u σ hk
    rw [pk_m1]
    refine r_iload dX8_writeWay_29 0 rfl ?_
    refine r_if_lt (t := 71) dX8_writeWay_31 (by decide) (fun hh => absurd hh (nI_pos (by omega))) (fun _ => ?_)
    refine r_aload_n dX8_writeWay_34 3 rfl ?_
    refine s_getR (b := 61) ok_X8 dX8_writeWay_35 (k := 5) (by decide) fl_X8_29 rfl rfl rfl ?_
    refine r_iload_n dX8_writeWay_38 5 rfl ?_
    refine r_iload dX8_writeWay_39 0 rfl ?_
    refine r_iadd dX8_writeWay_41 ?_
    refine r_aload_n dX8_writeWay_42 3 rfl ?_
    refine s_getR (b := 59) ok_X8 dX8_writeWay_43 (k := 3) (by decide) fl_X8_23 rfl rfl rfl ?_
    refine r_iload dX8_writeWay_46 1 rfl ?_
    refine x_callV (Y := mX7_get) (d' := 1) dX8_writeWay_48 ml_X8_88 yv_X7_get (by omega) rfl rfl (by simp [Value.category]) (sR_isR rfl) (c_get rfl u) ?_
    refine x_callV0 (Y := mX7_put) (d' := 1) dX8_writeWay_51 ml_X8_80 yv_X7_put (by omega) rfl rfl (by simp [Value.category]) (sR_isR rfl) (c_put rfl ((nI pl) + (nI k)) (rg σ 59 u)) ?_
    refine r_aload_n dX8_writeWay_54 3 rfl ?_
    refine s_getR (b := 58) ok_X8 dX8_writeWay_55 (k := 2) (by decide) fl_X8_20 rfl rfl rfl ?_
    refine r_iload dX8_writeWay_58 1 rfl ?_
    refine x_callV (Y := mX7_get) (d' := 1) dX8_writeWay_60 ml_X8_88 yv_X7_get (by omega) rfl rfl (by simp [Value.category]) (sR_isR rfl) (c_get rfl u) ?_
    refine r_istore (lo' := [(4, .int (rg (rp σ 61 ((nI pl) + (nI k)) (rg σ 59 u)) 58 u)), (5, .int (nI k)), (3, .int x), (0, .ref (ad 56)), (1, .int v), (2, .int (nI pl))]) dX8_writeWay_63 (by decide) rfl ?_
    refine r_iinc (v := (nI k) + (-1)) (lo' := [(5, .int ((nI k) + (-1))), (4, .int (rg (rp σ 61 ((nI pl) + (nI k)) (rg σ 59 u)) 58 u)), (3, .int x), (0, .ref (ad 56)), (1, .int v), (2, .int (nI pl))]) dX8_writeWay_65 1 rfl rfl (by decide) rfl ?_
    refine r_goto (t := 29) dX8_writeWay_68 (by decide) ?_
    rw [w_wr]
    exact ab_E.lo [0, 1, 2, 3, 4, 5] rfl (ih _ _ (by omega))
theorem c_X8_writeWay {ad : Nat → Nat} (σ : sS) (v : Int32) {pl ln : Nat} (hl : rg σ 60 v = nI (ln + 1)) (h1 : ln < 2 ^ 20) (h2 : pl < 2 ^ 20) : ab_X (sR ad) 3 mX8_writeWay [.ref (ad 56), .int v, .int (nI pl)] σ (some (.int (nI ln))) (w_ww σ v pl ln) := by
  refine ab_X.of (by decide) (Nat.le_of_ble_eq_true rfl) ?_
  refine r_aload_n dX8_writeWay_0 0 rfl ?_
  refine s_getR (b := 60) ok_X8 dX8_writeWay_1 (k := 4) (by decide) fl_X8_26 rfl rfl rfl ?_
  refine r_iload_n dX8_writeWay_4 1 rfl ?_
  refine x_callV (Y := mX7_get) (d' := 1) dX8_writeWay_5 ml_X8_88 yv_X7_get (by omega) rfl rfl (by simp [Value.category]) (sR_isR rfl) (c_get rfl v) ?_
  refine r_iconst (v := 1) dX8_writeWay_8 (by decide) ?_
  refine r_isub dX8_writeWay_9 ?_
  rw [hl, nI_pred]
  refine r_istore_n (lo' := [(3, .int (nI ln)), (0, .ref (ad 56)), (1, .int v), (2, .int (nI pl))]) dX8_writeWay_10 (by decide) rfl ?_
  refine r_aload_n dX8_writeWay_11 1 rfl ?_
  refine s_getR (b := 61) ok_X8 dX8_writeWay_12 (k := 5) (by decide) fl_X8_29 rfl rfl rfl ?_
  refine r_iload_n dX8_writeWay_15 3 rfl ?_
  refine r_iload_n dX8_writeWay_16 0 rfl ?_
  refine r_iadd dX8_writeWay_17 ?_
  rw [nI_add]
  refine x_callV0 (Y := mX7_stretch) (d' := 2) dX8_writeWay_18 ml_X8_112 yv_X7_stretch (by omega) rfl rfl (by simp [Value.category]) (sR_isR rfl) (c_stretch rfl (pl + ln) (by omega)) ?_
  refine r_iload_n dX8_writeWay_21 2 rfl ?_
  refine r_istore (lo' := [(4, .int v), (3, .int (nI ln)), (0, .ref (ad 56)), (1, .int v), (2, .int (nI pl))]) dX8_writeWay_22 (by decide) rfl ?_
  refine r_iload_n dX8_writeWay_24 1 rfl ?_
  refine r_iconst (v := 1) dX8_writeWay_25 (by decide) ?_
  refine r_isub dX8_writeWay_26 ?_
  refine r_istore (lo' := [(5, .int ((nI ln) - 1)), (4, .int v), (3, .int (nI ln)), (0, .ref (ad 56)), (1, .int v), (2, .int (nI pl))]) dX8_writeWay_27 (by decide) rfl ?_
  rw [show nI ln - 1 = nI ln + (-1) from Int32.sub_eq_add_neg _ _]
  exact ab_E.lo [0, 1, 2, 3, 4, 5] rfl (l_X8_w (by omega) ln v _ (by omega))
