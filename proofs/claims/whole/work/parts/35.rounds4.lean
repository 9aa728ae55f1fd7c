/-! Rounds.isTaken -/
theorem fh.sw {F H : Nat} (h : fh F H) : fh H F := h.elim (fun q => Or.inr ⟨q.2, q.1⟩) (fun q => Or.inl ⟨q.2, q.1⟩)
def r_ff : Nat → Nat → Nat → Nat × Nat
  | 0, F, H => (F, H)
  | k + 1, F, H => r_ff k H F
def r_go (fN fE : sS → List Int32 → Int32) (Lc n : Nat) : Nat → Nat → Nat → Nat → sS → sS
  | 0, _, _, _, σ => σ
  | k + 1, i, F, H, σ => r_go fN fE Lc n k (i + 1) H F (r_tu F H n (r_av fN fE F H Lc (rg σ 6 (nI i)) 0 n 0 σ))
theorem r_go_ok {fN fE : sS → List Int32 → Int32} {G P Lc n : Nat} : ∀ (k i F H : Nat) (σ : sS), fh F H → r_d F H G P σ → fh (r_ff k F H).1 (r_ff k F H).2 ∧ rrel σ (r_go fN fE Lc n k i F H σ) ∧ r_d (r_ff k F H).1 (r_ff k F H).2 G P (r_go fN fE Lc n k i F H σ) := by
  intro k
  induction k with
  | zero => intro i F H σ h hD; exact ⟨h, rrel.rf, hD⟩
  | succ k ih =>
    intro i F H σ h hD
    rw [r_go]
    have q1 := r_av_ok (fN := fN) (fE := fE) (G := G) (P := P) (Lc := Lc) h (s := rg σ 6 (nI i)) (b := 0) n 0 σ
    have q2 := r_tu_ok (n := n) h (q1.2.1 hD)
    have q := ih (i + 1) H F _ h.sw q2.2
    exact ⟨q.1, (q1.1.tr q2.1).tr q.2.1, q.2.2⟩
theorem l_X6_go {ad : Nat → Nat} {d' G : Nat} {J : sS → Prop} {fV fF fL fN fE fM : sS → List Int32 → Int32} (hd : 3 ≤ d') (hV : gr_m ad G J ⟨"OddRanks$Graph", "vertices", "()I"⟩ 0 d' fV) (hF : gr_m ad G J ⟨"OddRanks$Graph", "isFirst", "(I)Z"⟩ 1 d' fF) (hL : gr_m ad G J ⟨"OddRanks$Graph", "letterCount", "()I"⟩ 0 d' fL) (hN : gr_m ad G J ⟨"OddRanks$Graph", "fan", "(II)I"⟩ 2 d' fN) (hE : gr_m ad G J ⟨"OddRanks$Graph", "goal", "(III)I"⟩ 3 d' fE) (hM : gr_m ad G J ⟨"OddRanks$Graph", "isMarked", "(I)Z"⟩ 1 d' fM) (hsr : ∀ σ τ, rrel σ τ → J σ → J τ) (hsl : ∀ σ τ, lrel σ τ → J σ → J τ) {P : Nat} (hP7 : la P = (7, 0)) {n : Nat} (hVn : ∀ σ, J σ → fV σ [] = nI n) (hn : n ≤ 100000) {Lc : Nat} (hLc : ∀ σ, J σ → fL σ [] = nI Lc) (hL3 : Lc ≤ 3) {m : Nat} (hm : m ≤ 100000) {Q : Option Value → sS → Prop} : ∀ (k i F H : Nat) (σ : sS), fh F H → J σ → r_d F H G P σ → vU σ 6 = nI m → i + k = m → ab_E (sR ad) mX6_isTaken (d' + 6) 39 [(0, .ref (ad 45)), (1, .ref (ad G)), (2, .ref (ad 6)), (3, .ref (ad P))] [] (r_go fN fE Lc n k i F H σ) Q → ab_E (sR ad) mX6_isTaken (d' + 6) 9 [(4, .int (nI i)), (0, .ref (ad 45)), (1, .ref (ad G)), (2, .ref (ad 6)), (3, .ref (ad P))] [] σ Q := by
  intro k
  induction k with
  | zero =>
    intro i F H σ hFH hJ hD hS hi K
    have hc : vU σ 6 ≤ nI i := by rw [hS]; exact nI_le (by omega) (by omega)
    refine r_iload dX6_isTaken_9 0 rfl ?_
    refine r_aload_n dX6_isTaken_11 3 rfl ?_
    refine s_getU dX6_isTaken_12 fl_X6_44 rfl ?_
    refine r_icmp_ge (t := 39) dX6_isTaken_15 (by decide) (fun _ => ?_) (fun hh => absurd hc hh)
    exact ab_E.lo [1, 2, 3, 4] rfl K
  | succ k ih =>
    intro i F H σ hFH hJ hD hS hi K
    have hc : ¬ vU σ 6 ≤ nI i := by rw [hS]; exact nI_ge (by omega) (by omega)
    have q1 := r_av_ok (fN := fN) (fE := fE) (G := G) (P := P) (Lc := Lc) hFH (s := rg σ 6 (nI i)) (b := 0) n 0 σ
    refine r_iload dX6_isTaken_9 0 rfl ?_
    refine r_aload_n dX6_isTaken_11 3 rfl ?_
    refine s_getU dX6_isTaken_12 fl_X6_44 rfl ?_
    refine r_icmp_ge (t := 39) dX6_isTaken_15 (by decide) (fun hh => absurd hh hc) (fun _ => ?_)
    refine r_aload_n dX6_isTaken_18 1 rfl ?_
    refine r_aload_n dX6_isTaken_19 3 rfl ?_
    refine r_iload dX6_isTaken_20 0 rfl ?_
    refine x_callV (Y := mX7_get) (d' := 1) dX6_isTaken_22 ml_X6_48 yv_X7_get (by omega) rfl rfl (by simp [Value.category]) (sR_isR rfl) (c_get rfl (nI i)) ?_
    refine r_iconst (v := 0) dX6_isTaken_25 (by decide) ?_
    refine x_callV0 (Y := mX6_advance) (d' := d' + 3) dX6_isTaken_26 ml_X6_52 yv_X6_advance (by omega) rfl rfl (by simp [Value.category]) (sR_is rfl rfl) (c_X6_advance hd hV hL hN hE hsr hFH hP7 hVn hn hLc σ hJ hD (rg σ 6 (nI i)) 0) ?_
    refine r_aload_n dX6_isTaken_29 1 rfl ?_
    refine x_callV0 (Y := mX6_turn) (d' := d' + 2) dX6_isTaken_30 ml_X6_56 yv_X6_turn (by omega) rfl rfl (by simp [Value.category]) (sR_is rfl rfl) (c_X6_turn hd hV hsr hFH hP7 hVn hn (r_av fN fE F H Lc (rg σ 6 (nI i)) 0 n 0 σ) (hsr _ _ q1.1 hJ) (q1.2.1 hD)) ?_
    refine r_iinc (v := (nI i) + 1) (lo' := [(4, .int ((nI i) + 1)), (0, .ref (ad 45)), (1, .ref (ad G)), (2, .ref (ad 6)), (3, .ref (ad P))]) dX6_isTaken_33 0 rfl rfl (by decide) rfl ?_
    refine r_goto (t := 9) dX6_isTaken_36 (by decide) ?_
    have q2 := r_tu_ok (n := n) hFH (q1.2.1 hD)
    rw [r_go] at K
    rw [nI_1]
    exact ab_E.lo [0, 1, 2, 3, 4] rfl (ih (i + 1) H F _ hFH.sw (hsr _ _ (q1.1.tr q2.1) hJ) q2.2 ((((q1.1.tr q2.1).1 6 (Or.inl (by decide))).2.1).trans hS) (by omega) K)
theorem l_X6_end {ad : Nat → Nat} {d' G : Nat} {J : sS → Prop} {fV fF fL fN fE fM : sS → List Int32 → Int32} (hd : 3 ≤ d') (hV : gr_m ad G J ⟨"OddRanks$Graph", "vertices", "()I"⟩ 0 d' fV) (hF : gr_m ad G J ⟨"OddRanks$Graph", "isFirst", "(I)Z"⟩ 1 d' fF) (hL : gr_m ad G J ⟨"OddRanks$Graph", "letterCount", "()I"⟩ 0 d' fL) (hN : gr_m ad G J ⟨"OddRanks$Graph", "fan", "(II)I"⟩ 2 d' fN) (hE : gr_m ad G J ⟨"OddRanks$Graph", "goal", "(III)I"⟩ 3 d' fE) (hM : gr_m ad G J ⟨"OddRanks$Graph", "isMarked", "(I)Z"⟩ 1 d' fM) (hsr : ∀ σ τ, rrel σ τ → J σ → J τ) (hsl : ∀ σ τ, lrel σ τ → J σ → J τ) {P : Nat} (hP7 : la P = (7, 0)) {n : Nat} (hVn : ∀ σ, J σ → fV σ [] = nI n) (hn : n ≤ 100000) {Lc : Nat} (hLc : ∀ σ, J σ → fL σ [] = nI Lc) (hL3 : Lc ≤ 3) {F H : Nat} (hFH : fh F H) {RI : sS → Prop} {N : Nat} (hN0 : N ≤ 100000) (hR : l_ok (fun σ => J σ ∧ r_d F H G P σ) RI (r_F F) (r_N fN P) (r_E fE P) r_M 1 N) (σ : sS) (hJ : J σ) (hD : r_d F H G P σ) (hVN : r_V P σ [] = nI N) (hI : RI (l_ini σ N)) : ab_E (sR ad) mX6_isTaken (d' + 6) 39 [(0, .ref (ad 45)), (1, .ref (ad G)), (2, .ref (ad 6)), (3, .ref (ad P))] [] σ (fun r9 σ' => r9 = some (.int (if r_tk F (l_run (r_F F) (r_N fN P) (r_E fE P) r_M 1 N σ) n 0 0 = 0 then 0 else 1)) ∧ σ' = l_run (r_F F) (r_N fN P) (r_E fE P) r_M 1 N σ) := by
  refine r_aload_n dX6_isTaken_39 0 rfl ?_
  refine s_getR (b := 19) ok_X6 dX6_isTaken_40 (k := 0) (by decide) fl_X6_32 rfl rfl rfl ?_
  refine r_aload_n dX6_isTaken_43 0 rfl ?_
  refine x_callV0 (Y := mX3_run) (d' := d' + 5) dX6_isTaken_44 ml_X6_59 yv_X3_run (by omega) rfl rfl (by simp [Value.category]) (sR_is rfl rfl) (c_X3_run (J := (fun σ => J σ ∧ r_d F H G P σ)) (d' := d' + 1) (G := 45) (by omega) (g_X6_vertices (J := J) (d' := d') (G := G) (Nat.le_of_succ_le hd) hFH.f.1 hFH.h.1 hP7) (g_X6_isFirst (J := J) (d' := d') (G := G) (Nat.le_of_succ_le hd) hFH.f.1 hFH.h.1 hP7) (g_X6_letterCount (J := J) (d' := d') (G := G) (Nat.le_of_succ_le hd) hFH.f.1 hFH.h.1 hP7) (g_X6_fan (J := J) (d' := d') (G := G) (Nat.le_of_succ_le hd) hN hFH.f.1 hFH.h.1 hP7) (g_X6_goal (J := J) (d' := d') (G := G) (Nat.le_of_succ_le hd) hE hFH.f.1 hFH.h.1 hP7) (g_X6_isMarked (J := J) (d' := d') (G := G) (Nat.le_of_succ_le hd) hFH.f.1 hFH.h.1 hP7) (fun σ τ h q => ⟨hsl _ _ h q.1, q.2.of h.2.2⟩) (Lc := 1) (fun _ _ => (by decide : (1 : Int32) = nI 1)) (by decide) hR hN0 σ ⟨hJ, hD⟩ hVN hI) ?_
  refine r_aload_n dX6_isTaken_47 0 rfl ?_
  have hk := hR.1 _ (l_ro_RI hR N 0 _ (by omega) hI)
  refine x_callV (Y := mX6_stemsTaken) (d' := d' + 2) dX6_isTaken_48 ml_X6_65 yv_X6_stemsTaken (by omega) rfl rfl (by simp [Value.category]) (sR_is rfl rfl) (c_X6_stemsTaken hd hV hsr hFH hP7 hVn hn (l_run (r_F F) (r_N fN P) (r_E fE P) r_M 1 N σ) hk.1 hk.2) ?_
  refine r_if_eq (t := 58) dX6_isTaken_51 (by decide) (fun c1 => ?_) (fun c1 => ?_)
  · have c1 : (r_tk F (l_run (r_F F) (r_N fN P) (r_E fE P) r_M 1 N σ) n 0 0) = 0 := c1
    refine r_iconst (v := 0) dX6_isTaken_58 (by decide) ?_
    refine r_zret rfl (by decide) dX6_isTaken_59 ?_
    exact ⟨by rw [if_pos c1], rfl⟩
  · have c1 : ¬ ((r_tk F (l_run (r_F F) (r_N fN P) (r_E fE P) r_M 1 N σ) n 0 0) = 0) := c1
    refine r_iconst (v := 1) dX6_isTaken_54 (by decide) ?_
    refine r_goto (t := 59) dX6_isTaken_55 (by decide) ?_
    refine r_zret rfl (by decide) dX6_isTaken_59 ?_
    exact ⟨by rw [if_neg c1], rfl⟩
theorem c_X6_isTaken {ad : Nat → Nat} {d' G : Nat} {J : sS → Prop} {fV fF fL fN fE fM : sS → List Int32 → Int32} (hd : 3 ≤ d') (hV : gr_m ad G J ⟨"OddRanks$Graph", "vertices", "()I"⟩ 0 d' fV) (hF : gr_m ad G J ⟨"OddRanks$Graph", "isFirst", "(I)Z"⟩ 1 d' fF) (hL : gr_m ad G J ⟨"OddRanks$Graph", "letterCount", "()I"⟩ 0 d' fL) (hN : gr_m ad G J ⟨"OddRanks$Graph", "fan", "(II)I"⟩ 2 d' fN) (hE : gr_m ad G J ⟨"OddRanks$Graph", "goal", "(III)I"⟩ 3 d' fE) (hM : gr_m ad G J ⟨"OddRanks$Graph", "isMarked", "(I)Z"⟩ 1 d' fM) (hsr : ∀ σ τ, rrel σ τ → J σ → J τ) (hsl : ∀ σ τ, lrel σ τ → J σ → J τ) {P : Nat} (hP7 : la P = (7, 0)) {n : Nat} (hVn : ∀ σ, J σ → fV σ [] = nI n) (hn : n ≤ 100000) {Lc : Nat} (hLc : ∀ σ, J σ → fL σ [] = nI Lc) (hL3 : Lc ≤ 3) {F H m : Nat} (hFH : fh F H) (hm : m ≤ 100000) {RI : sS → Prop} {N : Nat} (hN0 : N ≤ 100000) (hR : l_ok (fun σ => J σ ∧ r_d (r_ff m F H).1 (r_ff m F H).2 G P σ) RI (r_F (r_ff m F H).1) (r_N fN P) (r_E fE P) r_M 1 N) (σ : sS) (hJ : J σ) (hf1 : vR σ 45 1 = some F) (hf2 : vR σ 45 2 = some H) (hS : vU σ 6 = nI m) (hVN : r_V P (r_go fN fE Lc n m 0 F H (r_set fF fM F H G P n σ)) [] = nI N) (hI : RI (l_ini (r_go fN fE Lc n m 0 F H (r_set fF fM F H G P n σ)) N)) : ab_X (sR ad) (d' + 6) mX6_isTaken [.ref (ad 45), .ref (ad G), .ref (ad 6), .ref (ad P)] σ (some (.int (if r_tk (r_ff m F H).1 (l_run (r_F (r_ff m F H).1) (r_N fN P) (r_E fE P) r_M 1 N (r_go fN fE Lc n m 0 F H (r_set fF fM F H G P n σ))) n 0 0 = 0 then 0 else 1))) (l_run (r_F (r_ff m F H).1) (r_N fN P) (r_E fE P) r_M 1 N (r_go fN fE Lc n m 0 F H (r_set fF fM F H G P n σ))) := by
  refine ab_X.of (by decide) (Nat.le_of_ble_eq_true rfl) ?_
  refine r_aload_n dX6_isTaken_0 0 rfl ?_
  refine r_aload_n dX6_isTaken_1 1 rfl ?_
  refine r_aload_n dX6_isTaken_2 3 rfl ?_
  refine x_callV0 (Y := mX6_setOut) (d' := d' + 2) dX6_isTaken_3 ml_X6_40 yv_X6_setOut (by omega) rfl rfl (by simp [Value.category]) (sR_is rfl rfl) (c_X6_setOut hd hV hF hM hsr hFH hP7 hVn hn σ hJ hf1 hf2) ?_
  refine r_iconst (v := 0) dX6_isTaken_6 (by decide) ?_
  refine r_istore (lo' := [(4, .int 0), (0, .ref (ad 45)), (1, .ref (ad G)), (2, .ref (ad 6)), (3, .ref (ad P))]) dX6_isTaken_7 (by decide) rfl ?_
  have k1 := r_set_ok (fF := fF) (fM := fM) (G := G) (P := P) (n := n) hFH hf1 hf2
  have k2 := r_go_ok (fN := fN) (fE := fE) (Lc := Lc) (n := n) m 0 F H _ hFH k1.2
  refine ab_E.lo [0, 1, 2, 3, 4] (lo' := [(4, .int (nI 0)), (0, .ref (ad 45)), (1, .ref (ad G)), (2, .ref (ad 6)), (3, .ref (ad P))]) rfl (l_X6_go hd hV hF hL hN hE hM hsr hsl hP7 hVn hn hLc hL3 hm m 0 F H _ hFH (hsr _ _ k1.1 hJ) k1.2 (((k1.1.1 6 (Or.inl (by decide))).2.1).trans hS) (by omega) ?_)
  exact l_X6_end hd hV hF hL hN hE hM hsr hsl hP7 hVn hn hLc hL3 k2.1 hN0 hR _ (hsr _ _ (k1.1.tr k2.2.1) hJ) k2.2.2 hVN hI
