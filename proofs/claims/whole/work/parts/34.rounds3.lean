/-! Rounds.advance -/
def r_ai (fE : sS → List Int32 → Int32) (H : Nat) (v s g : Int32) : Nat → Nat → sS → sS
  | 0, _, σ => σ
  | k + 1, i, σ => r_ai fE H v s g k (i + 1) (rp σ H (fE σ [v, s, nI i]) (rg σ H (fE σ [v, s, nI i]) ||| g))
def r_a1 (fN fE : sS → List Int32 → Int32) (F H Lc : Nat) (s b : Int32) (σ : sS) (v : Int32) : sS := if rg σ F v = 0 then σ else if b = 0 then r_ai fE H v s (rg σ F v) (g_F fN σ v s) 0 σ else r_ai fE H v s (r_lg Lc (rg σ F v) s 9) (g_F fN σ v s) 0 σ
def r_av (fN fE : sS → List Int32 → Int32) (F H Lc : Nat) (s b : Int32) : Nat → Nat → sS → sS
  | 0, _, σ => σ
  | k + 1, v, σ => r_av fN fE F H Lc s b k (v + 1) (r_a1 fN fE F H Lc s b σ (nI v))
theorem r_ai_ok {fE : sS → List Int32 → Int32} {F H G P : Nat} (hFH : fh F H) {v s g : Int32} : ∀ (k i : Nat) (σ : sS), rrel σ (r_ai fE H v s g k i σ) ∧ (r_d F H G P σ → r_d F H G P (r_ai fE H v s g k i σ)) ∧ (r_ai fE H v s g k i σ).2 = σ.2 := by
  intro k
  induction k with
  | zero => intro i σ; exact ⟨rrel.rf, id, rfl⟩
  | succ k ih =>
    intro i σ
    rw [r_ai]
    have q := ih (i + 1) (rp σ H (fE σ [v, s, nI i]) (rg σ H (fE σ [v, s, nI i]) ||| g))
    exact ⟨(rrel.rf.ap hFH.h.2.1 hFH.h.2.2).tr q.1, fun h => q.2.1 h.ap, q.2.2.trans rp_2⟩
theorem r_a1_ok {fN fE : sS → List Int32 → Int32} {F H G P Lc : Nat} (hFH : fh F H) {s b v : Int32} {σ : sS} : rrel σ (r_a1 fN fE F H Lc s b σ v) ∧ (r_d F H G P σ → r_d F H G P (r_a1 fN fE F H Lc s b σ v)) ∧ (r_a1 fN fE F H Lc s b σ v).2 = σ.2 := by
  unfold r_a1
  split
  · exact ⟨rrel.rf, id, rfl⟩
  · split <;> exact r_ai_ok hFH _ _ _
theorem r_av_ok {fN fE : sS → List Int32 → Int32} {F H G P Lc : Nat} (hFH : fh F H) {s b : Int32} : ∀ (k v : Nat) (σ : sS), rrel σ (r_av fN fE F H Lc s b k v σ) ∧ (r_d F H G P σ → r_d F H G P (r_av fN fE F H Lc s b k v σ)) ∧ (r_av fN fE F H Lc s b k v σ).2 = σ.2 := by
  intro k
  induction k with
  | zero => intro v σ; exact ⟨rrel.rf, id, rfl⟩
  | succ k ih =>
    intro v σ
    rw [r_av]
    have q := ih (v + 1) (r_a1 fN fE F H Lc s b σ (nI v))
    have q1 := r_a1_ok (fN := fN) (fE := fE) (G := G) (P := P) (Lc := Lc) hFH (s := s) (b := b) (v := nI v) (σ := σ)
    exact ⟨q1.1.tr q.1, fun h => q.2.1 (q1.2.1 h), q.2.2.trans q1.2.2⟩
theorem l_X6_ai {ad : Nat → Nat} {d' G : Nat} {J : sS → Prop} {fV fL fN fE : sS → List Int32 → Int32} (hd : 3 ≤ d') (hV : gr_m ad G J ⟨"OddRanks$Graph", "vertices", "()I"⟩ 0 d' fV) (hL : gr_m ad G J ⟨"OddRanks$Graph", "letterCount", "()I"⟩ 0 d' fL) (hN : gr_m ad G J ⟨"OddRanks$Graph", "fan", "(II)I"⟩ 2 d' fN) (hE : gr_m ad G J ⟨"OddRanks$Graph", "goal", "(III)I"⟩ 3 d' fE) (hsr : ∀ σ τ, rrel σ τ → J σ → J τ) {F H P : Nat} (hFH : fh F H) (hP7 : la P = (7, 0)) {n : Nat} (hVn : ∀ σ, J σ → fV σ [] = nI n) (hn : n ≤ 100000) {Lc : Nat} (hLc : ∀ σ, J σ → fL σ [] = nI Lc) {v s g b x y : Int32} {Q : Option Value → sS → Prop} : ∀ (k i : Nat) (σ : sS), J σ → r_d F H G P σ → i ≤ x.toNatClampNeg → k = x.toNatClampNeg - i → ab_E (sR ad) mX6_advance (d' + 3) 107 [(3, .int v), (0, .ref (ad 45)), (1, .int s), (2, .int b)] [] (r_ai fE H v s g k i σ) Q → ab_E (sR ad) mX6_advance (d' + 3) 60 [(7, .int (nI i)), (6, .int x), (5, .int g), (4, .int y), (3, .int v), (0, .ref (ad 45)), (1, .int s), (2, .int b)] [] σ Q := by
  intro k
  induction k with
  | zero =>
    intro i σ hJ hD hi2 hi K
    have hx := cl_lt (i := x)
    have hc : x ≤ nI i := (le_cl (by omega)).mpr (by omega)
    refine r_iload dX6_advance_60 0 rfl ?_
    refine r_iload dX6_advance_62 1 rfl ?_
    refine r_icmp_ge (t := 107) dX6_advance_64 (by decide) (fun _ => ?_) (fun hh => absurd hc hh)
    exact ab_E.lo [4, 5, 6, 7] rfl K
  | succ k ih =>
    intro i σ hJ hD hi2 hi K
    have hx := cl_lt (i := x)
    have hc : ¬ x ≤ nI i := fun q => absurd ((le_cl (by omega)).mp q) (by omega)
    refine r_iload dX6_advance_60 0 rfl ?_
    refine r_iload dX6_advance_62 1 rfl ?_
    refine r_icmp_ge (t := 107) dX6_advance_64 (by decide) (fun hh => absurd hh hc) (fun _ => ?_)
    refine r_aload_n dX6_advance_67 5 rfl ?_
    refine s_getD (b := G) ok_X6 dX6_advance_68 (k := 5) (by decide) fl_X6_36 rfl rfl hD.2.2.1 ?_
    refine r_iload_n dX6_advance_71 4 rfl ?_
    refine r_iload_n dX6_advance_72 6 rfl ?_
    refine r_iload dX6_advance_73 0 rfl ?_
    refine x_callG [v, s, nI i] hE dX6_advance_75 ml_X6_108 (by omega) hJ rfl rfl (by simp [Value.category]) ?_
    refine r_istore (lo' := [(8, .int (fE σ [v, s, nI i])), (7, .int (nI i)), (6, .int x), (5, .int g), (4, .int y), (3, .int v), (0, .ref (ad 45)), (1, .int s), (2, .int b)]) dX6_advance_78 (by decide) rfl ?_
    refine r_aload_n dX6_advance_80 6 rfl ?_
    refine s_getD (b := H) ok_X6 dX6_advance_81 (k := 2) (by decide) fl_X6_20 rfl rfl hD.2.1 ?_
    refine r_iload dX6_advance_84 0 rfl ?_
    refine r_aload_n dX6_advance_86 6 rfl ?_
    refine s_getD (b := H) ok_X6 dX6_advance_87 (k := 2) (by decide) fl_X6_20 rfl rfl hD.2.1 ?_
    refine r_iload dX6_advance_90 0 rfl ?_
    refine x_callV (Y := mX7_get) (d' := 1) dX6_advance_92 ml_X6_48 yv_X7_get (by omega) rfl rfl (by simp [Value.category]) (sR_isR hFH.h.1) (c_get hFH.h.1 (fE σ [v, s, nI i])) ?_
    refine r_iload dX6_advance_95 3 rfl ?_
    refine r_ior dX6_advance_97 ?_
    refine x_callV0 (Y := mX7_put) (d' := 1) dX6_advance_98 ml_X6_94 yv_X7_put (by omega) rfl rfl (by simp [Value.category]) (sR_isR hFH.h.1) (c_put hFH.h.1 (fE σ [v, s, nI i]) ((rg σ H (fE σ [v, s, nI i])) ||| g)) ?_
    refine r_iinc (v := (nI i) + 1) (lo' := [(7, .int ((nI i) + 1)), (8, .int (fE σ [v, s, nI i])), (6, .int x), (5, .int g), (4, .int y), (3, .int v), (0, .ref (ad 45)), (1, .int s), (2, .int b)]) dX6_advance_101 1 rfl rfl (by decide) rfl ?_
    refine r_goto (t := 60) dX6_advance_104 (by decide) ?_
    rw [r_ai] at K
    rw [nI_1]
    exact ab_E.lo [0, 2, 3, 4, 5, 6, 7, 8] rfl (ih (i + 1) _ (hsr _ _ (rrel.rf.ap hFH.h.2.1 hFH.h.2.2) hJ) hD.ap (by omega) (by omega) K)
theorem l_X6_av {ad : Nat → Nat} {d' G : Nat} {J : sS → Prop} {fV fL fN fE : sS → List Int32 → Int32} (hd : 3 ≤ d') (hV : gr_m ad G J ⟨"OddRanks$Graph", "vertices", "()I"⟩ 0 d' fV) (hL : gr_m ad G J ⟨"OddRanks$Graph", "letterCount", "()I"⟩ 0 d' fL) (hN : gr_m ad G J ⟨"OddRanks$Graph", "fan", "(II)I"⟩ 2 d' fN) (hE : gr_m ad G J ⟨"OddRanks$Graph", "goal", "(III)I"⟩ 3 d' fE) (hsr : ∀ σ τ, rrel σ τ → J σ → J τ) {F H P : Nat} (hFH : fh F H) (hP7 : la P = (7, 0)) {n : Nat} (hVn : ∀ σ, J σ → fV σ [] = nI n) (hn : n ≤ 100000) {Lc : Nat} (hLc : ∀ σ, J σ → fL σ [] = nI Lc) {s b : Int32} : ∀ (k i : Nat) (σ : sS), J σ → r_d F H G P σ → i + k = n → ab_E (sR ad) mX6_advance (d' + 3) 2 [(3, .int (nI i)), (0, .ref (ad 45)), (1, .int s), (2, .int b)] [] σ (fun r9 σ' => r9 = none ∧ σ' = r_av fN fE F H Lc s b k i σ) := by
  intro k
  induction k with
  | zero =>
    intro i σ hJ hD hi
    have hc : nI n ≤ nI i := nI_le (by omega) (by omega)
    refine r_iload_n dX6_advance_2 0 rfl ?_
    refine r_aload_n dX6_advance_3 1 rfl ?_
    refine s_getD (b := G) ok_X6 dX6_advance_4 (k := 5) (by decide) fl_X6_36 rfl rfl hD.2.2.1 ?_
    refine x_callG [] hV dX6_advance_7 ml_X6_81 (by omega) hJ rfl rfl (by simp [Value.category]) ?_
    rw [hVn _ hJ]
    refine r_icmp_ge (t := 113) dX6_advance_10 (by decide) (fun _ => ?_) (fun hh => absurd hc hh)
    refine r_vret rfl dX6_advance_113 ?_
    exact ⟨rfl, rfl⟩
  | succ k ih =>
    intro i σ hJ hD hi
    have hc : ¬ nI n ≤ nI i := nI_ge (by omega) (by omega)
    refine r_iload_n dX6_advance_2 0 rfl ?_
    refine r_aload_n dX6_advance_3 1 rfl ?_
    refine s_getD (b := G) ok_X6 dX6_advance_4 (k := 5) (by decide) fl_X6_36 rfl rfl hD.2.2.1 ?_
    refine x_callG [] hV dX6_advance_7 ml_X6_81 (by omega) hJ rfl rfl (by simp [Value.category]) ?_
    rw [hVn _ hJ]
    refine r_icmp_ge (t := 113) dX6_advance_10 (by decide) (fun hh => absurd hh hc) (fun _ => ?_)
    refine r_aload_n dX6_advance_13 1 rfl ?_
    refine s_getD (b := F) ok_X6 dX6_advance_14 (k := 1) (by decide) fl_X6_14 rfl rfl hD.1 ?_
    refine r_iload_n dX6_advance_17 0 rfl ?_
    refine x_callV (Y := mX7_get) (d' := 1) dX6_advance_18 ml_X6_48 yv_X7_get (by omega) rfl rfl (by simp [Value.category]) (sR_isR hFH.f.1) (c_get hFH.f.1 (nI i)) ?_
    refine r_istore (lo' := [(4, .int (rg σ F (nI i))), (3, .int (nI i)), (0, .ref (ad 45)), (1, .int s), (2, .int b)]) dX6_advance_21 (by decide) rfl ?_
    refine r_iload dX6_advance_23 0 rfl ?_
    refine r_if_eq (t := 107) dX6_advance_25 (by decide) (fun c1 => ?_) (fun c1 => ?_)
    · have c1 : (rg σ F (nI i)) = 0 := c1
      refine r_iinc (v := (nI i) + 1) (lo' := [(3, .int ((nI i) + 1)), (4, .int (rg σ F (nI i))), (0, .ref (ad 45)), (1, .int s), (2, .int b)]) dX6_advance_107 1 rfl rfl (by decide) rfl ?_
      refine r_goto (t := 2) dX6_advance_110 (by decide) ?_
      have e0 : r_a1 fN fE F H Lc s b σ (nI i) = σ := by unfold r_a1; simp only [eq_true c1, ↓reduceIte]
      have q1 := r_a1_ok (fN := fN) (fE := fE) (G := G) (P := P) (Lc := Lc) hFH (s := s) (b := b) (v := nI i) (σ := σ)
      rw [e0] at q1
      rw [nI_1, r_av, e0]
      exact ab_E.lo [0, 2, 3, 4] rfl (ih (i + 1) _ (hsr _ _ q1.1 hJ) (q1.2.1 hD) (by omega))
    · have c1 : ¬ ((rg σ F (nI i)) = 0) := c1
      refine r_iload_n dX6_advance_28 4 rfl ?_
      refine r_if_eq (t := 42) dX6_advance_29 (by decide) (fun c2 => ?_) (fun c2 => ?_)
      · have c2 : b = 0 := c2
        refine r_iload dX6_advance_42 0 rfl ?_
        refine r_istore (lo' := [(5, .int (rg σ F (nI i))), (4, .int (rg σ F (nI i))), (3, .int (nI i)), (0, .ref (ad 45)), (1, .int s), (2, .int b)]) dX6_advance_44 (by decide) rfl ?_
        refine r_aload_n dX6_advance_46 3 rfl ?_
        refine s_getD (b := G) ok_X6 dX6_advance_47 (k := 5) (by decide) fl_X6_36 rfl rfl hD.2.2.1 ?_
        refine r_iload_n dX6_advance_50 2 rfl ?_
        refine r_iload_n dX6_advance_51 4 rfl ?_
        refine x_callG [nI i, s] hN dX6_advance_52 ml_X6_105 (by omega) hJ rfl rfl (by simp [Value.category]) ?_
        refine r_istore (lo' := [(6, .int (fN σ [nI i, s])), (5, .int (rg σ F (nI i))), (4, .int (rg σ F (nI i))), (3, .int (nI i)), (0, .ref (ad 45)), (1, .int s), (2, .int b)]) dX6_advance_55 (by decide) rfl ?_
        refine r_iconst (v := 0) dX6_advance_57 (by decide) ?_
        refine r_istore (lo' := [(7, .int 0), (6, .int (fN σ [nI i, s])), (5, .int (rg σ F (nI i))), (4, .int (rg σ F (nI i))), (3, .int (nI i)), (0, .ref (ad 45)), (1, .int s), (2, .int b)]) dX6_advance_58 (by decide) rfl ?_
        refine ab_E.lo [0, 1, 2, 3, 4, 5, 6, 7] (lo' := [(7, .int (nI 0)), (6, .int (fN σ [nI i, s])), (5, .int (rg σ F (nI i))), (4, .int (rg σ F (nI i))), (3, .int (nI i)), (0, .ref (ad 45)), (1, .int s), (2, .int b)]) rfl ?_
        refine l_X6_ai hd hV hL hN hE hsr hFH hP7 hVn hn hLc (g_F fN σ (nI i) s) 0 σ hJ hD (Nat.zero_le _) rfl ?_
        refine r_iinc (v := (nI i) + 1) (lo' := [(3, .int ((nI i) + 1)), (0, .ref (ad 45)), (1, .int s), (2, .int b)]) dX6_advance_107 0 rfl rfl (by decide) rfl ?_
        refine r_goto (t := 2) dX6_advance_110 (by decide) ?_
        have e0 : r_a1 fN fE F H Lc s b σ (nI i) = r_ai fE H (nI i) s (rg σ F (nI i)) (g_F fN σ (nI i) s) 0 σ := by unfold r_a1; simp only [eq_false c1, eq_true c2, ↓reduceIte]
        have q1 := r_a1_ok (fN := fN) (fE := fE) (G := G) (P := P) (Lc := Lc) hFH (s := s) (b := b) (v := nI i) (σ := σ)
        rw [e0] at q1
        rw [nI_1, r_av, e0]
        exact ab_E.lo [0, 1, 2, 3] rfl (ih (i + 1) _ (hsr _ _ q1.1 hJ) (q1.2.1 hD) (by omega))
      · have c2 : ¬ (b = 0) := c2
        refine r_aload_n dX6_advance_32 2 rfl ?_
        refine r_iload dX6_advance_33 0 rfl ?_
        refine r_iload_n dX6_advance_35 3 rfl ?_
        refine x_callV (Y := mX6_lengthened) (d' := d' + 2) dX6_advance_36 ml_X6_101 yv_X6_lengthened (by omega) rfl rfl (by simp [Value.category]) (sR_is rfl rfl) (c_X6_lengthened hL hLc σ hJ hD (rg σ F (nI i)) s) ?_
        refine r_goto (t := 44) dX6_advance_39 (by decide) ?_
        refine r_istore (lo' := [(5, .int (r_lg Lc (rg σ F (nI i)) s 9)), (4, .int (rg σ F (nI i))), (3, .int (nI i)), (0, .ref (ad 45)), (1, .int s), (2, .int b)]) dX6_advance_44 (by decide) rfl ?_
        refine r_aload_n dX6_advance_46 3 rfl ?_
        refine s_getD (b := G) ok_X6 dX6_advance_47 (k := 5) (by decide) fl_X6_36 rfl rfl hD.2.2.1 ?_
        refine r_iload_n dX6_advance_50 2 rfl ?_
        refine r_iload_n dX6_advance_51 4 rfl ?_
        refine x_callG [nI i, s] hN dX6_advance_52 ml_X6_105 (by omega) hJ rfl rfl (by simp [Value.category]) ?_
        refine r_istore (lo' := [(6, .int (fN σ [nI i, s])), (5, .int (r_lg Lc (rg σ F (nI i)) s 9)), (4, .int (rg σ F (nI i))), (3, .int (nI i)), (0, .ref (ad 45)), (1, .int s), (2, .int b)]) dX6_advance_55 (by decide) rfl ?_
        refine r_iconst (v := 0) dX6_advance_57 (by decide) ?_
        refine r_istore (lo' := [(7, .int 0), (6, .int (fN σ [nI i, s])), (5, .int (r_lg Lc (rg σ F (nI i)) s 9)), (4, .int (rg σ F (nI i))), (3, .int (nI i)), (0, .ref (ad 45)), (1, .int s), (2, .int b)]) dX6_advance_58 (by decide) rfl ?_
        refine ab_E.lo [0, 1, 2, 3, 4, 5, 6, 7] (lo' := [(7, .int (nI 0)), (6, .int (fN σ [nI i, s])), (5, .int (r_lg Lc (rg σ F (nI i)) s 9)), (4, .int (rg σ F (nI i))), (3, .int (nI i)), (0, .ref (ad 45)), (1, .int s), (2, .int b)]) rfl ?_
        refine l_X6_ai hd hV hL hN hE hsr hFH hP7 hVn hn hLc (g_F fN σ (nI i) s) 0 σ hJ hD (Nat.zero_le _) rfl ?_
        refine r_iinc (v := (nI i) + 1) (lo' := [(3, .int ((nI i) + 1)), (0, .ref (ad 45)), (1, .int s), (2, .int b)]) dX6_advance_107 0 rfl rfl (by decide) rfl ?_
        refine r_goto (t := 2) dX6_advance_110 (by decide) ?_
        have e0 : r_a1 fN fE F H Lc s b σ (nI i) = r_ai fE H (nI i) s (r_lg Lc (rg σ F (nI i)) s 9) (g_F fN σ (nI i) s) 0 σ := by unfold r_a1; simp only [eq_false c1, eq_false c2, ↓reduceIte]
        have q1 := r_a1_ok (fN := fN) (fE := fE) (G := G) (P := P) (Lc := Lc) hFH (s := s) (b := b) (v := nI i) (σ := σ)
        rw [e0] at q1
        rw [nI_1, r_av, e0]
        exact ab_E.lo [0, 1, 2, 3] rfl (ih (i + 1) _ (hsr _ _ q1.1 hJ) (q1.2.1 hD) (by omega))
theorem c_X6_advance {ad : Nat → Nat} {d' G : Nat} {J : sS → Prop} {fV fL fN fE : sS → List Int32 → Int32} (hd : 3 ≤ d') (hV : gr_m ad G J ⟨"OddRanks$Graph", "vertices", "()I"⟩ 0 d' fV) (hL : gr_m ad G J ⟨"OddRanks$Graph", "letterCount", "()I"⟩ 0 d' fL) (hN : gr_m ad G J ⟨"OddRanks$Graph", "fan", "(II)I"⟩ 2 d' fN) (hE : gr_m ad G J ⟨"OddRanks$Graph", "goal", "(III)I"⟩ 3 d' fE) (hsr : ∀ σ τ, rrel σ τ → J σ → J τ) {F H P : Nat} (hFH : fh F H) (hP7 : la P = (7, 0)) {n : Nat} (hVn : ∀ σ, J σ → fV σ [] = nI n) (hn : n ≤ 100000) {Lc : Nat} (hLc : ∀ σ, J σ → fL σ [] = nI Lc) (σ : sS) (hJ : J σ) (hD : r_d F H G P σ) (s b : Int32) : ab_X (sR ad) (d' + 3) mX6_advance [.ref (ad 45), .int s, .int b] σ none (r_av fN fE F H Lc s b n 0 σ) := by
  refine ab_X.of (by decide) (Nat.le_of_ble_eq_true rfl) ?_
  refine r_iconst (v := 0) dX6_advance_0 (by decide) ?_
  refine r_istore_n (lo' := [(3, .int 0), (0, .ref (ad 45)), (1, .int s), (2, .int b)]) dX6_advance_1 (by decide) rfl ?_
  exact l_X6_av hd hV hL hN hE hsr hFH hP7 hVn hn hLc n 0 σ hJ hD (by omega)
