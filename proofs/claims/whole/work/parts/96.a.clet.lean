/-! lines of the tape: the component -/
def cDa (G : Nat) (M : aM) (σ : sS) (i : Nat) : Prop := mOk G M ∧ vI σ (9 + i) 1 = nI (mN M) ∧ vI σ (9 + i) 2 = nI G ∧ vI σ (9 + i) 3 = nI (mB M) ∧ vI σ (9 + i) 4 = nI (mF M) ∧ ∀ s f, s < 3 → f < 4 → vI σ (12 + i) (s * 4 + f) = nI (mE M s f)
/-- the component's drafts -/
def cD (b : Nat → Int32) (e : Nat) (D : dD) (σ : sS) : Prop := dOk b e D ∧ vI σ 3 7 = nI (dL D) ∧ vI σ 3 6 = nI (dK D) ∧ ((∀ a, a < 3 → vC σ (12 + a) = 12) ∧ 3 ≤ vC σ 4 ∧ 3 ≤ vC σ 5) ∧ ∀ i, i < dK D → cDa (dL D) (dM D i) σ i ∧ vI σ 4 i = nI (dN D i).1 ∧ vI σ 5 i = nI (dN D i).2
def rdM : List Nat := [1, 3, 4, 5, 9, 10, 11, 12, 13, 14]
/-- what reading leaves alone -/
def fR (σ τ : sS) : Prop := (∀ a j, a ∉ rdM → vI τ a j = vI σ a j) ∧ vI τ 1 3 = vI σ 1 3 ∧ (∀ a, a ∉ rdM → vU τ a = vU σ a) ∧ τ.2.1 = σ.2.1 ∧ τ.2.2.1 = σ.2.2.1 ∧ τ.2.2.2.2 = σ.2.2.2.2
theorem fR.rf {σ : sS} : fR σ σ := ⟨fun _ _ _ => rfl, rfl, fun _ _ => rfl, rfl, rfl, rfl⟩
theorem fR.tr {σ τ υ : sS} (h : fR σ τ) (k : fR τ υ) : fR σ υ := ⟨fun a j n => (k.1 a j n).trans (h.1 a j n), k.2.1.trans h.2.1, fun a n => (k.2.2.1 a n).trans (h.2.2.1 a n), k.2.2.2.1.trans h.2.2.2.1, k.2.2.2.2.1.trans h.2.2.2.2.1, k.2.2.2.2.2.trans h.2.2.2.2.2⟩
theorem fT.R {σ τ : sS} (h : fT σ τ) : fR σ τ := by
  obtain ⟨h1, -, h3, h4⟩ := h
  refine ⟨fun a j n => h1 a j (fun c => n (by rw [c]; decide)), h3, fun a _ => ?_, by rw [h4], by rw [h4], by rw [h4]⟩
  show τ.2.2.2.1 a = σ.2.2.2.1 a
  rw [h4]
theorem fR.u {σ : sS} {a k : Nat} {x : Int32} (h : a ∈ rdM) (h1 : a ≠ 1) : fR σ (uI σ a k x) := ⟨fun b j n => vI_q (fun c => n (c.1 ▸ h)), vI_q (fun c => h1 c.1.symm), fun _ _ => rfl, rfl, rfl, rfl⟩
theorem cDa.c {G : Nat} {M : aM} {σ τ : sS} {i : Nat} (h : cDa G M σ i) (h1 : ∀ j, vI τ (9 + i) j = vI σ (9 + i) j) (h2 : ∀ j, vI τ (12 + i) j = vI σ (12 + i) j) : cDa G M τ i := ⟨h.1, (h1 _).trans h.2.1, (h1 _).trans h.2.2.1, (h1 _).trans h.2.2.2.1, (h1 _).trans h.2.2.2.2.1, fun s f hs hf => (h2 _).trans (h.2.2.2.2.2 s f hs hf)⟩
theorem cD.ft {b : Nat → Int32} {e : Nat} {D : dD} {σ τ : sS} (h : cD b e D σ) (f : fT σ τ) : cD b e D τ := by
  obtain ⟨f1, -, -, f4⟩ := f
  obtain ⟨a, a1, a2, a3, a4⟩ := h
  have hC : ∀ a, vC τ a = vC σ a := fun a => by show τ.2.2.2.2.1 a = σ.2.2.2.2.1 a; rw [f4]
  refine ⟨a, (f1 _ _ (by decide)).trans a1, (f1 _ _ (by decide)).trans a2, ⟨fun a ha => (hC _).trans (a3.1 a ha), by rw [hC]; exact a3.2.1, by rw [hC]; exact a3.2.2⟩, fun i hi => ?_⟩
  obtain ⟨m, n, l⟩ := a4 i hi
  exact ⟨m.c (fun j => f1 _ j (by omega)) (fun j => f1 _ j (by omega)), (f1 _ _ (by decide)).trans n, (f1 _ _ (by decide)).trans l⟩
/-- the component after a line -/
def yP (b : Nat → Int32) (e : Nat) (σ : sS) (x : pE (Nat × dD)) (o : Option (Int32 × sS)) : Prop := match x with
  | .inl (k, w) => ∃ τ, o = some (0, τ) ∧ vI τ 1 7 = k ∧ vI τ 1 8 = nI w ∧ fR σ τ
  | .inr (q, D) => ∃ τ p, o = some (1, τ) ∧ tkC b e p τ ∧ tq b e p = q ∧ vI τ 1 7 = 0 ∧ cD b e D τ ∧ fR σ τ
theorem yP.ft {b : Nat → Int32} {e : Nat} {σ τ : sS} {x : pE (Nat × dD)} {o : Option (Int32 × sS)} (h : yP b e τ x o) (f : fR σ τ) : yP b e σ x o := by
  cases x with
  | inl k =>
    obtain ⟨τ, t1, t2, t3, t4⟩ := h
    exact ⟨τ, t1, t2, t3, f.tr t4⟩
  | inr z =>
    obtain ⟨τ, p, t1, t2, t3, t4, t5, t6⟩ := h
    exact ⟨τ, p, t1, t2, t3, t4, t5, f.tr t6⟩
theorem yP.bl {b : Nat → Int32} {e q : Nat} {σ τ : sS} {k : Int32} (f : fR σ τ) : yP b e σ (.inl (k, q)) (some (0, t_blame τ k (nI q))) := ⟨_, rfl, rfl, rfl, f.tr fT.bl.R⟩
theorem nI_ne1 {v : Nat} (h : v ≤ 9) : ¬ nI v = -1 := (by decide +kernel : ∀ v, v < 10 → ¬ nI v = -1) v (by omega)
theorem sWhole_le {b : Nat → Int32} {e q l m v : Nat} (h : sWhole b e q l m = .inr v) : l ≤ v ∧ v ≤ m := by
  unfold sWhole at h
  split at h
  · split at h
    · next hc => injection h with h; rw [← h]; exact hc
    · exact nomatch h
  · exact nomatch h
theorem yl_let {b : Nat → Int32} {e q : Nat} {D : dD} {σ : sS} (h : tkC b e (tke b e q) σ) (h7 : vI σ 1 7 = 0) (hD : cD b e D σ) : yP b e σ (sLet b e q D) (L_X5_readLetters (nI q) σ) := by
  have hL := hD.1.1
  unfold sLet L_X5_readLetters
  rw [hD.2.1]
  by_cases h0 : dL D = 0
  · rw [if_pos h0, if_pos (show nI (dL D) ≤ 0 by rw [h0]; decide)]
    have hw := y_whole (l := 1) (m := 3) h h7 (by decide) (by decide)
    rw [show tq b e (tke b e q) = nx b e q from rfl] at hw
    cases hs : sWhole b e (nx b e q) 1 3 with
    | inl k =>
      obtain ⟨k, w⟩ := k
      rw [hs] at hw
      obtain ⟨υ, u1, u2, u3, u4⟩ := hw
      rw [show L_X9_whole 1 3 σ = some (-1, υ) from u1, bd2_s, if_pos rfl]
      exact ⟨υ, rfl, u2, u3, u4.R⟩
    | inr v =>
      have hv := sWhole_le hs
      rw [hs] at hw
      obtain ⟨υ, u1, u2, u3, u4⟩ := hw
      rw [show L_X9_whole 1 3 σ = some (nI v, υ) from u1, bd2_s, if_neg (nI_ne1 (by omega))]
      obtain ⟨⟨o1, o2, o3, o4⟩, a1, a2, a3, a4⟩ := hD.ft u4
      have k0 := o3 h0
      refine ⟨uI υ 3 7 (nI v), tke b e (nx b e q), rfl, u2, rfl, u3, ⟨⟨hv.2, o2, fun c => k0, fun i hi => absurd hi (by show ¬ i < dK D; omega)⟩, rfl, a2, a3, fun i hi => absurd hi (by show ¬ i < dK D; omega)⟩, u4.R.tr (fR.u (by decide) (by decide))⟩
  · rw [if_neg h0, if_neg (show ¬ nI (dL D) ≤ 0 from nI_ge (a := 0) (by omega) (by omega))]
    exact yP.bl fR.rf
theorem y_lt {b : Nat → Int32} {e : Nat} {D : dD} {σ : sS} (hD : cD b e D σ) : q_lt σ = decide (dK D ≠ 0) := by
  have h3 := hD.1.2.1
  unfold q_lt
  rw [hD.2.2.1]
  exact (by decide +kernel : ∀ k, k < 4 → (decide (0 < nI k) && (decide (nI k ≤ 3) && inb (nI k - 1) 3)) = decide (k ≠ 0)) _ (by omega)
theorem isAu_9 {i : Nat} (h : i < 3) : isAu (9 + i) = true := (by decide +kernel : ∀ i, i < 3 → isAu (9 + i) = true) i h
theorem y_9k {k : Nat} (hk : k ≠ 0) (h3 : k ≤ 3) : 9 + (nI k - 1).toNatClampNeg = 9 + (k - 1) := (by decide +kernel : ∀ k, k < 4 → k ≠ 0 → 9 + (nI k - 1).toNatClampNeg = 9 + (k - 1)) k (by omega) hk
theorem cD.a {b : Nat → Int32} {e : Nat} {D : dD} {σ : sS} (h : cD b e D σ) (hK : dK D ≠ 0) : cDa (dL D) (dA D) σ (dK D - 1) := (h.2.2.2.2 (dK D - 1) (by omega)).1
theorem cD.up {b : Nat → Int32} {e r k : Nat} {x : Int32} {D : dD} {M : aM} {σ : sS} (h : cD b e D σ) (hK : dK D ≠ 0) (hr : r = 9 + (dK D - 1) ∨ r = 12 + (dK D - 1)) (hM : cDa (dL D) M (uI σ r k x) (dK D - 1)) : cD b e (dSet D M) (uI σ r k x) := by
  obtain ⟨⟨o1, o2, o3, o4⟩, a1, a2, a3, a4⟩ := h
  have n : ∀ {c j : Nat}, (c < 9 ∨ (c < 12 ∧ c ≠ 9 + (dK D - 1)) ∨ (12 ≤ c ∧ c ≠ 12 + (dK D - 1))) → vI (uI σ r k x) c j = vI σ c j := fun {c j} hc => vI_q (fun q => by have := q.1; omega)
  refine ⟨⟨o1, o2, o3, fun i hi => ⟨?_, (o4 i hi).2⟩⟩, (n (by omega)).trans a1, (n (by omega)).trans a2, a3, fun i hi => ⟨?_, (n (by omega)).trans (a4 i hi).2.1, (n (by omega)).trans (a4 i hi).2.2⟩⟩
  · rw [dA_set]
    by_cases c : i = dK D - 1
    · rw [if_pos c]; exact hM.1
    · rw [if_neg c]; exact (o4 i hi).1
  · rw [dA_set]
    have hi : i < dK D := hi
    by_cases c : i = dK D - 1
    · rw [if_pos c, c]; exact hM
    · rw [if_neg c]
      exact (a4 i hi).1.c (fun j => n (by omega)) (fun j => n (by omega))
theorem rdM_9 {i : Nat} (h : i < 3) : 9 + i ∈ rdM ∧ 12 + i ∈ rdM := (by decide +kernel : ∀ i, i < 3 → 9 + i ∈ rdM ∧ 12 + i ∈ rdM) i h
theorem tkC.u {b : Nat → Int32} {e p r k : Nat} {x : Int32} {σ : sS} (h : tkC b e p σ) (hr : 3 ≤ r) : tkC b e p (uI σ r k x) := by
  have n : ∀ {c j : Nat}, c < 3 → vI (uI σ r k x) c j = vI σ c j := fun {c j} hc => vI_q (fun q => by have := q.1; omega)
  exact ⟨fun j hj => (n (by decide)).trans (h.1 j hj), (n (by decide)).trans h.2.1, (n (by decide)).trans h.2.2.1, h.2.2.2⟩
theorem yl_mark {b : Nat → Int32} {e q z : Nat} {D : dD} {σ : sS} (h : tkC b e (tke b e q) σ) (h7 : vI σ 1 7 = 0) (hD : cD b e D σ) (hz : z = 0 ∨ z = 1) : yP b e σ (sMark b e q D z) (L_X5_readState (nI q) (nI z) σ) := by
  have h3 := hD.1.2.1
  unfold sMark L_X5_readState
  rw [y_lt hD, hD.2.2.1]
  simp only [bnd_s]
  by_cases hK : dK D = 0
  · rw [if_pos hK, if_neg (show ¬ decide (dK D ≠ 0) = true by simp [hK])]
    exact yP.bl fR.rf
  · obtain ⟨⟨k1, k2, k3, k4, k5, k6⟩, n1, n2, n3, n4, n5⟩ := hD.a hK
    have hb := b_pw _ k2
    rw [if_neg hK, if_pos (show decide (dK D ≠ 0) = true from decide_eq_true hK), y_9k hK h3, isAu_9 (by omega), grd_s, n1, nI_n1 k1 k2]
    have hw := y_whole (l := 0) (m := mN (dA D) - 1) h h7 (by decide) (by omega)
    rw [show tq b e (tke b e q) = nx b e q from rfl] at hw
    cases hs : sWhole b e (nx b e q) 0 (mN (dA D) - 1) with
    | inl k =>
      obtain ⟨k, w⟩ := k
      rw [hs] at hw
      obtain ⟨υ, u1, u2, u3, u4⟩ := hw
      rw [show L_X9_whole 0 (nI (mN (dA D) - 1)) σ = some (-1, υ) from u1, bd2_s, if_pos rfl]
      exact ⟨υ, rfl, u2, u3, u4.R⟩
    | inr v =>
      have hv := sWhole_le hs
      rw [hs] at hw
      obtain ⟨υ, u1, u2, u3, u4⟩ := hw
      have hv4 : v < 4 := by omega
      have uD := hD.ft u4
      obtain ⟨k0, n1, n2, n3, n4, n5⟩ := uD.a hK
      rw [show L_X9_whole 0 (nI (mN (dA D) - 1)) σ = some (nI v, υ) from u1, bd2_s, if_neg (nI_ne1 (by omega)), n3, n4]
      show yP b e σ (if _ then _ else _) _
      rcases hz with rfl | rfl
      · rw [if_pos (show nI 0 = 0 from rfl), if_pos (show (0 : Nat) = 0 from rfl), if_pos (show (0 : Nat) = 0 from rfl), y_in (by omega) hv4, if_pos (show nI 0 = 0 from rfl)]
        by_cases ht : (mF (dA D)).testBit v = true
        · rw [if_pos ht, if_pos ht, if_neg i1n0]
          exact yP.bl u4.R
        · rw [if_neg ht, if_neg ht, if_pos rfl, b_st _ (by omega) _ hv4 ht]
          refine ⟨_, tke b e (nx b e q), rfl, u2.u (by omega), rfl, (vI_q (by omega)).trans u3, uD.up hK (Or.inl rfl) ?_, u4.R.tr (fR.u (rdM_9 (by omega)).1 (by omega))⟩
          exact ⟨⟨k1, k2, k3, b_xN _ k2 _ (by omega) v (by omega) k4 (by omega), k5, k6⟩, (vI_q (by simp)).trans n1, (vI_q (by simp)).trans n2, (vI_q (by simp)).trans n3, vI_e, fun s f hs hf => (vI_q (by omega)).trans (n5 s f hs hf)⟩
      · rw [if_neg (show ¬ nI 1 = 0 from i1n0), if_neg (show ¬ (1 : Nat) = 0 by decide), if_neg (show ¬ (1 : Nat) = 0 by decide), y_in (by omega) hv4, if_neg (show ¬ nI 1 = 0 from i1n0)]
        by_cases ht : (mB (dA D)).testBit v = true
        · rw [if_pos ht, if_pos ht, if_neg i1n0]
          exact yP.bl u4.R
        · rw [if_neg ht, if_neg ht, if_pos rfl, b_st _ (by omega) _ hv4 ht]
          refine ⟨_, tke b e (nx b e q), rfl, u2.u (by omega), rfl, (vI_q (by omega)).trans u3, uD.up hK (Or.inl rfl) ?_, u4.R.tr (fR.u (rdM_9 (by omega)).1 (by omega))⟩
          exact ⟨⟨k1, k2, b_xN _ k2 _ (by omega) v (by omega) k3 (by omega), k4, k5, k6⟩, (vI_q (by simp)).trans n1, (vI_q (by simp)).trans n2, vI_e, (vI_q (by simp)).trans n4, fun s f hs hf => (vI_q (by omega)).trans (n5 s f hs hf)⟩
theorem tkD.c {b : Nat → Int32} {e q : Nat} {τ : sS} (h : tkD b e q τ) (hk : ckk b e q ≠ 1) : tkC b e (tke b e q) τ := by
  obtain ⟨h1, h2, h3, h4, h5, h6, ⟨p, p1, p2, p3⟩, h8⟩ := h
  exact ⟨h1, h2, by rw [p2, p3 hk], by have := p3 hk; omega, h3⟩
theorem ck_2 {b : Nat → Int32} {e q : Nat} (hq : q ≤ e) : ckk b e q = 2 ↔ tkk b e q = 2 := by
  rcases tk_cases (b := b) hq with ⟨-, c, c'⟩ | ⟨-, c, c'⟩ | ⟨-, c, c', -⟩ | ⟨-, c, c', d⟩ | ⟨-, c, c'⟩
  · simp [c, c']
  · simp [c, c']
  · simp [c, c']
  · rw [c, c']
    rcases d with d | d | d <;> rw [d] <;> decide
  · simp [c, c']
theorem tkD.s {b : Nat → Int32} {e q : Nat} {τ : sS} (h : tkD b e q τ) (hk : tkk b e q = 2) : tkC b e (tke b e q) τ := h.c (by rw [(ck_2 h.2.2.2.1).mpr hk]; decide)
theorem yl_edge {b : Nat → Int32} {e q : Nat} {D : dD} {σ : sS} (h : tkC b e (tke b e q) σ) (h7 : vI σ 1 7 = 0) (hD : cD b e D σ) : yP b e σ (sEdge b e q D) (L_X5_readArrow (nI q) σ) := by
  have h3 := hD.1.2.1
  have hL := hD.1.1
  unfold sEdge L_X5_readArrow
  rw [y_lt hD, hD.2.2.1]
  simp only [bnd_s]
  by_cases hK : dK D = 0
  · rw [if_pos hK, if_neg (show ¬ decide (dK D ≠ 0) = true by simp [hK])]
    exact yP.bl fR.rf
  · obtain ⟨⟨k1, k2, k3, k4, k5, k6⟩, n1, -⟩ := hD.a hK
    have hb := b_pw _ k2
    rw [if_neg hK, if_pos (show decide (dK D ≠ 0) = true from decide_eq_true hK), y_9k hK h3, isAu_9 (by omega), grd_s, n1, nI_n1 k1 k2]
    have hw := y_whole (l := 0) (m := mN (dA D) - 1) h h7 (by decide) (by omega)
    rw [show tq b e (tke b e q) = nx b e q from rfl] at hw
    cases hs : sWhole b e (nx b e q) 0 (mN (dA D) - 1) with
    | inl k =>
      obtain ⟨k, w⟩ := k
      rw [hs] at hw
      obtain ⟨υ, u1, u2, u3, u4⟩ := hw
      rw [show L_X9_whole 0 (nI (mN (dA D) - 1)) σ = some (-1, υ) from u1, bd2_s, if_pos rfl]
      exact ⟨υ, rfl, u2, u3, u4.R⟩
    | inr f =>
      have hf := sWhole_le hs
      rw [hs] at hw
      obtain ⟨υ, u1, u2, u3, u4⟩ := hw
      rw [show L_X9_whole 0 (nI (mN (dA D) - 1)) σ = some (nI f, υ) from u1, bd2_s, if_neg (nI_ne1 (by omega))]
      obtain ⟨s1, s2⟩ := y_step u2
      have sf : fT υ (t_st e υ) := fT.st
      have s7 : vI (t_st e υ) 1 7 = 0 := u3
      have f1 := u4.tr sf
      have sD := (hD.ft u4).ft sf
      rw [s1, bd_s]
      rw [show tq b e (tke b e (nx b e q)) = nx b e (nx b e q) from rfl] at s2
      show yP b e σ (if tkk b e (nx b e (nx b e q)) = 2 ∧ tke b e (nx b e (nx b e q)) - nx b e (nx b e q) = 1 ∧ (b (nx b e (nx b e q)) - 97).toNatClampNeg < dL D then _ else _) _
      generalize nx b e (nx b e q) = q2 at s2
      generalize t_st e υ = ρ at s2 s7 f1 sD
      have bad : yP b e σ (.inl (1, q2)) (L_X5_readArrow_98 ρ) := by
        unfold L_X5_readArrow_98
        rw [bnd_s, s2.2.2.2.2.1]
        exact yP.bl f1.R
      have e97 : (t_by ρ (vI ρ 1 5)) = if q2 < e then b q2 else 0 := by rw [s2.2.2.2.2.1]; exact y_by s2.1 s2.2.1 s2.2.2.1 (by have := s2.2.2.2.1; have := s2.2.2.1; omega)
      rw [e97, s2.2.2.2.2.2.1]
      by_cases hk : tkk b e q2 = 2
      · obtain ⟨ql, qs, -, w7, -, wl⟩ := tkk_2 hk s2.2.2.2.1
        obtain ⟨x, ex, x1, x2⟩ := kSm_n qs
        have hc := (ck_2 s2.2.2.2.1).mpr hk
        rw [if_pos hc, if_pos ql, s2.2.2.2.2.2.2.2 hc, sD.2.1]
        have e26 := (c26 x (by omega) x1).2
        by_cases hl : tke b e q2 - q2 = 1
        · rw [if_pos (show nI (tke b e q2 - q2) = 1 by rw [hl]; rfl), ex, e26, nI_clamp (by omega)]
          by_cases hx : x - 97 < dL D
          · rw [if_pos ⟨hk, hl, hx⟩, if_pos (nI_lt hx (by omega))]
            obtain ⟨-, m1, -⟩ := sD.a hK
            rw [m1, nI_n1 k1 k2]
            have hw2 := y_whole (l := 0) (m := mN (dA D) - 1) (s2.s hk) s7 (by decide) (by omega)
            rw [show tq b e (tke b e q2) = nx b e q2 from rfl] at hw2
            cases hs2 : sWhole b e (nx b e q2) 0 (mN (dA D) - 1) with
            | inl k =>
              obtain ⟨k, w⟩ := k
              rw [hs2] at hw2
              obtain ⟨ω, w1, w2, w3, w4⟩ := hw2
              rw [show L_X9_whole 0 (nI (mN (dA D) - 1)) ρ = some (-1, ω) from w1, bd2_s, if_pos rfl]
              exact ⟨ω, rfl, w2, w3, (f1.tr w4).R⟩
            | inr t =>
              have ht := sWhole_le hs2
              rw [hs2] at hw2
              obtain ⟨ω, w1, w2, w3, w4⟩ := hw2
              have wD := sD.ft w4
              obtain ⟨k0, n1, n2, n3, n4, n5⟩ := wD.a hK
              have h5 := k5 (x - 97) f
              rw [show L_X9_whole 0 (nI (mN (dA D) - 1)) ρ = some (nI t, ω) from w1, bd2_s, if_neg (nI_ne1 (by omega))]
              have ea : a_ar ω (9 + (dK D - 1)) (nI f) (nI (x - 97)) = nI (mE (dA D) (x - 97) f) := by
                unfold a_ar
                rw [show nI (x - 97) * 4 + nI f = nI ((x - 97) * 4 + f) by rw [show (4 : Int32) = nI 4 from rfl, nI_mul, nI_add], rg_nI (by omega), show 9 + (dK D - 1) + 3 = 12 + (dK D - 1) by omega]
                exact n5 _ _ (by omega) (by omega)
              unfold a_jn a_sa
              rw [ea, y_in (by omega) (by omega), if_neg i1n0]
              show yP b e σ (if (mE (dA D) (x - 97) f).testBit t = true then _ else _) _
              by_cases htb : (mE (dA D) (x - 97) f).testBit t = true
              · rw [if_pos htb, if_pos htb, if_neg i1n0]
                exact yP.bl (f1.tr w4).R
              · rw [if_neg htb, if_neg htb, if_pos rfl, b_st _ (by omega) _ (by omega) htb, show nI (x - 97) * 4 + nI f = nI ((x - 97) * 4 + f) by rw [show (4 : Int32) = nI 4 from rfl, nI_mul, nI_add], show 9 + (dK D - 1) + 3 = 12 + (dK D - 1) by omega, rp_n (by rw [wD.2.2.2.1.1 _ (by omega)]; omega) (by omega)]
                refine ⟨_, tke b e (nx b e q2), rfl, w2.u (by omega), rfl, (vI_q (by omega)).trans w3, wD.up hK (Or.inr rfl) ?_, (f1.tr w4).R.tr (fR.u (rdM_9 (by omega)).2 (by omega))⟩
                refine ⟨⟨k1, k2, k3, k4, fun s g => ?_, fun s g hsg => ?_⟩, (vI_q (by omega)).trans n1, (vI_q (by omega)).trans n2, (vI_q (by omega)).trans n3, (vI_q (by omega)).trans n4, fun s g hs hg => ?_⟩
                · show (if s = x - 97 ∧ g = f then _ else _) < 2 ^ mN (dA D)
                  split
                  · exact b_xN _ k2 _ (by omega) t (by omega) h5 (by omega)
                  · exact k5 s g
                · show (if s = x - 97 ∧ g = f then _ else _) = 0
                  rw [if_neg]
                  · exact k6 s g hsg
                  · rintro ⟨rfl, rfl⟩
                    rcases hsg with q | q
                    · omega
                    · have q : mN (dA D) ≤ g := q
                      omega
                · show vI (uI ω (12 + (dK D - 1)) _ _) (12 + (dK D - 1)) (s * 4 + g) = nI (if s = x - 97 ∧ g = f then _ else _)
                  rw [vI_u]
                  by_cases d : s = x - 97 ∧ g = f
                  · obtain ⟨rfl, rfl⟩ := d
                    rw [if_pos ⟨rfl, rfl⟩, if_pos ⟨rfl, rfl⟩]
                  · rw [if_neg (fun q => d (by have := q.2; omega)), if_neg d]
                    exact n5 s g hs hg
          · rw [if_neg (fun c => hx c.2.2), if_neg (fun c => hx ((nI_ltI (by omega) (by omega)).mp c))]
            exact bad
        · rw [if_neg (fun c => hl c.2.1), if_neg (show ¬ nI (tke b e q2 - q2) = 1 from fun c => hl (nI_ij (y := 1) (by omega) (by omega) c))]
          exact bad
      · rw [if_neg (fun c => hk c.1), if_neg (fun c => hk ((ck_2 s2.2.2.2.1).mp c))]
        exact bad
