/-! counts, others: what they answer; the component -/
def arL (s r : Int32) : Bool := aOk 4 s && aOk 3 (r - 1)
theorem arL_t {s r : Int32} (h : arL s r = true) : ∃ i j, i ≤ 3 ∧ 1 ≤ j ∧ j ≤ 3 ∧ s = nI i ∧ r = nI j := by
  obtain ⟨h1, h2⟩ := Bool.and_eq_true_iff.mp h
  obtain ⟨i, i1, i2⟩ := aOk_t h1 (by decide)
  obtain ⟨j, j1, j2⟩ := aOk_t h2 (by decide)
  refine ⟨i, j + 1, by omega, by omega, by omega, i2, ?_⟩
  have : r = r - 1 + 1 := (Int32.sub_add_cancel r 1).symm
  rw [this, j2, nI_1]
theorem r_13 {r : Int32} : aOk 3 (r - 1) = true ↔ 1 ≤ r ∧ r ≤ 3 := by
  constructor
  · intro h
    obtain ⟨j, j1, j2⟩ := aOk_t h (by decide)
    have : r = nI (j + 1) := by rw [← nI_1, ← j2]; exact (Int32.sub_add_cancel r 1).symm
    rw [this]
    exact ⟨nI_le (a := 1) (by omega) (by omega), nI_le (b := 3) (by omega) (by decide)⟩
  · rintro ⟨h1, h2⟩
    have h0 : ¬ r < 0 := fun q => absurd (Int32.lt_of_lt_of_le q (show (0 : Int32) ≤ 1 by decide)) (Int32.not_lt.mpr h1)
    obtain ⟨j, hj, rfl⟩ := nI_of h0
    have a1 : 1 ≤ j := Classical.byContradiction (fun c => absurd h1 (show ¬ nI 1 ≤ nI j from nI_ge (by omega) (by decide)))
    have a2 : j ≤ 3 := Classical.byContradiction (fun c => absurd h2 (show ¬ nI j ≤ nI 3 from nI_ge (by omega) hj))
    obtain ⟨k, rfl⟩ : ∃ k, j = k + 1 := ⟨j - 1, by omega⟩
    rw [nI_pred]
    exact (by decide : ∀ k, k < 3 → aOk 3 (nI k) = true) k (by omega)
theorem aOk_4 {s : Int32} : aOk 4 s = true ↔ ¬ s < 0 ∧ s ≤ 3 := aOk_6 (k := 3) (by decide)
noncomputable def sp_counts (A : aS) (a s r : Int32) : Int32 × aS := if aOk (aC A) a = true then (if arL s r = true then aGood A (nI (cntS (G0 (aMa A a.toNatClampNeg) (aG A)) s.toNatClampNeg r.toNatClampNeg)) else aRef A 2) else aRef A 1
noncomputable def sp_others (A : aS) (a s r : Int32) : Int32 × aS := if aOk (aC A) a = true then (if arL s r = true then (match cpl (aMa A a.toNatClampNeg) (aG A) with
  | none => aRef A 3
  | some z => aGood A (nI (cntS (G1 z (aG A)) s.toNatClampNeg r.toNatClampNeg))) else aRef A 2) else aRef A 1
theorem y_aC (s r : Int32) : L_X11_areCounted s r = if arL s r = true then 1 else 0 := by
  unfold L_X11_areCounted arL
  by_cases h1 : s < 0
  · have : aOk 4 s = false := Bool.eq_false_iff.mpr (fun q => (aOk_4.mp q).1 h1)
    simp only [this, Bool.false_and]
    simp [h1]
  · by_cases h2 : s ≤ 3
    · have : aOk 4 s = true := aOk_4.mpr ⟨h1, h2⟩
      simp only [this, Bool.true_and]
      by_cases h3 : (1 : Int32) ≤ r
      · by_cases h4 : r ≤ 3
        · have := r_13.mpr ⟨h3, h4⟩
          rw [if_neg h1, if_neg (Int32.not_lt.mpr h2), if_neg (Int32.not_lt.mpr h3), if_neg (Int32.not_lt.mpr h4), if_pos this]
        · have : ¬ aOk 3 (r - 1) = true := fun q => h4 (r_13.mp q).2
          simp [h1, h2, h3, h4, this]
      · have : ¬ aOk 3 (r - 1) = true := fun q => h3 (r_13.mp q).1
        simp [h1, h2, h3, this]
    · have : aOk 4 s = false := Bool.eq_false_iff.mpr (fun q => h2 (aOk_4.mp q).2)
      simp only [this, Bool.false_and]
      simp [h1, h2]
theorem y_counts {B : cB} {A : aS} {σ : sS} (h : CI B A σ) (hf : rF σ) (hI : aI A) (a s r : Int32) : yCF B (sp_counts A a s r) (L_X11_counts a s r σ) := by
  have h3 := h.1.c.1
  have hg := h.1.c.2
  unfold L_X11_counts sp_counts
  rw [y_at h.1]
  by_cases ha : aOk (aC A) a = true
  · obtain ⟨i, hi, rfl⟩ := aOk_t ha (by omega)
    rw [if_pos ha, if_pos ha]
    simp only [bnd_s]
    rw [nI_clamp (by omega), isAu_n (by omega), grd_s, y_aC]
    by_cases hs : arL s r = true
    · rw [if_pos hs, if_pos hs, if_neg i1n0]
      obtain ⟨sl, ln, k1, k2, k3, rfl, rfl⟩ := arL_t hs
      rw [nI_clamp (by omega), nI_clamp (by omega)]
      have hG1 : 1 ≤ aG A := by
        rcases hI with q | q
        · omega
        · exact q
      have hm := h.1.m hi
      have hT := G0_ok hm.1 hg
      have eN : nV (m_V (27 + i)) σ = mN (aMa A i) := by
        unfold nV
        rw [show m_V (27 + i) σ [] = nI (mN (aMa A i)) from hm.2.1, nI_clamp (by have := hm.1.2.1; omega)]
      obtain ⟨t1, t2, t3, t4, t5⟩ := y_tan (B := B.1) (Gi := 27 + i) (sl := sl) (ln := ln) (σ := σ) (fV := m_V (27 + i)) (fF := m_F (27 + i)) (fL := h_L (27 + i)) (fN := m_N (27 + i)) (fE := m_E (27 + i) (mN (aMa A i))) (fM := m_M (27 + i)) hT.1 (by show mN (aMa A i) ≤ 300; have := hm.1.2.1; omega) hG1 k1 k2 k3 (fun τ j => y_G0 (i := i) ⟨hm.1, by rw [(j.1 (27 + i) (by omega)).1]; exact hm.2.1, by rw [(j.1 (27 + i) (by omega)).1]; exact hm.2.2.1, by rw [(j.1 (27 + i) (by omega)).1]; exact hm.2.2.2.1, by rw [(j.1 (27 + i) (by omega)).1]; exact hm.2.2.2.2.1, fun s f hs hf => by rw [(j.1 (30 + i) (by omega)).1]; exact hm.2.2.2.2.2 s f hs hf⟩ hg) h.2.2.1 hf
      have e : L_ta0 (27 + i) (nI sl) (nI ln) σ = some (Ta_r (27 + i) (m_V (27 + i)) (m_F (27 + i)) (h_L (27 + i)) (m_N (27 + i)) (m_E (27 + i) (mN (aMa A i))) (m_M (27 + i)) sl ln σ) := by
        unfold L_ta0
        rw [eN, nI_clamp (by omega), nI_clamp (by omega)]
        exact grP_t ⟨⟨nI_pos' (by omega), nI_pos' (by omega)⟩, hm.1.2.1, t1⟩
      rw [e]
      generalize Ta_r (27 + i) (m_V (27 + i)) (m_F (27 + i)) (h_L (27 + i)) (m_N (27 + i)) (m_E (27 + i) (mN (aMa A i))) (m_M (27 + i)) sl ln σ = q at t2 t3 t4 t5
      refine ⟨uI q.2 0 10 0, ?_, (h.b t3 t4 t5).ans (by decide), t5.c (fun _ => rfl)⟩
      show some (q.1, uI q.2 0 10 0) = _
      rw [t2]
      rfl
    · rw [if_neg hs, if_neg hs, if_pos rfl]
      exact ⟨uI σ 0 10 2, rfl, h.ans (by decide), hf.c (fun _ => rfl)⟩
  · rw [if_neg ha, if_neg ha]
    exact ⟨uI σ 0 10 1, rfl, h.ans (by decide), hf.c (fun _ => rfl)⟩
theorem y_others {B : cB} {A : aS} {σ : sS} (h : CI B A σ) (hf : rF σ) (hI : aI A) (a s r : Int32) : yCF B (sp_others A a s r) (L_X11_others a s r σ) := by
  have h3 := h.1.c.1
  have hg := h.1.c.2
  unfold L_X11_others sp_others
  rw [y_at h.1]
  by_cases ha : aOk (aC A) a = true
  · obtain ⟨i, hi, rfl⟩ := aOk_t ha (by omega)
    rw [if_pos ha, if_pos ha]
    simp only [bnd_s]
    rw [nI_clamp (by omega), isCo_n (by omega), grd_s, y_aC]
    by_cases hs : arL s r = true
    · rw [if_pos hs, if_pos hs, if_neg i1n0]
      obtain ⟨sl, ln, k1, k2, k3, rfl, rfl⟩ := arL_t hs
      rw [nI_clamp (show sl < 2 ^ 31 by omega), nI_clamp (show ln < 2 ^ 31 by omega)]
      have hG1 : 1 ≤ aG A := by
        rcases hI with q | q
        · omega
        · exact q
      rcases y_std h hi with ⟨hq, τ, t1, t2, t3⟩ | ⟨v, τ, hq, t1, t2, t3, t4, t5⟩
      · rw [hq, t1, bd2_s, if_pos rfl]
        exact ⟨uI τ 0 10 3, rfl, t2.ans (by decide), hf.c (fun k => by show τ.2.2.1 45 k = _; rw [t3.2.2.2.2]; rfl)⟩
      · rw [hq, t1, bd2_s, if_neg i1n0]
        have hm := t2.1.m hi
        have c3 := cpl_3 hm.1 hg hq
        have hT := G1_ok t4 c3 hg
        have hf2 : rF τ := hf.c (fun k => by unfold vR; rw [t5.2.2.2.2])
        obtain ⟨w1, w2, w3, w4, w5⟩ := y_tan (B := B.1) (Gi := 33 + i) (sl := sl) (ln := ln) (σ := τ) (fV := n_V (33 + i)) (fF := n_F) (fL := n_L (33 + i)) (fN := n_N (33 + i)) (fE := n_E (33 + i)) (fM := n_M (33 + i)) hT.1 (by show zN v.1 ≤ 300; exact t4.1.2.1) hG1 k1 k2 k3 (fun υ j => y_G1 (M := aMa A i) (c := 33 + i) ⟨by rw [(j.1 (33 + i) (by omega)).1]; exact t3.1, fun n hn => by rw [(j.1 (33 + i + 3) (by omega)).1]; exact t3.2.1 n hn, fun k hk => by rw [(j.1 (33 + i + 9) (by omega)).1]; exact t3.2.2.1 k hk, fun k hk => by rw [(j.1 (33 + i + 6) (by omega)).1]; exact t3.2.2.2 k hk⟩ t4 c3 hg (by
          rw [show 33 + i - 6 = 27 + i by omega, (j.1 (27 + i) (by omega)).1]; exact hm.2.2.1)) t2.2.2.1 hf2
        have e : L_ta1 (33 + i) (nI sl) (nI ln) τ = some (Ta_r (33 + i) (n_V (33 + i)) n_F (n_L (33 + i)) (n_N (33 + i)) (n_E (33 + i)) (n_M (33 + i)) sl ln τ) := by
          unfold L_ta1
          rw [nI_clamp (by omega), nI_clamp (by omega)]
          exact grP_t ⟨⟨nI_pos' (by omega), nI_pos' (by omega)⟩, w1⟩
        rw [e]
        generalize Ta_r (33 + i) (n_V (33 + i)) n_F (n_L (33 + i)) (n_N (33 + i)) (n_E (33 + i)) (n_M (33 + i)) sl ln τ = q at w2 w3 w4 w5
        refine ⟨uI q.2 0 10 0, ?_, (t2.b w3 w4 w5).ans (by decide), w5.c (fun _ => rfl)⟩
        show some (q.1, uI q.2 0 10 0) = _
        rw [w2]
        rfl
    · rw [if_neg hs, if_neg hs, if_pos rfl]
      exact ⟨uI σ 0 10 2, rfl, h.ans (by decide), hf.c (fun _ => rfl)⟩
  · rw [if_neg ha, if_neg ha]
    exact ⟨uI σ 0 10 1, rfl, h.ans (by decide), hf.c (fun _ => rfl)⟩
