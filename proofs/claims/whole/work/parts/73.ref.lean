/-! the reference's small calls: bound, edge, shown, letter -/
theorem b_2q : ∀ q, q ≤ 4 → (0 ≤ (2 : Int32) * nI q - 1 ↔ q ≠ 0) ∧ (q ≠ 0 → (2 : Int32) * nI q - 1 = nI (2 * q - 1)) := by decide +kernel
theorem x_bound {A : aS} {σ : sS} (h : R0 A σ) (a t : Int32) : ∃ τ, L_X12_bound a t σ = some ((sp_bound A a t).1, τ) ∧ R0 (sp_bound A a t).2 τ := by
  have h := h.z 0
  unfold L_X12_bound sp_bound
  simp only [bnd_s]
  rw [x_isAuto h]
  simp only [bd_s]
  have h3 := h.c
  generalize uI σ 90 0 0 = ρ at h ⊢
  by_cases ha : aOk (aC A) a = true
  · obtain ⟨i, hi, rfl⟩ := aOk_t ha (by omega)
    have hm := (h.m hi).1
    have hb := b_pw _ hm.2.1
    rw [if_pos ha, if_pos ha, nI_clamp (by omega), if_neg i1n0, x_isSet h hi]
    simp only [bd_s]
    by_cases ht : aOk (2 ^ mN (aMa A i)) t = true
    · obtain ⟨k, hk, rfl⟩ := aOk_t ht (by omega)
      rw [if_pos ht, if_pos ht, nI_clamp (by omega), if_neg i1n0, x_boundOf h hi (by omega)]
      simp only [bd_s]
      have hq := b_2q (nfb k (mF (aMa A i))) (b_pc4 _)
      by_cases h0 : nfb k (mF (aMa A i)) = 0
      · rw [if_neg (fun q => hq.1.mp q h0), if_pos h0]
        exact x_goodR h _
      · rw [if_pos (hq.1.mpr h0), if_neg h0, hq.2 h0]
        exact x_goodR h _
    · rw [if_neg ht, if_neg ht]
      exact x_refR h 2
  · rw [if_neg ha, if_neg ha]
    exact x_refR h 1
def bit1 (x : Nat) (s : Int32) : Int32 := if x.testBit s.toNatClampNeg then 1 else 0
def sp_edge (A : aS) (a f c t : Int32) : Int32 × aS := if aOk (aC A) a = true ∧ aOk (mN (aMa A a.toNatClampNeg)) f = true then (if aOk (aG A) c = true then (if aOk (aC A) a = true ∧ aOk (mN (aMa A a.toNatClampNeg)) t = true then aGood A (bit1 (mE (aMa A a.toNatClampNeg) c.toNatClampNeg f.toNatClampNeg) t) else aRef A 1) else aRef A 1) else aRef A 1
theorem x_edge {A : aS} {σ : sS} (h : R0 A σ) (a f c t : Int32) : ∃ τ, L_X12_edge a f c t σ = some ((sp_edge A a f c t).1, τ) ∧ R0 (sp_edge A a f c t).2 τ := by
  have h := h.z 0
  unfold L_X12_edge sp_edge
  simp only [bnd_s]
  rw [x_isState h, x_isState h, x_isLetter h]
  simp only [bd_s]
  have h3 := h.c
  generalize uI σ 90 0 0 = ρ at h ⊢
  by_cases ha : aOk (aC A) a = true ∧ aOk (mN (aMa A a.toNatClampNeg)) f = true
  · rw [if_pos ha, if_pos ha, if_neg i1n0]
    by_cases hc : aOk (aG A) c = true
    · rw [if_pos hc, if_pos hc, if_neg i1n0]
      by_cases ht : aOk (aC A) a = true ∧ aOk (mN (aMa A a.toNatClampNeg)) t = true
      · rw [if_pos ht, if_pos ht, if_neg i1n0]
        obtain ⟨ha, hf⟩ := ha
        obtain ⟨-, ht⟩ := ht
        obtain ⟨i, hi, rfl⟩ := aOk_t ha (by omega)
        rw [nI_clamp (by omega)] at hf ht ⊢
        have hm := (h.m hi).1
        have h4 := hm.2.1
        obtain ⟨j, hj, rfl⟩ := aOk_t hf (by omega)
        obtain ⟨k, hk, rfl⟩ := aOk_t ht (by omega)
        obtain ⟨g, hg, rfl⟩ := aOk_t hc (by omega)
        rw [x_edgesOf h hi (by omega) (by omega), nI_clamp (by omega), nI_clamp (by omega)]
        simp only [bd_s]
        rw [b_tb _ (hm.b.2.2 g j) k (by omega)]
        unfold bit1
        rw [nI_clamp (by omega)]
        exact x_goodR h _
      · rw [if_neg ht, if_neg ht]
        exact x_refR h 1
    · rw [if_neg hc, if_neg hc]
      exact x_refR h 1
  · rw [if_neg ha, if_neg ha]
    exact x_refR h 1
/-! shown, letter -/
def sp_shown (A : aS) (w : Int32) : Int32 × aS := if aOk 2 w = true then aGood A (match aSh A with | none => -2 | some q => if w = 0 then nI q.1.length else nI q.2.length) else aRef A 1
theorem x_shown {A : aS} {σ : sS} (h : R0 A σ) (w : Int32) : ∃ τ, L_X12_shown w σ = some ((sp_shown A w).1, τ) ∧ R0 (sp_shown A w).2 τ := by
  have h := h.z 0
  unfold L_X12_shown sp_shown
  simp only [bnd_s]
  have e : L_X12_in w 0 1 = if aOk 2 w = true then 1 else 0 := x_inA (n := 2) (by decide)
  rw [e]
  generalize uI σ 90 0 0 = ρ at h ⊢
  by_cases hw : aOk 2 w = true
  · rw [if_pos hw, if_pos hw, if_neg i1n0]
    have hs := h.2.2.2
    unfold rS at hs
    cases hq : aSh A with
    | none =>
      rw [hq] at hs
      rw [if_pos hs]
      exact x_goodR h _
    | some q =>
      rw [hq] at hs
      obtain ⟨s1, s2, s3, s4, s5, s6, s7⟩ := hs
      rw [s1, if_neg i1n0, s4, s5]
      by_cases w0 : w = 0
      · rw [if_pos w0]
        show ∃ τ, _ = some ((aGood A (if w = 0 then _ else _)).1, τ) ∧ R0 (aGood A (if w = 0 then _ else _)).2 τ
        rw [if_pos w0]
        exact x_goodR h _
      · rw [if_neg w0]
        show ∃ τ, _ = some ((aGood A (if w = 0 then _ else _)).1, τ) ∧ R0 (aGood A (if w = 0 then _ else _)).2 τ
        rw [if_neg w0]
        exact x_goodR h _
  · rw [if_neg hw, if_neg hw]
    exact x_refR h 1
/-- the letter at i, and whether there is none -/
def sp_letter (A : aS) (i : Int32) : Option Int32 := match aSh A with
  | none => none
  | some q => if aOk (q.1.length + q.2.length) i = true then some (nI ((q.1 ++ q.2).getD i.toNatClampNeg 0)) else none
theorem x_letter {A : aS} {σ : sS} (h : R0 A σ) (i : Int32) : ∃ τ, L_X12_letter i σ = some ((sp_letter A i).getD 0, τ) ∧ R0 A τ ∧ vI τ 90 0 = (if (sp_letter A i).isNone then 1 else 0) := by
  have h0 := h.z 0
  have e0 : vI (uI σ 90 0 0) 90 0 = 0 := by rw [vI_u, if_pos ⟨rfl, rfl⟩]
  unfold L_X12_letter sp_letter
  simp only [bnd_s]
  generalize uI σ 90 0 0 = ρ at h0 e0 ⊢
  have hs := h0.2.2.2
  unfold rS at hs
  have hn : ∃ τ, some ((0 : Int32), uI ρ 90 0 1) = some ((none : Option Int32).getD 0, τ) ∧ R0 A τ ∧ vI τ 90 0 = (if (none : Option Int32).isNone then 1 else 0) := ⟨uI ρ 90 0 1, rfl, h0.z 1, by rw [vI_u, if_pos ⟨rfl, rfl⟩]; rfl⟩
  cases hq : aSh A with
  | none =>
    rw [hq] at hs
    rw [if_pos hs]
    exact hn
  | some q =>
    rw [hq] at hs
    obtain ⟨s1, s2, s3, s4, s5, s6, s7⟩ := hs
    rw [s1, if_neg i1n0, s4, s5, nI_add, x_inA (by omega)]
    by_cases hi : aOk (q.1.length + q.2.length) i = true
    · obtain ⟨j, hj, rfl⟩ := aOk_t hi (by omega)
      simp only [if_pos hi]
      rw [if_neg i1n0, nI_clamp (by omega)]
      by_cases hl : q.1.length ≤ j
      · rw [if_pos (nI_le hl (by omega))]
        have e1 : nI j - nI q.1.length = nI (j - q.1.length) := by
          have e2 : nI j = nI (j - q.1.length) + nI q.1.length := by rw [nI_add]; congr 1; omega
          rw [e2, Int32.add_sub_cancel]
        rw [e1, inb_n (by omega) (by omega), nI_clamp (by omega), s7 _ (by omega)]
        refine ⟨ρ, ?_, h0, e0⟩
        show some (_, ρ) = some (nI ((q.1 ++ q.2).getD j 0), ρ)
        rw [List.getD_eq_getElem?_getD, List.getD_eq_getElem?_getD, List.getElem?_append_right hl]
      · rw [if_neg (nI_ge (by omega) (by omega)), inb_n (by omega) (by omega), s6 _ (by omega)]
        refine ⟨ρ, ?_, h0, e0⟩
        show some (_, ρ) = some (nI ((q.1 ++ q.2).getD j 0), ρ)
        rw [List.getD_eq_getElem?_getD, List.getD_eq_getElem?_getD, List.getElem?_append_left (by omega)]
    · rw [if_neg hi, if_pos rfl]
      simp only [if_neg hi]
      exact hn
