/-! lines of the tape: marks (the reference) -/
theorem bd2_id {α : Type} {o : Option (α × sS)} : bd2 o (fun r t => some (r, t)) = o := by
  cases o with
  | none => rfl
  | some x => rfl
theorem nI_3k {k : Nat} (hk : k ≠ 0) (h3 : k ≤ 3) : (3 : Int32) + nI k - 1 = nI (3 + (k - 1)) := (by decide +kernel : ∀ k, k < 4 → k ≠ 0 → (3 : Int32) + nI k - 1 = nI (3 + (k - 1))) k (by omega) hk
theorem nI_n1 {n : Nat} (h1 : 1 ≤ n) (h4 : n ≤ 4) : nI n - 1 = nI (n - 1) := (by decide +kernel : ∀ n, n < 5 → 1 ≤ n → nI n - 1 = nI (n - 1)) n (by omega) h1
theorem nI_n0 {k : Nat} (h : k ≠ 0) (h3 : k ≤ 400) : ¬ nI k = 0 := fun c => h (nI_ij (y := 0) (by omega) (by omega) c)
theorem rD.a {b : Nat → Int32} {e : Nat} {D : dD} {σ : sS} (h : rD b e D σ) (hK : dK D ≠ 0) : rMa (dL D) (dA D) σ (3 + (dK D - 1)) := (h.2.2.2.1 (dK D - 1) (by omega)).1
theorem x_needsA {b : Nat → Int32} {e q : Nat} {D : dD} {σ : sS} (h : tkT b e q σ) (h7 : vI σ 90 7 = 0) (hD : rD b e D σ) : L_X12_needsAuto σ = some (if dK D = 0 then uI (uI σ 90 7 5) 90 8 (nI q) else σ) := by
  obtain ⟨o1, o2, o3, o4⟩ := hD.1
  unfold L_X12_needsAuto
  rw [hD.2.1, hD.2.2.1, x_flaw h7, h.2.2.1]
  by_cases h0 : dL D = 0
  · rw [if_pos (by rw [h0]; rfl), if_pos (o3 h0)]
    rfl
  · rw [if_neg (nI_n0 h0 (by omega))]
    by_cases hk : dK D = 0
    · rw [if_pos (by rw [hk]; rfl), if_pos hk]
      rfl
    · rw [if_neg (nI_n0 hk (by omega)), if_neg hk]
theorem x_state {b : Nat → Int32} {e q F : Nat} {D : dD} {σ : sS} (h : tkT b e q σ) (h7 : vI σ 90 7 = 0) (hD : rD b e D σ) (hK : dK D ≠ 0) (hF : 400 < F) : match sWhole b e q 0 (mN (dA D) - 1) with
    | .inl (k, w) => ∃ v τ, L_X12_readState F σ = some (v, τ) ∧ vI τ 90 7 = k ∧ 0 < k ∧ vI τ 90 8 = nI w ∧ fm [] kH σ τ
    | .inr v => v < mN (dA D) ∧ ∃ τ, L_X12_readState F σ = some (nI v, τ) ∧ tkT b e (nx b e q) τ ∧ vI τ 90 7 = 0 ∧ fm [] kG σ τ := by
  obtain ⟨⟨m1, m2, -⟩, n1, -⟩ := hD.a hK
  have h3 := hD.1.2.1
  have e1 : L_X12_readState F σ = L_X12_readWhole F (nI 0) (nI (mN (dA D) - 1)) σ := by
    unfold L_X12_readState
    rw [hD.2.2.1, nI_3k hK h3, inb_n (by omega) (by omega), grd_s, nI_clamp (by omega), n1, nI_n1 m1 m2, bd2_id]
    rfl
  rw [e1]
  have hw := x_whole (l := 0) (m := mN (dA D) - 1) h h7 hF (by omega) (by omega)
  cases hs : sWhole b e q 0 (mN (dA D) - 1) with
  | inl k => rw [hs] at hw; exact hw
  | inr v =>
    rw [hs] at hw
    obtain ⟨v3, v1, w⟩ := hw
    exact ⟨by omega, w⟩
theorem dA_set {D : dD} {M : aM} {i : Nat} : dM (dSet D M) i = if i = dK D - 1 then M else dM D i := rfl
theorem rD.up {b : Nat → Int32} {e : Nat} {D : dD} {M : aM} {σ τ : sS} (h : rD b e D σ) (hK : dK D ≠ 0) (hM : rMa (dL D) M τ (3 + (dK D - 1))) (h9 : ∀ k, vI τ 90 k = vI σ 90 k) (hl : ∀ i, vL τ 118 i = vL σ 118 i) (ho : ∀ i, i < dK D → i ≠ dK D - 1 → rMa (dL D) (dM D i) σ (3 + i) → rMa (dL D) (dM D i) τ (3 + i)) (hz : ∀ i, dK D ≤ i → i < 3 → ∀ j, j < 16 → vI τ 117 (16 * (3 + i) + j) = vI σ 117 (16 * (3 + i) + j)) : rD b e (dSet D M) τ := by
  obtain ⟨⟨o1, o2, o3, o4⟩, a1, a2, a3, a4⟩ := h
  refine ⟨⟨o1, o2, o3, fun i hi => ⟨?_, (o4 i hi).2⟩⟩, (h9 21).trans a1, (h9 22).trans a2, fun i hi => ⟨?_, (hl i).trans (a3 i hi).2⟩, fun i h1 h2 j hj => (hz i h1 h2 j hj).trans (a4 i h1 h2 j hj)⟩
  · rw [dA_set]
    by_cases c : i = dK D - 1
    · rw [if_pos c]; exact hM.1
    · rw [if_neg c]; exact (o4 i hi).1
  · rw [dA_set]
    by_cases c : i = dK D - 1
    · rw [if_pos c, c]; exact hM
    · rw [if_neg c]; exact ho i hi c (a3 i hi).1
theorem rD.mF {b : Nat → Int32} {e v : Nat} {D : dD} {σ : sS} (h : rD b e D σ) (hK : dK D ≠ 0) (hv : v < mN (dA D)) : rD b e (dSet D (mkF (dA D) v)) (uI σ 116 (3 + (dK D - 1)) (nI (mF (dA D) ^^^ 2 ^ v))) := by
  obtain ⟨⟨k1, k2, k3, k4, k5, k6⟩, n1, n2, n3, n4⟩ := h.a hK
  have hb := b_pw _ k2
  refine h.up hK ⟨⟨k1, k2, k3, b_xN _ k2 _ (by omega) v (by omega) k4 hv, k5, k6⟩, n1, n2, by rw [vI_u, if_pos ⟨rfl, rfl⟩]; rfl, n4⟩ (fun _ => rfl) (fun _ => rfl) (fun i hi c g => ?_) (fun _ _ _ _ _ => rfl)
  obtain ⟨k0, n1, n2, n3, n4⟩ := g
  exact ⟨k0, n1, n2, by rw [vI_u, if_neg (fun q => c (by have := q.2; omega))]; exact n3, n4⟩
theorem rD.mB {b : Nat → Int32} {e v : Nat} {D : dD} {σ : sS} (h : rD b e D σ) (hK : dK D ≠ 0) (hv : v < mN (dA D)) : rD b e (dSet D (mkB (dA D) v)) (uI σ 115 (3 + (dK D - 1)) (nI (mB (dA D) ^^^ 2 ^ v))) := by
  obtain ⟨⟨k1, k2, k3, k4, k5, k6⟩, n1, n2, n3, n4⟩ := h.a hK
  have hb := b_pw _ k2
  refine h.up hK ⟨⟨k1, k2, b_xN _ k2 _ (by omega) v (by omega) k3 hv, k4, k5, k6⟩, n1, by rw [vI_u, if_pos ⟨rfl, rfl⟩]; rfl, n3, n4⟩ (fun _ => rfl) (fun _ => rfl) (fun i hi c g => ?_) (fun _ _ _ _ _ => rfl)
  obtain ⟨k0, n1, n2, n3, n4⟩ := g
  exact ⟨k0, n1, by rw [vI_u, if_neg (fun q => c (by have := q.2; omega))]; exact n2, n3, n4⟩
theorem rD.mE {b : Nat → Int32} {e c f t : Nat} {D : dD} {σ : sS} (h : rD b e D σ) (hK : dK D ≠ 0) (hc : c < dL D) (hf : f < mN (dA D)) (ht : t < mN (dA D)) : rD b e (dSet D (mkE (dA D) c f t)) (uI σ 117 (16 * (3 + (dK D - 1)) + 4 * c + f) (nI (mE (dA D) c f ^^^ 2 ^ t))) := by
  have hL := h.1.1
  obtain ⟨⟨k1, k2, k3, k4, k5, k6⟩, n1, n2, n3, n4⟩ := h.a hK
  have hb := b_pw _ k2
  have h5 := k5 c f
  refine h.up hK ⟨⟨k1, k2, k3, k4, fun s g => ?_, fun s g hsg => ?_⟩, n1, n2, n3, fun s g hs hg => ?_⟩ (fun _ => rfl) (fun _ => rfl) (fun i hi d g => ?_) (fun i h1 h2 j hj => ?_)
  · show (if s = c ∧ g = f then _ else _) < 2 ^ mN (dA D)
    split
    · exact b_xN _ k2 _ (by omega) t (by omega) h5 ht
    · exact k5 s g
  · show (if s = c ∧ g = f then _ else _) = 0
    rw [if_neg]
    · exact k6 s g hsg
    · rintro ⟨rfl, rfl⟩
      rcases hsg with q | q
      · omega
      · have q : mN (dA D) ≤ g := q
        omega
  · show vI (uI σ 117 _ _) 117 (16 * (3 + (dK D - 1)) + 4 * s + g) = nI (if s = c ∧ g = f then _ else _)
    rw [vI_u]
    by_cases d : s = c ∧ g = f
    · obtain ⟨rfl, rfl⟩ := d
      rw [if_pos ⟨rfl, rfl⟩, if_pos ⟨rfl, rfl⟩]
    · rw [if_neg (fun q => d (by have := q.2; omega)), if_neg d]
      exact n4 s g hs hg
  · obtain ⟨k0, n1, n2, n3, n4⟩ := g
    refine ⟨k0, n1, n2, n3, fun s g hs hg => ?_⟩
    rw [vI_u, if_neg (fun q => d (by have := q.2; omega))]
    exact n4 s g hs hg
  · rw [vI_u, if_neg (fun q => by have := q.2; omega)]
