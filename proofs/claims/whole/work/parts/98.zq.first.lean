/-! the reference's calls that change an automaton; both halves' calls that read -/
theorem fl_mark {x1 x2 x3 : Int32} {σ : sS} {z : Int32 × sS} (h : L_X12_mark x1 x2 x3 σ = some z) : vI z.2 90 32 = -1 ∨ fm [] [0, 1, 2] σ z.2 := by
  unfold L_X12_mark at h
  simp only [bnd_s] at h
  have f0 : fm [] [0, 1, 2] σ (uI σ 90 0 0) := fm.uI (Or.inr ⟨rfl, by decide⟩)
  generalize uI σ 90 0 0 = σ1 at h f0
  have rf : ∀ w, bd2 (L_X12_refused w σ1) (fun r τ => some (r, τ)) = some z → vI z.2 90 32 = -1 ∨ fm [] [0, 1, 2] σ z.2 := by
    intro w h
    obtain ⟨r, τ, g, h⟩ := bd2_at h
    cases h
    exact Or.inr (f0.tr ((f_L_X12_refused g).mo (by decide) (by decide)))
  have gd : ∀ v σ2, vI σ2 90 32 = -1 → bd2 (L_X12_good v σ2) (fun r τ => some (r, τ)) = some z → vI z.2 90 32 = -1 ∨ fm [] [0, 1, 2] σ z.2 := by
    intro v σ2 h2 h
    obtain ⟨r, τ, g, h⟩ := bd2_at h
    cases h
    exact Or.inl (((f_L_X12_good g).f (by decide) (fun h => nomatch h)).trans h2)
  obtain ⟨r3, -, h⟩ := bd_at h
  split at h
  · exact rf _ h
  · replace h := (grd_at h).2
    split at h
    · split at h
      · exact rf _ h
      · replace h := (grd_at (grd_at (grd_at h).2).2).2
        exact gd _ _ vI_e h
    · split at h
      · exact rf _ h
      · replace h := (grd_at (grd_at (grd_at h).2).2).2
        exact gd _ _ vI_e h
theorem fl_begin {x1 x2 x3 : Int32} {σ : sS} {z : Int32 × sS} (h : L_X12_begin x1 x2 x3 σ = some z) : vI z.2 90 32 = -1 ∨ fm [] [0, 1, 2] σ z.2 := by
  unfold L_X12_begin at h
  simp only [bnd_s] at h
  have f0 : fm [] [0, 1, 2] σ (uI σ 90 0 0) := fm.uI (Or.inr ⟨rfl, by decide⟩)
  generalize uI σ 90 0 0 = σ1 at h f0
  have rf : ∀ w, bd2 (L_X12_refused w σ1) (fun r τ => some (r, τ)) = some z → vI z.2 90 32 = -1 ∨ fm [] [0, 1, 2] σ z.2 := by
    intro w h
    obtain ⟨r, τ, g, h⟩ := bd2_at h
    cases h
    exact Or.inr (f0.tr ((f_L_X12_refused g).mo (by decide) (by decide)))
  have gd : ∀ v σ2, vI σ2 90 32 = -1 → bd2 (L_X12_good v σ2) (fun r τ => some (r, τ)) = some z → vI z.2 90 32 = -1 ∨ fm [] [0, 1, 2] σ z.2 := by
    intro v σ2 h2 h
    obtain ⟨r, τ, g, h⟩ := bd2_at h
    cases h
    exact Or.inl (((f_L_X12_good g).f (by decide) (fun h => nomatch h)).trans h2)
  obtain ⟨r3, -, h⟩ := bd_at h
  split at h
  · exact rf _ h
  · replace h := (grd_at h).2
    split at h
    · split at h
      · exact rf _ h
      · replace h := (grd_at (grd_at (grd_at h).2).2).2
        exact gd _ _ vI_e h
    · split at h
      · exact rf _ h
      · replace h := (grd_at (grd_at (grd_at h).2).2).2
        exact gd _ _ vI_e h
theorem fl_link {F : Nat} {x1 x2 x3 x4 x5 : Int32} {σ : sS} {z : Int32 × sS} (h : L_X12_link F x1 x2 x3 x4 x5 σ = some z) : vI z.2 90 32 = -1 ∨ fm [] [0, 1, 2] σ z.2 := by
  unfold L_X12_link at h
  simp only [bnd_s] at h
  have f0 : fm [] [0, 1, 2] σ (uI σ 90 0 0) := fm.uI (Or.inr ⟨rfl, by decide⟩)
  generalize uI σ 90 0 0 = σ1 at h f0
  have rf : ∀ w, bd2 (L_X12_refused w σ1) (fun r τ => some (r, τ)) = some z → vI z.2 90 32 = -1 ∨ fm [] [0, 1, 2] σ z.2 := by
    intro w h
    obtain ⟨r, τ, g, h⟩ := bd2_at h
    cases h
    exact Or.inr (f0.tr ((f_L_X12_refused g).mo (by decide) (by decide)))
  have gd : ∀ σ2, vI σ2 90 32 = -1 → bd (L_X12_edgeMany F x1 σ2) (fun v => bd2 (L_X12_good v σ2) (fun r τ => some (r, τ))) = some z → vI z.2 90 32 = -1 ∨ fm [] [0, 1, 2] σ z.2 := by
    intro σ2 h2 h
    obtain ⟨v, -, h⟩ := bd_at h
    obtain ⟨r, τ, g, h⟩ := bd2_at h
    cases h
    exact Or.inl (((f_L_X12_good g).f (by decide) (fun h => nomatch h)).trans h2)
  obtain ⟨r3, -, h⟩ := bd_at h
  split at h
  · exact rf _ h
  · obtain ⟨r9, -, h⟩ := bd_at h
    split at h
    · exact rf _ h
    · obtain ⟨r15, -, h⟩ := bd_at h
      split at h
      · exact rf _ h
      · replace h := (grd_at h).2
        split at h
        · split at h
          · exact rf _ h
          · replace h := (grd_at (grd_at h).2).2
            exact gd _ vI_e h
        · split at h
          · exact rf _ h
          · replace h := (grd_at (grd_at h).2).2
            exact gd _ vI_e h
theorem x_act {A : aS} {σ : sS} {k : Nat} {S : Int32 × aS} {o : Option (Int32 × sS)} (h : RI A σ) (x : ∃ τ, o = some (S.1, τ) ∧ R0 S.2 τ ∧ (S.1 = -1 ∨ vI τ 90 32 = -1)) (f : ∀ z, o = some z → vI z.2 90 32 = -1 ∨ fm [] [0, 1, 2] σ z.2) (hA : aAc A S.2 k) (e : S.1 = -1 → S.2.2.2.1 = A.2.2.1) : xRI S o := by
  have h3 := h.1.c.1
  obtain ⟨τ, t1, t2, t3⟩ := x
  refine ⟨τ, t1, t2, ?_⟩
  have t4 := f _ t1
  rcases t3 with q | q
  · rcases t4 with p | p
    · exact rB_0 (by rw [hA.1]; exact h3) p
    · exact h.2.f p (fun _ _ h => nomatch h) (fun h => nomatch h) (by decide) (e q)
  · exact rB_0 (by rw [hA.1]; exact h3) q
theorem xor_n1 {x s : Nat} (hx : x < 16) (hs : s < 4) : ¬ nI (x ^^^ 2 ^ s) = -1 := by
  refine nI_n1' ?_
  have h1 : 2 ^ s < 2 ^ 4 := Nat.pow_lt_pow_right (by omega) hs
  have := Nat.xor_lt_two_pow (n := 4) hx h1
  omega
theorem e_mark {A : aS} {σ : sS} (h : RI A σ) {a s z : Int32} (q : (sp_mark A a s z).1 = -1) : (sp_mark A a s z).2.2.2.1 = A.2.2.1 := by
  unfold sp_mark at q ⊢
  split
  · rename_i c
    rw [if_pos c] at q
    split
    · rfl
    · rename_i d
      rw [if_neg d] at q
      have h3 := h.1.c.1
      obtain ⟨i, hi, rfl⟩ := aOk_t c.1 (by omega)
      have hm := (h.1.m hi).1
      have h4 := hm.2.1
      rw [nI_clamp (by omega)] at q c
      obtain ⟨j, hj, rfl⟩ := aOk_t c.2 (by omega)
      rw [nI_clamp (by omega)] at q
      exact absurd q (xor_n1 hm.b.2.1 (by omega))
  · rfl
theorem e_begin {A : aS} {σ : sS} (h : RI A σ) {a s z : Int32} (q : (sp_begin A a s z).1 = -1) : (sp_begin A a s z).2.2.2.1 = A.2.2.1 := by
  unfold sp_begin at q ⊢
  split
  · rename_i c
    rw [if_pos c] at q
    split
    · rfl
    · rename_i d
      rw [if_neg d] at q
      have h3 := h.1.c.1
      obtain ⟨i, hi, rfl⟩ := aOk_t c.1 (by omega)
      have hm := (h.1.m hi).1
      have h4 := hm.2.1
      rw [nI_clamp (by omega)] at q c
      obtain ⟨j, hj, rfl⟩ := aOk_t c.2 (by omega)
      rw [nI_clamp (by omega)] at q
      exact absurd q (xor_n1 hm.b.1 (by omega))
  · rfl
