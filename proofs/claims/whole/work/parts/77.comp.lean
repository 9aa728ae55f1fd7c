/-! the component's small calls -/
theorem y_fault {A : aS} {σ : sS} (h : C0 A σ) : L_X11_fault σ = aF A := h.2.1.1
theorem y_size {A : aS} {σ : sS} (h : C0 A σ) : L_X11_size σ = nI (aT A) := h.1.2.1
theorem y_trouble {A : aS} {σ : sS} (h : C0 A σ) : L_X11_trouble σ = aU A := h.2.1.2.1
theorem y_met {A : aS} {σ : sS} (h : C0 A σ) : L_X11_met σ = aTh A := h.2.1.2.2.2.2
theorem y_where {A : aS} {σ : sS} (h : C0 A σ) : L_X11_where σ = aW A := by
  unfold L_X11_where
  rw [h.2.1.2.1]
  by_cases h4 : aU A = 4
  · rw [if_pos h4]; exact h.2.1.2.2.1 h4
  · rw [if_neg h4]; exact (h.2.1.2.2.2.1 h4).symm
/-- what a call of the component gives: the answer, the picture, and the state told -/
def yOk (A : aS) (σ : sS) (q : Int32 × aS) (o : Option (Int32 × sS)) : Prop := ∃ τ, o = some (q.1, τ) ∧ C0 q.2 τ ∧ ∃ u, τ = uI σ 0 10 u
theorem yOk.g {A : aS} {σ : sS} (h : C0 A σ) (v : Int32) : yOk A σ (aGood A v) (bd2 (L_X11_answer v σ) (fun r t => some (r, t))) := ⟨_, rfl, h.ans (by decide), _, rfl⟩
theorem yOk.r {A : aS} {σ : sS} (h : C0 A σ) (w : Int32) (hw : w ≠ 4) : yOk A σ (aRef A w) (bd2 (L_X11_refuse w σ) (fun r t => some (r, t))) := ⟨_, rfl, h.ans hw, _, rfl⟩
theorem y_automaton {A : aS} {σ : sS} (h : C0 A σ) (a w : Int32) : yOk A σ (sp_automaton A a w) (L_X11_automaton a w σ) := by
  have h3 := h.c
  unfold L_X11_automaton sp_automaton
  rw [y_at h]
  simp only [bnd_s]
  by_cases ha : aOk (aC A) a = true
  · rw [if_pos ha, if_pos ha]
    obtain ⟨i, hi, rfl⟩ := aOk_t ha (by omega)
    have hm := h.m hi
    rw [nI_clamp (by omega), isAu_n (by omega), hm.2.1, hm.2.2.1, hm.2.2.2.1, hm.2.2.2.2.1, y_ct h hi, grd_s]
    by_cases hw : w < 0
    · rw [if_pos hw, if_neg (fun e => by rw [e] at hw; exact absurd hw (by decide)), if_neg (fun e => by rw [e] at hw; exact absurd hw (by decide)), if_neg (fun e => by rw [e] at hw; exact absurd hw (by decide)), if_neg (fun e => by rw [e] at hw; exact absurd hw (by decide)), if_neg (fun e => by rw [e] at hw; exact absurd hw (by decide))]
      exact yOk.r h 1 (by decide)
    · rw [if_neg hw]
      by_cases hw4 : w ≤ 4
      · rw [if_pos hw4]
        by_cases w0 : w = 0
        · rw [if_pos w0, if_pos w0]; exact yOk.g h _
        · rw [if_neg w0, if_neg w0]
          by_cases w1 : w = 1
          · rw [if_pos w1, if_pos w1]; exact yOk.g h _
          · rw [if_neg w1, if_neg w1]
            by_cases w2 : w = 2
            · rw [if_pos w2, if_pos w2]; exact yOk.g h _
            · rw [if_neg w2, if_neg w2]
              by_cases w3 : w = 3
              · rw [if_pos w3, if_pos w3]; exact yOk.g h _
              · rw [if_neg w3, if_neg w3]
                obtain ⟨j, hj, rfl⟩ := nI_of hw
                have hj4 : j ≤ 4 := (nI_leI hj (b := 4) (by decide)).mp hw4
                have e4 : j = 4 := by
                  have n0 : j ≠ 0 := fun e => w0 (by rw [e]; rfl)
                  have n1 : j ≠ 1 := fun e => w1 (by rw [e]; rfl)
                  have n2 : j ≠ 2 := fun e => w2 (by rw [e]; rfl)
                  have n3 : j ≠ 3 := fun e => w3 (by rw [e]; rfl)
                  omega
                rw [if_pos (by rw [e4]; rfl)]
                exact yOk.g h _
      · rw [if_neg hw4, if_neg (fun e => hw4 (by rw [e]; decide)), if_neg (fun e => hw4 (by rw [e]; decide)), if_neg (fun e => hw4 (by rw [e]; decide)), if_neg (fun e => hw4 (by rw [e]; decide)), if_neg (fun e => hw4 (by rw [e]; decide))]
        exact yOk.r h 1 (by decide)
  · rw [if_neg ha, if_neg ha]
    exact yOk.r h 1 (by decide)
theorem y_after {A : aS} {σ : sS} (h : C0 A σ) (a t c : Int32) : yOk A σ (sp_after A a t c) (L_X11_after a t c σ) := by
  have h3 := h.c
  unfold L_X11_after sp_after
  rw [y_at h]
  simp only [bnd_s]
  by_cases ha : aOk (aC A) a = true
  · rw [if_pos ha, if_pos ha]
    obtain ⟨i, hi, rfl⟩ := aOk_t ha (by omega)
    have hm := (h.m hi).1
    have hb := b_pw _ hm.2.1
    rw [nI_clamp (by omega), isAu_n (by omega), grd_s, y_hg h hi, y_ht h hi]
    by_cases hc : aOk (aG A) c = true
    · rw [if_pos hc, if_pos hc, if_neg i1n0]
      by_cases ht : aOk (2 ^ mN (aMa A i)) t = true
      · rw [if_pos ht, if_pos ht, if_neg i1n0]
        obtain ⟨k, hk, rfl⟩ := aOk_t ht (by omega)
        obtain ⟨j, hj, rfl⟩ := aOk_t hc (by omega)
        rw [y_reach h hi hk (by omega), nI_clamp (by omega), nI_clamp (by omega)]
        simp only [bd_s]
        exact yOk.g h _
      · rw [if_neg ht, if_neg ht, if_pos rfl]
        exact yOk.r h 2 (by decide)
    · rw [if_neg hc, if_neg hc, if_pos rfl]
      exact yOk.r h 1 (by decide)
  · rw [if_neg ha, if_neg ha]
    exact yOk.r h 1 (by decide)
theorem b_2p : ∀ q, q ≤ 4 → ((2 : Int32) * nI q - 1 ≤ 0 ↔ q = 0) := by decide +kernel
theorem y_bound {A : aS} {σ : sS} (h : C0 A σ) (a t : Int32) : yOk A σ (sp_bound A a t) (L_X11_bound a t σ) := by
  have h3 := h.c
  unfold L_X11_bound sp_bound
  rw [y_at h]
  simp only [bnd_s]
  by_cases ha : aOk (aC A) a = true
  · rw [if_pos ha, if_pos ha]
    obtain ⟨i, hi, rfl⟩ := aOk_t ha (by omega)
    have hm := (h.m hi).1
    have hb := b_pw _ hm.2.1
    rw [nI_clamp (by omega), isAu_n (by omega), grd_s, y_ht h hi, (h.m hi).2.2.2.2.1]
    by_cases ht : aOk (2 ^ mN (aMa A i)) t = true
    · rw [if_pos ht, if_pos ht, if_neg i1n0]
      obtain ⟨k, hk, rfl⟩ := aOk_t ht (by omega)
      unfold k_gt
      rw [b_nf k (by omega) _ hm.b.2.1, nI_clamp (by omega)]
      have hq := b_2q (nfb k (mF (aMa A i))) (b_pc4 _)
      have hp := b_2p (nfb k (mF (aMa A i))) (b_pc4 _)
      by_cases h0 : nfb k (mF (aMa A i)) = 0
      · rw [if_pos (hp.mpr h0), if_pos h0]
        exact yOk.g h _
      · rw [if_neg (fun q => h0 (hp.mp q)), if_neg h0, hq.2 h0]
        exact yOk.g h _
    · rw [if_neg ht, if_neg ht, if_pos rfl]
      exact yOk.r h 2 (by decide)
  · rw [if_neg ha, if_neg ha]
    exact yOk.r h 1 (by decide)
theorem y_ha {A : aS} {σ : sS} (h : C0 A σ) {i : Nat} (hi : i < aC A) (f c t : Int32) : a_ha σ (27 + i) f c t = if aOk (mN (aMa A i)) f = true ∧ aOk (aG A) c = true ∧ aOk (mN (aMa A i)) t = true then 1 else 0 := by
  unfold a_ha
  rw [y_hs h hi, y_hg h hi, y_hs h hi]
  by_cases h1 : aOk (mN (aMa A i)) f = true
  · rw [if_pos h1, if_neg i1n0]
    by_cases h2 : aOk (aG A) c = true
    · rw [if_pos h2, if_neg i1n0]
      by_cases h3 : aOk (mN (aMa A i)) t = true
      · rw [if_pos h3, if_neg i1n0, if_pos ⟨h1, h2, h3⟩]
      · rw [if_neg h3, if_pos rfl, if_neg (fun q => h3 q.2.2)]
    · rw [if_neg h2, if_pos rfl, if_neg (fun q => h2 q.2.1)]
  · rw [if_neg h1, if_pos rfl, if_neg (fun q => h1 q.1)]
theorem y_edge {A : aS} {σ : sS} (h : C0 A σ) (a f c t : Int32) : yOk A σ (sp_edge A a f c t) (L_X11_edge a f c t σ) := by
  have h3 := h.c
  unfold L_X11_edge sp_edge
  rw [y_at h]
  simp only [bnd_s]
  by_cases ha : aOk (aC A) a = true
  · rw [if_pos ha]
    obtain ⟨i, hi, rfl⟩ := aOk_t ha (by omega)
    have hm := (h.m hi).1
    have h4 := hm.2.1
    rw [nI_clamp (by omega), isAu_n (by omega), grd_s, y_ha h hi]
    by_cases hq : aOk (mN (aMa A i)) f = true ∧ aOk (aG A) c = true ∧ aOk (mN (aMa A i)) t = true
    · rw [if_pos hq, if_neg i1n0]
      obtain ⟨hf, hc, ht⟩ := hq
      rw [if_pos ⟨ha, hf⟩, if_pos hc, if_pos ⟨ha, ht⟩]
      obtain ⟨j, hj, rfl⟩ := aOk_t hf (by omega)
      obtain ⟨k, hk, rfl⟩ := aOk_t ht (by omega)
      obtain ⟨g, hg, rfl⟩ := aOk_t hc (by omega)
      unfold a_jn bit1
      rw [y_ar h hi (by omega) (by omega), y_in (hm.b.2.2 g j) (by omega), nI_clamp (by omega), nI_clamp (by omega), nI_clamp (by omega)]
      by_cases hb : (mE (aMa A i) g j).testBit k = true
      · rw [if_pos hb, if_neg i1n0]
        exact yOk.g h 1
      · rw [if_neg hb, if_pos rfl]
        exact yOk.g h 0
    · rw [if_neg hq, if_pos rfl]
      by_cases h1 : aOk (mN (aMa A i)) f = true
      · rw [if_pos ⟨ha, h1⟩]
        by_cases h2 : aOk (aG A) c = true
        · rw [if_pos h2, if_neg (fun q => hq ⟨h1, h2, q.2⟩)]
          exact yOk.r h 1 (by decide)
        · rw [if_neg h2]
          exact yOk.r h 1 (by decide)
      · rw [if_neg (fun q => h1 q.2)]
        exact yOk.r h 1 (by decide)
  · rw [if_neg ha, if_neg (fun q => ha q.1)]
    exact yOk.r h 1 (by decide)
theorem y_shown {A : aS} {σ : sS} (h : C0 A σ) (w : Int32) : yOk A σ (sp_shown A w) (L_X11_shown w σ) := by
  unfold L_X11_shown sp_shown
  have hs := h.2.2.2
  unfold cS0 at hs
  by_cases hw : w < 0
  · rw [if_pos hw, if_neg (by simp [aOk, Int32.not_le.mpr hw])]
    exact yOk.r h 1 (by decide)
  · rw [if_neg hw]
    by_cases h1 : w ≤ 1
    · have h2 : w < nI 2 := by
        obtain ⟨j, hj, rfl⟩ := nI_of hw
        exact nI_lt (by have := (nI_leI hj (b := 1) (by decide)).mp h1; omega) (by decide)
      rw [if_pos h1, if_pos (by simp [aOk, Int32.not_lt.mp hw, h2])]
      cases hq : aSh A with
      | none =>
        rw [hq] at hs
        rw [if_pos hs]
        exact yOk.g h _
      | some q =>
        rw [hq] at hs
        obtain ⟨s1, s2, s3, s4, s5, s6⟩ := hs
        rw [s1, if_neg i1n0, s4, s5]
        by_cases w0 : w = 0
        · rw [if_pos w0]
          show yOk A σ (aGood A (if w = 0 then _ else _)) _
          rw [if_pos w0]
          exact yOk.g h _
        · rw [if_neg w0]
          show yOk A σ (aGood A (if w = 0 then _ else _)) _
          rw [if_neg w0]
          exact yOk.g h _
    · have h2 : ¬ w < nI 2 := by
        obtain ⟨j, hj, rfl⟩ := nI_of hw
        intro q
        exact h1 ((nI_leI hj (b := 1) (by decide)).mpr (by have := (nI_ltI hj (b := 2) (by decide)).mp q; omega))
      rw [if_neg h1, if_neg (by simp [aOk, h2])]
      exact yOk.r h 1 (by decide)
/-- the letter, as the law has it -/
theorem y_letter {A : aS} {σ : sS} (h : C0 A σ) (i : Int32) : L_letter i σ = some (match sp_letter A i with | none => (1, uT σ) | some x => (0, uL σ 80 0 x.toInt64)) := by
  unfold L_letter sp_letter
  have hs := h.2.2.2
  unfold cS0 at hs
  cases hq : aSh A with
  | none =>
    rw [hq] at hs
    rw [if_neg (by simp [q_let, hs])]
  | some q =>
    rw [hq] at hs
    obtain ⟨s1, s2, s3, s4, s5, s6⟩ := hs
    have e : q_let σ i = aOk (q.1.length + q.2.length) i := by
      unfold q_let aOk
      rw [s1, s4, s5, nI_add]
      rfl
    rw [e]
    by_cases hi : aOk (q.1.length + q.2.length) i = true
    · obtain ⟨j, hj, rfl⟩ := aOk_t hi (by omega)
      simp only [if_pos hi]
      rw [rg_nI (by omega), s6 j hj, nI_clamp (by omega)]
    · simp only [if_neg hi]
