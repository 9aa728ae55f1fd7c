/-! words of the document: both sides know them -/
theorem z_wo4 {F i : Nat} (kx : Int64 → Option Int64) (hi : i < 6) : ∀ (k j f : Nat), j + k = kwl i → k < f → L_X12_wordOf_4 F i kx f (wdv (kwb i) 0 j) (nI j) = kx (wdv (kwb i) 0 (kwl i)) := by
  have h7 := (kw_7 i hi).1
  intro k
  induction k with
  | zero =>
    intro j f hj hf
    obtain ⟨f, rfl⟩ : ∃ g, f = g + 1 := ⟨f - 1, by omega⟩
    rw [L_X12_wordOf_4, if_pos (show nI (ab_len.getD i 0) ≤ nI j from nI_le (show kwl i ≤ j by omega) (by omega)), show j = kwl i by omega]
  | succ k ih =>
    intro j f hj hf
    obtain ⟨f, rfl⟩ : ∃ g, f = g + 1 := ⟨f - 1, by omega⟩
    rw [L_X12_wordOf_4, if_neg (show ¬ nI (ab_len.getD i 0) ≤ nI j from nI_ge (show j < kwl i by omega) (show kwl i < 2 ^ 31 by omega)), show inb (nI j) (ab_len.getD i 0) = true from inb_n (show j < kwl i by omega) (by omega), grd_s]
    simp only [bnd_s]
    rw [nI_1, nI_clamp (by omega), ← ih (j + 1) f (by omega) (by omega)]
    congr 1
    rw [wdv, if_pos (by omega), Nat.zero_add]
    rfl
theorem z_wo {F i : Nat} (hi : i < 6) (hF : 7 < F) : L_X12_wordOf F i = some (wdv (kwb i) 0 (kwl i)) := by
  have h7 := (kw_7 i hi).1
  exact z_wo4 (fun y => some y) hi (kwl i) 0 F (by omega) (by omega)
/-- the token at q is the document's word i -/
abbrev isW (b : Nat → Int32) (e q i : Nat) : Prop := tkk b e q = 2 ∧ tke b e q - q = kwl i ∧ ∀ j, j < kwl i → b (q + j) = kwb i j
theorem tkk_2 {b : Nat → Int32} {e q : Nat} (h : tkk b e q = 2) (hq : q ≤ e) : q < e ∧ kSm b q = true ∧ tke b e q = scn (kSm b) e q ∧ tke b e q - q ≤ 7 ∧ smA b q (tke b e q - q) ∧ q < tke b e q := by
  unfold tkk at h
  by_cases h1 : q = e
  · rw [if_pos h1] at h; exact absurd h (by decide)
  · rw [if_neg h1] at h
    by_cases h2 : kSm b q = true
    · rw [if_pos h2] at h
      have e1 : tke b e q = scn (kSm b) e q := by unfold tke; rw [if_neg h1, if_pos h2]
      by_cases h3 : scn (kSm b) e q - q ≤ 7
      · refine ⟨by omega, h2, e1, by rw [e1]; exact h3, ?_, ?_⟩
        · rw [e1]
          intro j hj
          exact scn_all (P := kSm b) (e := e) (e - q) q (by omega) (q + j) (by omega) (by omega)
        · rw [e1, scn_go (by omega) h2]
          exact (scn_le (e - (q + 1)) (q + 1) (by omega)).1
      · rw [if_neg h3] at h; exact absurd h (by decide)
    · rw [if_neg h2] at h
      by_cases h3 : kDg b q = true
      · rw [if_pos h3] at h
        by_cases h4 : scn (kDg b) e q - q ≤ 1
        · rw [if_pos h4] at h; exact absurd h (by decide)
        · rw [if_neg h4] at h; exact absurd h (by decide)
      · rw [if_neg h3] at h
        by_cases s1 : b q = 59
        · rw [if_pos s1] at h; exact absurd h (by decide)
        · rw [if_neg s1] at h
          by_cases s2 : b q = 40
          · rw [if_pos s2] at h; exact absurd h (by decide)
          · rw [if_neg s2] at h
            by_cases s3 : b q = 41
            · rw [if_pos s3] at h; exact absurd h (by decide)
            · rw [if_neg s3] at h; exact absurd h (by decide)
theorem x_isWord {b : Nat → Int32} {e q F i : Nat} {τ : sS} (h : tkT b e q τ) (h7 : vI τ 90 7 = 0) (hF : 7 < F) (hi : i < 6) : L_X12_isWord F i τ = some (if isW b e q i then 1 else 0) := by
  obtain ⟨h1, h2, h3, h4, h5, -, -⟩ := h
  unfold L_X12_isWord
  rw [h7, if_pos rfl, h4]
  by_cases hk : tkk b e q = 2
  · rw [if_pos hk, z_wo hi hF, bd_s, h5 hk]
    obtain ⟨-, -, -, k1, k2, -⟩ := tkk_2 hk h2
    have hiff := wdv_iff k1 (kw_7 i hi).1 k2 (fun j hj => kw_sm i hi j hj)
    by_cases hw : isW b e q i
    · rw [if_pos hw, if_pos ((lg_cmp_eq _ _).mpr (hiff.mpr ⟨hw.2.1, fun j hj => by rw [Nat.zero_add]; exact hw.2.2 j (by have := hw.2.1; omega)⟩))]
    · rw [if_neg hw, if_neg (fun c => hw ?_)]
      obtain ⟨c1, c2⟩ := hiff.mp ((lg_cmp_eq _ _).mp c)
      exact ⟨hk, c1, fun j hj => by have := c2 j (by omega); rwa [Nat.zero_add] at this⟩
  · rw [if_neg hk, if_neg (fun c => hk c.1)]
theorem ckk_2 {b : Nat → Int32} {e q : Nat} : ckk b e q = 2 ↔ tkk b e q = 2 := by
  unfold ckk tkk
  by_cases h1 : q = e
  · rw [if_pos h1, if_pos h1]; decide
  · rw [if_neg h1, if_neg h1]
    by_cases h2 : kSm b q = true
    · rw [if_pos h2, if_pos h2]
      by_cases h3 : scn (kSm b) e q - q ≤ 7
      · rw [if_pos h3, if_pos h3]
      · rw [if_neg h3, if_neg h3]; decide
    · rw [if_neg h2, if_neg h2]
      by_cases h3 : kDg b q = true
      · rw [if_pos h3, if_pos h3]
        by_cases h4 : scn (kDg b) e q - q ≤ 1
        · rw [if_pos h4, if_pos h4]
        · rw [if_neg h4, if_neg h4]; decide
      · rw [if_neg h3, if_neg h3]
        by_cases s1 : b q = 59
        · rw [if_pos s1, if_pos s1]; decide
        · rw [if_neg s1, if_neg s1]
          by_cases s2 : b q = 40
          · rw [if_pos s2, if_pos s2]; decide
          · rw [if_neg s2, if_neg s2]
            by_cases s3 : b q = 41
            · rw [if_pos s3, if_pos s3]; decide
            · rw [if_neg s3, if_neg s3]; decide
theorem y_sl {b : Nat → Int32} {e q i : Nat} {τ : sS} (h : tkD b e q τ) : ∀ (k j : Nat), q + j + k ≤ e → t_sl τ i k j = if ∀ m, m < k → b (q + (j + m)) = kwb i (j + m) then 1 else 0 := by
  have he := h.2.2.1
  intro k
  induction k with
  | zero =>
    intro j hj
    rw [if_pos (fun m hm => absurd hm (by omega))]
    rfl
  | succ k ih =>
    intro j hj
    rw [t_sl, h.2.2.2.2.1, nI_add, rg_nI (by omega), h.1 _ (by omega), ih (j + 1) (by omega)]
    by_cases h1 : b (q + j) = kwb i j
    · rw [if_pos (show b (q + j) = (ab_byt.getD i []).getD j 0 from h1)]
      by_cases h2 : ∀ m, m < k → b (q + (j + 1 + m)) = kwb i (j + 1 + m)
      · rw [if_pos h2, if_pos]
        intro m hm
        cases m with
        | zero => exact h1
        | succ m => have := h2 m (by omega); rwa [show j + 1 + m = j + (m + 1) by omega] at this
      · rw [if_neg h2, if_neg]
        intro c
        refine h2 (fun m hm => ?_)
        have := c (m + 1) (by omega)
        rwa [show j + (m + 1) = j + 1 + m by omega] at this
    · rw [if_neg (show ¬ b (q + j) = (ab_byt.getD i []).getD j 0 from h1), if_neg (fun c => h1 (c 0 (by omega)))]
theorem y_spells {b : Nat → Int32} {e q i : Nat} {τ : sS} (h : tkD b e q τ) (hi : i < 6) : t_sp τ i = if isW b e q i then 1 else 0 := by
  have he := h.2.2.1
  have h7 := (kw_7 i hi).1
  unfold t_sp
  rw [h.2.2.2.2.2.1]
  by_cases hk : tkk b e q = 2
  · obtain ⟨k0, -, -, k1, k2, -⟩ := tkk_2 hk h.2.2.2.1
    have hte := (tke_le (b := b) h.2.2.2.1).2
    rw [if_pos (ckk_2.mpr hk), h.2.2.2.2.2.2.2 (ckk_2.mpr hk)]
    by_cases hl : tke b e q - q = kwl i
    · rw [if_pos (show nI (tke b e q - q) = nI (ab_len.getD i 0) from congrArg nI hl)]
      have h2 := y_sl (i := i) h (kwl i) 0 (by omega)
      show t_sl τ i (kwl i) 0 = _
      rw [h2]
      by_cases hw : isW b e q i
      · rw [if_pos hw, if_pos (fun m hm => by rw [Nat.zero_add]; exact hw.2.2 m hm)]
      · rw [if_neg hw, if_neg (fun c => hw ⟨hk, hl, fun m hm => by have := c m hm; rwa [Nat.zero_add] at this⟩)]
    · rw [if_neg (show ¬ nI (tke b e q - q) = nI (ab_len.getD i 0) from fun c => hl (nI_ij (by omega) (show kwl i < 2 ^ 31 by omega) c)), if_neg (fun c => hl c.2.1)]
  · rw [if_neg (fun c => hk (ckk_2.mp c)), if_neg (fun c => hk c.1)]
