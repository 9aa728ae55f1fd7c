/-! numbers: both sides read them alike -/
theorem tk_cases {b : Nat → Int32} {e q : Nat} (hq : q ≤ e) : (q = e ∧ tkk b e q = 1 ∧ ckk b e q = 0) ∨ (q < e ∧ tkk b e q = 2 ∧ ckk b e q = 2) ∨ (q < e ∧ tkk b e q = 3 ∧ ckk b e q = 3 ∧ kDg b q = true) ∨ (q < e ∧ tkk b e q = 4 ∧ ckk b e q = b q ∧ (b q = 59 ∨ b q = 40 ∨ b q = 41)) ∨ (q < e ∧ tkk b e q = 0 ∧ ckk b e q = 1) := by
  unfold tkk ckk
  by_cases h1 : q = e
  · rw [if_pos h1, if_pos h1]; exact Or.inl ⟨h1, rfl, rfl⟩
  · have hqe : q < e := by omega
    rw [if_neg h1, if_neg h1]
    refine Or.inr ?_
    by_cases h2 : kSm b q = true
    · rw [if_pos h2, if_pos h2]
      by_cases h3 : scn (kSm b) e q - q ≤ 7
      · rw [if_pos h3, if_pos h3]; exact Or.inl ⟨hqe, rfl, rfl⟩
      · rw [if_neg h3, if_neg h3]; exact Or.inr (Or.inr (Or.inr ⟨hqe, rfl, rfl⟩))
    · rw [if_neg h2, if_neg h2]
      refine Or.inr ?_
      by_cases h3 : kDg b q = true
      · rw [if_pos h3, if_pos h3]
        by_cases h4 : scn (kDg b) e q - q ≤ 1
        · rw [if_pos h4, if_pos h4]; exact Or.inl ⟨hqe, rfl, rfl, h3⟩
        · rw [if_neg h4, if_neg h4]; exact Or.inr (Or.inr ⟨hqe, rfl, rfl⟩)
      · rw [if_neg h3, if_neg h3]
        refine Or.inr ?_
        by_cases s1 : b q = 59
        · rw [if_pos s1, if_pos s1]; exact Or.inl ⟨hqe, rfl, s1.symm, Or.inl s1⟩
        · rw [if_neg s1, if_neg s1]
          by_cases s2 : b q = 40
          · rw [if_pos s2, if_pos s2]; exact Or.inl ⟨hqe, rfl, s2.symm, Or.inr (Or.inl s2)⟩
          · rw [if_neg s2, if_neg s2]
            by_cases s3 : b q = 41
            · rw [if_pos s3, if_pos s3]; exact Or.inl ⟨hqe, rfl, s3.symm, Or.inr (Or.inr s3)⟩
            · rw [if_neg s3, if_neg s3]; exact Or.inr ⟨hqe, rfl, rfl⟩
theorem kDg_n {b : Nat → Int32} {q : Nat} (h : kDg b q = true) : ∃ x, b q - 48 = nI x ∧ x ≤ 9 ∧ b q = nI (x + 48) := by
  have h1 : ¬ b q < 48 := by
    intro c
    simp [kDg, c] at h
  have h2 : ¬ 57 < b q := by
    intro c
    simp [kDg, c] at h
  obtain ⟨x, hx, e⟩ := nI_of (x := b q) (fun c => h1 (Int32.lt_trans c (by decide)))
  rw [e] at h1 h2
  have l1 : 48 ≤ x := Classical.byContradiction (fun c => h1 (nI_lt (b := 48) (by omega) (by omega)))
  have l2 : x ≤ 57 := Classical.byContradiction (fun c => h2 (nI_lt (a := 57) (by omega) (by omega)))
  obtain ⟨y, rfl⟩ : ∃ y, x = y + 48 := ⟨x - 48, by omega⟩
  refine ⟨y, ?_, by omega, e⟩
  rw [e, ← nI_add]
  exact Int32.add_sub_cancel _ _
/-- the number at the token q, from l to m; else which fault, and where -/
def sWhole (b : Nat → Int32) (e q l m : Nat) : (Int32 × Nat) ⊕ Nat := if tkk b e q = 3 then (if l ≤ (b q - 48).toNatClampNeg ∧ (b q - 48).toNatClampNeg ≤ m then .inr (b q - 48).toNatClampNeg else .inl (2, q)) else .inl (1, q)
abbrev nx (b : Nat → Int32) (e q : Nat) : Nat := tq b e (tke b e q)
theorem x_flaw {σ : sS} {k : Int32} (h : vI σ 90 7 = 0) : L_X12_flaw k σ = some (uI (uI σ 90 7 k) 90 8 (vI σ 90 10)) := by
  unfold L_X12_flaw L_X12_flawAt
  rw [h, if_pos (by decide)]
  rfl
theorem x_flawN {σ : sS} {k : Int32} (h : 0 < vI σ 90 7) : L_X12_flaw k σ = some σ := by
  unfold L_X12_flaw L_X12_flawAt
  rw [if_neg (Int32.not_le.mpr h)]
  rfl
theorem x_goN {F : Nat} {σ : sS} (h : 0 < vI σ 90 7) : L_X12_goOn F σ = some σ := by
  unfold L_X12_goOn
  rw [if_neg (Int32.not_le.mpr h)]
theorem x_inN {x l m : Nat} (hx : x < 2 ^ 31) (hl : l < 2 ^ 31) (hm : m < 2 ^ 31) : L_X12_in (nI x) (nI l) (nI m) = if l ≤ x ∧ x ≤ m then 1 else 0 := by
  unfold L_X12_in
  by_cases h1 : l ≤ x
  · rw [if_neg (Int32.not_lt.mpr (nI_le h1 hx))]
    by_cases h2 : x ≤ m
    · rw [if_neg (Int32.not_lt.mpr (nI_le h2 hm)), if_pos ⟨h1, h2⟩]
    · rw [if_pos (nI_lt (by omega) hx), if_neg (fun c => h2 c.2)]
  · rw [if_pos (nI_lt (by omega) hl), if_neg (fun c => h1 c.1)]
abbrev kG : List Nat := [6, 9, 10, 11, 12, 13]
abbrev kH : List Nat := [6, 7, 8, 9, 10, 11, 12, 13]
theorem fm_flaw {σ : sS} {k x : Int32} : fm [] kH σ (uI (uI σ 90 7 k) 90 8 x) := (fm.uI (Or.inr ⟨rfl, by decide⟩)).tr (fm.uI (Or.inr ⟨rfl, by decide⟩))
theorem x_whole {b : Nat → Int32} {e q F l m : Nat} {σ : sS} (h : tkT b e q σ) (h7 : vI σ 90 7 = 0) (hF : 400 < F) (hl : l ≤ 9) (hm : m ≤ 9) : match sWhole b e q l m with
    | .inl (k, w) => ∃ v τ, L_X12_readWhole F (nI l) (nI m) σ = some (v, τ) ∧ vI τ 90 7 = k ∧ 0 < k ∧ vI τ 90 8 = nI w ∧ fm [] kH σ τ
    | .inr v => v ≤ m ∧ l ≤ v ∧ ∃ τ, L_X12_readWhole F (nI l) (nI m) σ = some (nI v, τ) ∧ tkT b e (nx b e q) τ ∧ vI τ 90 7 = 0 ∧ fm [] kG σ τ := by
  have g := h
  obtain ⟨h1, h2, h3, h4, -, h6, -⟩ := h
  unfold sWhole L_X12_readWhole
  rw [h4]
  by_cases hk : tkk b e q = 3
  · rw [if_pos hk, if_pos hk, h6 hk]
    have hd : kDg b q = true := by
      rcases tk_cases (b := b) h2 with ⟨-, c, -⟩ | ⟨-, c, -⟩ | ⟨-, -, -, c⟩ | ⟨-, c, -⟩ | ⟨-, c, -⟩
      · rw [c] at hk; exact absurd hk (by decide)
      · rw [c] at hk; exact absurd hk (by decide)
      · exact c
      · rw [c] at hk; exact absurd hk (by decide)
      · rw [c] at hk; exact absurd hk (by decide)
    obtain ⟨x, e1, hx, -⟩ := kDg_n hd
    rw [e1, nI_clamp (by omega), x_inN (by omega) (by omega) (by omega)]
    by_cases hr : l ≤ x ∧ x ≤ m
    · rw [if_pos hr, if_pos hr, if_neg i1n0]
      obtain ⟨τ, t1, t2⟩ := x_goOn h1 h7 hF
      refine ⟨hr.2, hr.1, τ, ?_, t2, ?_, f_L_X12_goOn t1⟩
      · unfold L_X12_readWhole_33
        simp only [bnd_s]
        rw [t1, bd_s, h6 hk, e1]
      · rw [(f_L_X12_goOn t1).f (by decide) (fun h => nomatch h)]; exact h7
    · rw [if_neg hr, if_neg hr, if_pos rfl, x_flaw h7, bd_s, h3]
      unfold L_X12_readWhole_33
      simp only [bnd_s]
      rw [x_goN (σ := uI (uI σ 90 7 2) 90 8 (nI q)) (show (0 : Int32) < 2 by decide)]
      exact ⟨_, _, rfl, rfl, by decide, rfl, fm_flaw⟩
  · rw [if_neg hk, if_neg hk, x_flaw h7, bd_s, h3]
    unfold L_X12_readWhole_33
    simp only [bnd_s]
    rw [x_goN (σ := uI (uI σ 90 7 1) 90 8 (nI q)) (show (0 : Int32) < 1 by decide)]
    exact ⟨_, _, rfl, rfl, by decide, rfl, fm_flaw⟩
