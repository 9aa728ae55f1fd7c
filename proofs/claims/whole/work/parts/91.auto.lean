/-! lines of the tape: a new automaton (the reference) -/
def kxA (F : Nat) (σ6 : sS) : Option sS := bnd (vL σ6 90 13) (fun yq7 => bd (L_X12_goOn F σ6) (fun σ9 => bd (L_X12_needs F 2 σ9) (fun σ11 => bd2 (L_X12_readWhole F 1 4 σ11) (fun rq13 σ14 => if (vI σ14 90 7) ≤ 0 then (grd (inb (vI σ14 90 22) 3) (bnd (uL σ14 118 (vI σ14 90 22).toNatClampNeg yq7) (fun σ17 => grd (inb ((3 : Int32) + (vI σ17 90 22)) 6) (bnd (uI σ17 114 ((3 : Int32) + (vI σ17 90 22)).toNatClampNeg rq13) (fun σ19 => grd (inb ((3 : Int32) + (vI σ19 90 22)) 6) (bnd (uI σ19 115 ((3 : Int32) + (vI σ19 90 22)).toNatClampNeg 0) (fun σ21 => grd (inb ((3 : Int32) + (vI σ21 90 22)) 6) (bnd (uI σ21 116 ((3 : Int32) + (vI σ21 90 22)).toNatClampNeg 0) (fun σ23 => bnd (uI σ23 90 22 ((vI σ23 90 22) + 1)) (fun σ24 => some σ24)))))))))) else (some σ14)))))
theorem x_a25 {F : Nat} {σ : sS} : L_X12_readAuto_25 F σ = bd (L_X12_goOn F σ) (fun σ4 => if (vI σ4 90 7) = 0 then (if (vI σ4 90 9) = 2 then (bd (L_X12_isOwn F σ4) (fun rq48 => if rq48 = 0 then (L_X12_readAuto_58 F (kxA F) F 0 σ4) else (bd (L_X12_flaw 1 σ4) (fun σ70 => L_X12_readAuto_58 F (kxA F) F 0 σ70)))) else (bd (L_X12_flaw 1 σ4) (fun σ27 => L_X12_readAuto_58 F (kxA F) F 0 σ27))) else (L_X12_readAuto_58 F (kxA F) F 0 σ4)) := rfl
theorem n0_pos {x : Int32} (h : 0 < x) : ¬ x = 0 := fun c => absurd (c ▸ h : (0 : Int32) < 0) (by decide)
theorem x_isWordN {F i : Nat} {σ : sS} (h : 0 < vI σ 90 7) : L_X12_isWord F i σ = some 0 := by
  unfold L_X12_isWord
  rw [if_neg (n0_pos h)]
theorem x_needsN {F i : Nat} {σ : sS} (h : 0 < vI σ 90 7) : L_X12_needs F i σ = some σ := by
  unfold L_X12_needs
  rw [x_isWordN h, bd_s, if_pos rfl, x_flawN h, bd_s, x_goN h, bd_s]
theorem kxA_N {F : Nat} {σ : sS} (h : 0 < vI σ 90 7) : kxA F σ = some σ := by
  obtain ⟨v, hv⟩ := x_wholeN (F := F) (l := 1) (m := 4) h
  unfold kxA
  simp only [bnd_s]
  rw [x_goN h, bd_s, x_needsN h, bd_s, hv, bd2_s, if_neg (Int32.not_le.mpr h)]
theorem x_58N {F K : Nat} {kx : sS → Option sS} {σ : sS} (hK : vI σ 90 22 = nI K) (h3 : K ≤ 3) (h : 0 < vI σ 90 7) : ∀ (k i f : Nat), i + k = K → k < f → L_X12_readAuto_58 F kx f (nI i) σ = kx σ := by
  intro k
  induction k with
  | zero =>
    intro i f hi hf
    obtain ⟨f, rfl⟩ : ∃ g, f = g + 1 := ⟨f - 1, by omega⟩
    rw [L_X12_readAuto_58, hK, if_pos (nI_le (by omega) (by omega))]
  | succ k ih =>
    intro i f hi hf
    obtain ⟨f, rfl⟩ : ∃ g, f = g + 1 := ⟨f - 1, by omega⟩
    rw [L_X12_readAuto_58, hK, if_neg (nI_ge (by omega) (by omega)), inb_n (by omega) (by omega), grd_s, x_flawN h, bd_s, nI_1, ih (i + 1) f (by omega) (by omega)]
    split
    · rfl
    · rfl
theorem x_a25N {b : Nat → Int32} {e F : Nat} {D : dD} {σ : sS} (hD : rD b e D σ) (hF : 400 < F) (h : 0 < vI σ 90 7) : L_X12_readAuto_25 F σ = some σ := by
  have h3 := hD.1.2.1
  rw [x_a25, x_goN h, bd_s, if_neg (n0_pos h)]
  exact (x_58N hD.2.2.1 h3 h (dK D) 0 F (by omega) (by omega)).trans (kxA_N h)
theorem x_58 {b : Nat → Int32} {e q F : Nat} {D : dD} {kx : sS → Option sS} {σ : sS} (hD : rD b e D σ) (h7 : vI σ 90 7 = 0) (h10 : vI σ 90 10 = nI q) (hw : vL σ 90 13 = wdv b q (tke b e q - q)) (hn : tke b e q - q ≤ 7) (hs : smA b q (tke b e q - q)) : ∀ (k i f : Nat), i + k = dK D → k < f → L_X12_readAuto_58 F kx f (nI i) σ = kx (if ∃ j, j < k ∧ smw b (dN D (i + j)) (q, tke b e q - q) then uI (uI σ 90 7 3) 90 8 (nI q) else σ) := by
  have h3 := hD.1.2.1
  intro k
  induction k with
  | zero =>
    intro i f hi hf
    obtain ⟨f, rfl⟩ : ∃ g, f = g + 1 := ⟨f - 1, by omega⟩
    rw [L_X12_readAuto_58, hD.2.2.1, if_pos (nI_le (by omega) (by omega)), if_neg]
    rintro ⟨j, hj, -⟩
    omega
  | succ k ih =>
    intro i f hi hf
    obtain ⟨f, rfl⟩ : ∃ g, f = g + 1 := ⟨f - 1, by omega⟩
    obtain ⟨w1, w2, w3⟩ := (hD.1.2.2.2 i (by omega)).2
    have hiff := wdv_iff (b := b) (c := b) w1 hn w2 hs
    rw [L_X12_readAuto_58, hD.2.2.1, if_neg (nI_ge (by omega) (by omega)), inb_n (by omega) (by omega), grd_s, nI_clamp (by omega), (hD.2.2.2.1 i (by omega)).2, hw, x_flaw h7, bd_s, h10, nI_1]
    by_cases hc : smw b (dN D i) (q, tke b e q - q)
    · rw [if_pos ((lg_cmp_eq _ _).mpr (hiff.mpr hc)), x_58N (K := dK D) (σ := uI (uI σ 90 7 3) 90 8 (nI q)) hD.2.2.1 h3 (show (0 : Int32) < 3 by decide) k (i + 1) f (by omega) (by omega), if_pos ⟨0, by omega, hc⟩]
    · rw [if_neg (fun c => hc (hiff.mp ((lg_cmp_eq _ _).mp c))), ih (i + 1) f (by omega) (by omega)]
      by_cases hx : ∃ j, j < k ∧ smw b (dN D (i + 1 + j)) (q, tke b e q - q)
      · obtain ⟨j, j1, j2⟩ := hx
        rw [if_pos ⟨j, j1, j2⟩, if_pos ⟨j + 1, by omega, by rw [show i + (j + 1) = i + 1 + j by omega]; exact j2⟩]
      · rw [if_neg hx, if_neg]
        rintro ⟨j, j1, j2⟩
        cases j with
        | zero => exact hc j2
        | succ j => exact hx ⟨j, by omega, by rw [show i + 1 + j = i + (j + 1) by omega]; exact j2⟩
theorem x_isOwn {b : Nat → Int32} {e q F : Nat} {τ : sS} (h : tkT b e q τ) (h7 : vI τ 90 7 = 0) (hF : 7 < F) : L_X12_isOwn F τ = some (if kpt b e q then 1 else 0) := by
  unfold L_X12_isOwn
  rw [x_isWord h h7 hF (i := 0) (by decide), x_isWord h h7 hF (i := 1) (by decide), x_isWord h h7 hF (i := 2) (by decide), x_isWord h h7 hF (i := 3) (by decide), x_isWord h h7 hF (i := 4) (by decide), x_isWord h h7 hF (i := 5) (by decide)]
  by_cases h0 : isW b e q 0
  · rw [if_pos h0, bd_o, if_pos ⟨0, by decide, h0⟩]
  · rw [if_neg h0, bd_z]
    by_cases h1 : isW b e q 1
    · rw [if_pos h1, bd_o, if_pos ⟨1, by decide, h1⟩]
    · rw [if_neg h1, bd_z]
      by_cases h2 : isW b e q 2
      · rw [if_pos h2, bd_o, if_pos ⟨2, by decide, h2⟩]
      · rw [if_neg h2, bd_z]
        by_cases h3 : isW b e q 3
        · rw [if_pos h3, bd_o, if_pos ⟨3, by decide, h3⟩]
        · rw [if_neg h3, bd_z]
          by_cases h4 : isW b e q 4
          · rw [if_pos h4, bd_o, if_pos ⟨4, by decide, h4⟩]
          · rw [if_neg h4, bd_z]
            by_cases h5 : isW b e q 5
            · rw [if_pos h5, bd_o, if_pos ⟨5, by decide, h5⟩]
            · rw [if_neg h5, bd_z, if_neg]
              rintro ⟨i, hi, c⟩
              obtain rfl | rfl | rfl | rfl | rfl | rfl : i = 0 ∨ i = 1 ∨ i = 2 ∨ i = 3 ∨ i = 4 ∨ i = 5 := by omega
              · exact h0 c
              · exact h1 c
              · exact h2 c
              · exact h3 c
              · exact h4 c
              · exact h5 c
