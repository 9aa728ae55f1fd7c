/-! lines of the tape, all of them (the reference) -/
theorem bd_id {α : Type} {o : Option α} : bd o (fun r => some r) = o := by
  cases o with
  | none => rfl
  | some x => rfl
theorem rP.fo {b : Nat → Int32} {e : Nat} {σ τ : sS} {x : pE (Nat × dD)} {o : Option sS} (h : rP b e τ x o) (f : fo σ τ) : rP b e σ x o := by
  cases x with
  | inl k =>
    obtain ⟨τ, t1, t2, t3, t4, t5⟩ := h
    exact ⟨τ, t1, t2, t3, t4, f.tr t5⟩
  | inr z =>
    obtain ⟨τ, t1, t2, t3, t4, t5⟩ := h
    exact ⟨τ, t1, t2, t3, t4, f.tr t5⟩
theorem xl_auto {b : Nat → Int32} {e q F : Nat} {D : dD} {σ : sS} (h : tkT b e q σ) (h7 : vI σ 90 7 = 0) (hD : rD b e D σ) (hF : 400 < F) : rP b e σ (sAuto b e q D) (L_X12_readAuto F σ) := by
  obtain ⟨o1, o2, o3, o4⟩ := hD.1
  have bad : ∀ k : Int32, 0 < k → L_X12_readAuto_25 F (uI (uI σ 90 7 k) 90 8 (nI q)) = some (uI (uI σ 90 7 k) 90 8 (nI q)) := fun k hk => x_a25N (hD.fm fm_flaw (by decide) (by decide)) hF (show 0 < k from hk)
  unfold sAuto L_X12_readAuto
  rw [hD.2.2.1, x_flaw h7, bd_s, h.2.2.1]
  by_cases h3 : dK D = 3
  · rw [if_pos h3, if_pos (by rw [h3]; rfl)]
    unfold L_X12_readAuto_13
    rw [x_flawN (σ := uI (uI σ 90 7 4) 90 8 (nI q)) (show (0 : Int32) < 4 by decide), bd_s, bad 4 (by decide)]
    refine ⟨uI (uI σ 90 7 4) 90 8 (nI q), ?_, rfl, by decide, rfl, fo.rf⟩
    split
    · rfl
    · rfl
  · rw [if_neg h3, if_neg (show ¬ nI (dK D) = 3 from fun c => h3 (nI_ij (y := 3) (by omega) (by omega) c))]
    unfold L_X12_readAuto_13
    rw [hD.2.1, x_flaw h7, bd_s, h.2.2.1]
    by_cases hL : dL D = 0
    · rw [if_pos hL, if_pos (by rw [hL]; rfl), bad 5 (by decide)]
      exact ⟨_, rfl, rfl, by decide, rfl, fo.rf⟩
    · rw [if_neg hL, if_neg (nI_n0 hL (by omega)), x_a25]
      obtain ⟨τ, t1, t2⟩ := x_goOn h.1 h7 hF
      have f1 := f_L_X12_goOn t1
      have t7 : vI τ 90 7 = 0 := (f1.f (by decide) (fun h => nomatch h)).trans h7
      have tD := hD.fm f1 (by decide) (by decide)
      rw [t1, bd_s, if_pos t7]
      rw [show tq b e (tke b e q) = nx b e q from rfl] at t2
      generalize nx b e q = q1 at t2
      have bd1 : ∀ k : Int32, 0 < k → L_X12_readAuto_58 F (kxA F) F 0 (uI (uI τ 90 7 k) 90 8 (nI q1)) = some (uI (uI τ 90 7 k) 90 8 (nI q1)) := fun k hk => (x_58N (K := dK D) (σ := uI (uI τ 90 7 k) 90 8 (nI q1)) tD.2.2.1 o2 (show 0 < k from hk) (dK D) 0 F (by omega) (by omega)).trans (kxA_N (show 0 < k from hk))
      rw [t2.2.2.2.1, x_flaw t7, bd_s, t2.2.2.1, bd1 1 (by decide)]
      unfold sName
      by_cases k2 : tkk b e q1 = 2
      · rw [if_pos k2, x_isOwn t2 t7 (by omega)]
        by_cases kp : kpt b e q1
        · rw [if_pos kp, bd_o, if_neg (fun c => c.2 kp)]
          exact ⟨_, rfl, rfl, by decide, rfl, by have g := fo.fm f1; exact g⟩
        · rw [if_neg kp, bd_z, if_pos ⟨k2, kp⟩]
          obtain ⟨-, -, -, k4, k5, -⟩ := tkk_2 k2 t2.2.1
          have hl := x_58 (F := F) (kx := kxA F) tD t7 t2.2.2.1 (t2.2.2.2.2.1 k2) k4 k5 (dK D) 0 F (by omega) (by omega)
          simp only [Nat.zero_add] at hl
          rw [show L_X12_readAuto_58 F (kxA F) F 0 τ = _ from hl]
          by_cases hx : ∃ i, i < dK D ∧ smw b (dN D i) (q1, tke b e q1 - q1)
          · rw [if_pos hx, if_pos hx, kxA_N (σ := uI (uI τ 90 7 3) 90 8 (nI q1)) (show (0 : Int32) < 3 by decide)]
            exact ⟨_, rfl, rfl, by decide, rfl, by have g := fo.fm f1; exact g⟩
          · rw [if_neg hx, if_neg hx]
            exact (x_kxA t2 t7 tD hF k2 (by omega) hL).fo (fo.fm f1)
      · rw [if_neg k2, if_neg (fun c => k2 c.1)]
        exact ⟨_, rfl, rfl, by decide, rfl, by have g := fo.fm f1; exact g⟩
theorem xl_line {b : Nat → Int32} {e q F : Nat} {D : dD} {σ : sS} (h : tkT b e q σ) (h7 : vI σ 90 7 = 0) (hD : rD b e D σ) (hF : 400 < F) : rP b e σ (sLine b e q D) (L_X12_readLine F σ) := by
  unfold sLine L_X12_readLine
  rw [x_isWord h h7 (by omega) (i := 0) (by decide), x_isWord h h7 (by omega) (i := 1) (by decide), x_isWord h h7 (by omega) (i := 3) (by decide), x_isWord h h7 (by omega) (i := 4) (by decide), x_isWord h h7 (by omega) (i := 5) (by decide)]
  by_cases h0 : isW b e q 0
  · rw [if_pos h0, if_pos h0, bd_o, bd_id]
    exact x_let h h7 hD hF
  · rw [if_neg h0, if_neg h0, bd_z]
    by_cases h1 : isW b e q 1
    · rw [if_pos h1, if_pos h1, bd_o, bd_id]
      exact xl_auto h h7 hD hF
    · rw [if_neg h1, if_neg h1, bd_z]
      by_cases h3 : isW b e q 3
      · rw [if_pos h3, if_pos h3, bd_o, bd_id]
        exact xl_mark h h7 hD hF (Or.inr rfl)
      · rw [if_neg h3, if_neg h3, bd_z]
        by_cases h4 : isW b e q 4
        · rw [if_pos h4, if_pos h4, bd_o, bd_id]
          exact xl_mark h h7 hD hF (Or.inl rfl)
        · rw [if_neg h4, if_neg h4, bd_z]
          by_cases h5 : isW b e q 5
          · rw [if_pos h5, if_pos h5, bd_o, bd_id]
            exact xl_edge h h7 hD hF
          · rw [if_neg h5, if_neg h5, bd_z, bd_id, x_flaw h7, h.2.2.1]
            exact ⟨_, rfl, rfl, by decide, rfl, fo.rf⟩
