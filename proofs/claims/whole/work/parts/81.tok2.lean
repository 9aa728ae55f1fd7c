/-! tokens: what goOn does, in all -/
abbrev tq (b : Nat → Int32) (e p : Nat) : Nat := scn (kBl b) e p
def tkk (b : Nat → Int32) (e q : Nat) : Int32 := if q = e then 1 else if kSm b q = true then (if scn (kSm b) e q - q ≤ 7 then 2 else 0) else if kDg b q = true then (if scn (kDg b) e q - q ≤ 1 then 3 else 0) else if b q = 59 then 4 else if b q = 40 then 4 else if b q = 41 then 4 else 0
def tke (b : Nat → Int32) (e q : Nat) : Nat := if q = e then q else if kSm b q = true then scn (kSm b) e q else if kDg b q = true then scn (kDg b) e q else q + 1
theorem tke_le {b : Nat → Int32} {e q : Nat} (h : q ≤ e) : q ≤ tke b e q ∧ tke b e q ≤ e := by
  unfold tke
  by_cases h1 : q = e
  · rw [if_pos h1]; omega
  · rw [if_neg h1]
    by_cases h2 : kSm b q = true
    · rw [if_pos h2]; exact scn_le (e - q) q (by omega)
    · rw [if_neg h2]
      by_cases h3 : kDg b q = true
      · rw [if_pos h3]; exact scn_le (e - q) q (by omega)
      · rw [if_neg h3]; omega
/-- the reference's token in hand begins at q -/
def tkT (b : Nat → Int32) (e q : Nat) (τ : sS) : Prop := tkR b e (tke b e q) τ ∧ q ≤ e ∧ vI τ 90 10 = nI q ∧ vI τ 90 9 = tkk b e q ∧ (tkk b e q = 2 → vL τ 90 13 = wdv b q (tke b e q - q)) ∧ (tkk b e q = 3 → vI τ 90 12 = b q - 48) ∧ (tkk b e q = 4 → vI τ 90 11 = b q)
theorem nI_ij {x y : Nat} (hx : x < 2 ^ 31) (hy : y < 2 ^ 31) (h : nI x = nI y) : x = y := by
  have h2 := congrArg Int32.toNatClampNeg h
  rwa [nI_clamp hx, nI_clamp hy] at h2
theorem x_goOn {b : Nat → Int32} {e p F : Nat} {σ : sS} (h : tkR b e p σ) (h7 : vI σ 90 7 = 0) (hF : 400 < F) : ∃ τ, L_X12_goOn F σ = some τ ∧ tkT b e (tq b e p) τ := by
  have he := h.2.2.2.2
  have hpe := h.2.2.2.1
  have hq : p ≤ tq b e p ∧ tq b e p ≤ e := scn_le (e - p) p (by omega)
  generalize hqq : tq b e p = q at hq
  unfold L_X12_goOn
  rw [h7, if_pos (by decide), z_blank _ (e - p) p F σ (by omega) (by omega) h]
  have hqq' : scn (kBl b) e p = q := hqq
  rw [hqq']
  have g : tkR b e q (uI (uI σ 90 6 (nI q)) 90 10 (nI q)) := ⟨h.1, h.2.1, rfl, hq.2, he⟩
  unfold L_X12_goOn_46
  simp only [bnd_s]
  have v6 : vI (uI σ 90 6 (nI q)) 90 6 = nI q := rfl
  rw [v6]
  have v6' : vI (uI (uI σ 90 6 (nI q)) 90 10 (nI q)) 90 6 = nI q := g.2.2.1
  have v5' : vI (uI (uI σ 90 6 (nI q)) 90 10 (nI q)) 90 5 = nI e := g.2.1
  have v10' : vI (uI (uI σ 90 6 (nI q)) 90 10 (nI q)) 90 10 = nI q := rfl
  generalize hs : uI (uI σ 90 6 (nI q)) 90 10 (nI q) = ρ at g v6' v5' v10'
  rw [v6', v5', z_small g hq.2, z_digit g hq.2]
  unfold tkT tkk tke
  by_cases h1 : q = e
  · rw [if_pos (congrArg nI h1)]
    refine ⟨_, rfl, ?_⟩
    simp only [if_pos h1]
    exact ⟨⟨g.1, g.2.1, g.2.2.1, by omega, he⟩, hq.2, v10', rfl, fun q => absurd q (by decide), fun q => absurd q (by decide), fun q => absurd q (by decide)⟩
  · have hqe : q < e := by omega
    rw [if_neg (fun q => h1 (nI_ij (by omega) (by omega) q))]
    simp only [if_neg h1]
    by_cases h2 : kSm b q = true
    · rw [if_pos ⟨hqe, h2⟩, bd_o]
      simp only [if_pos h2]
      have g2 : tkR b e q (uL ρ 90 13 0) := ⟨g.1, g.2.1, g.2.2.1, hq.2, he⟩
      have ew : vL (uL ρ 90 13 0) 90 13 = wdv b q (q - q) := by
        rw [show q - q = 0 by omega]
        exact rfl
      rw [z_word (a := q) _ (e - q) q F (uL ρ 90 13 0) (by omega) (by omega) (by omega) g2 v10' ew]
      have hr : q ≤ scn (kSm b) e q ∧ scn (kSm b) e q ≤ e := scn_le (e - q) q (by omega)
      generalize scn (kSm b) e q = r at hr
      have w6 : vI (uL (uI (uL ρ 90 13 0) 90 6 (nI r)) 90 13 (wdv b q (r - q))) 90 6 = nI r := rfl
      have w10 : vI (uL (uI (uL ρ 90 13 0) 90 6 (nI r)) 90 13 (wdv b q (r - q))) 90 10 = nI q := v10'
      have e1 : nI r - nI q = nI (r - q) := by
        have e2 : nI r = nI (r - q) + nI q := by rw [nI_add]; congr 1; omega
        rw [e2, Int32.add_sub_cancel]
      rw [w6, w10, e1]
      by_cases h3 : r - q ≤ 7
      · rw [if_pos (show nI (r - q) ≤ (7 : Int32) from nI_le (b := 7) h3 (by omega))]
        refine ⟨_, rfl, ?_⟩
        simp only [if_pos h3]
        exact ⟨⟨g.1, g.2.1, w6, hr.2, he⟩, hq.2, w10, rfl, fun _ => rfl, fun q => absurd q (by decide), fun q => absurd q (by decide)⟩
      · rw [if_neg (show ¬ nI (r - q) ≤ (7 : Int32) from nI_ge (a := 7) (by omega) (by omega))]
        refine ⟨_, rfl, ?_⟩
        simp only [if_neg h3]
        exact ⟨⟨g.1, g.2.1, w6, hr.2, he⟩, hq.2, w10, rfl, fun _ => rfl, fun q => absurd q (by decide), fun q => absurd q (by decide)⟩
    · rw [if_neg (fun q => h2 q.2), bd_z]
      simp only [if_neg h2]
      by_cases h3 : kDg b q = true
      · rw [if_pos ⟨hqe, h3⟩, bd_o, inb_n (by omega) (by omega), grd_s, nI_clamp (by omega), g.1 q (by omega)]
        simp only [if_pos h3]
        have g2 : tkR b e q (uI ρ 90 12 (b q - 48)) := ⟨g.1, g.2.1, g.2.2.1, hq.2, he⟩
        rw [z_digits _ (e - q) q F _ (by omega) (by omega) g2]
        have hr : q ≤ scn (kDg b) e q ∧ scn (kDg b) e q ≤ e := scn_le (e - q) q (by omega)
        generalize scn (kDg b) e q = r at hr
        have w6 : vI (uI (uI ρ 90 12 (b q - 48)) 90 6 (nI r)) 90 6 = nI r := rfl
        have w10 : vI (uI (uI ρ 90 12 (b q - 48)) 90 6 (nI r)) 90 10 = nI q := v10'
        have w12 : vI (uI (uI ρ 90 12 (b q - 48)) 90 6 (nI r)) 90 12 = b q - 48 := rfl
        have e1 : nI r - nI q = nI (r - q) := by
          have e2 : nI r = nI (r - q) + nI q := by rw [nI_add]; congr 1; omega
          rw [e2, Int32.add_sub_cancel]
        rw [w6, w10, e1]
        by_cases h4 : r - q ≤ 1
        · rw [if_pos (show nI (r - q) ≤ (1 : Int32) from nI_le (b := 1) h4 (by omega))]
          refine ⟨_, rfl, ?_⟩
          simp only [if_pos h4]
          exact ⟨⟨g.1, g.2.1, w6, hr.2, he⟩, hq.2, w10, rfl, fun q => absurd q (by decide), fun _ => w12, fun q => absurd q (by decide)⟩
        · rw [if_neg (show ¬ nI (r - q) ≤ (1 : Int32) from nI_ge (a := 1) (by omega) (by omega))]
          refine ⟨_, rfl, ?_⟩
          simp only [if_neg h4]
          exact ⟨⟨g.1, g.2.1, w6, hr.2, he⟩, hq.2, w10, rfl, fun q => absurd q (by decide), fun q => absurd q (by decide), fun q => absurd q (by decide)⟩
      · rw [if_neg (fun q => h3 q.2), bd_z, inb_n (by omega) (by omega), grd_s, nI_clamp (by omega), g.1 q (by omega)]
        simp only [if_neg h3]
        have w11 : vI (uI ρ 90 11 (b q)) 90 11 = b q := rfl
        have x6 : ∀ k, vI (uI (uI ρ 90 11 (b q)) 90 9 k) 90 6 = nI q := fun k => v6'
        rw [w11]
        simp only [x6]
        rw [nI_1]
        have fin : ∀ k : Int32, tkR b e (q + 1) (uI (uI (uI ρ 90 11 (b q)) 90 9 k) 90 6 (nI (q + 1))) := fun k => ⟨g.1, g.2.1, rfl, by omega, he⟩
        by_cases s1 : b q = 59
        · simp only [if_pos s1]
          exact ⟨_, rfl, fin 4, hq.2, v10', rfl, fun q => absurd q (by decide), fun q => absurd q (by decide), fun _ => w11⟩
        · simp only [if_neg s1]
          by_cases s2 : b q = 40
          · simp only [if_pos s2]
            exact ⟨_, rfl, fin 4, hq.2, v10', rfl, fun q => absurd q (by decide), fun q => absurd q (by decide), fun _ => w11⟩
          · simp only [if_neg s2]
            by_cases s3 : b q = 41
            · simp only [if_pos s3]
              exact ⟨_, rfl, fin 4, hq.2, v10', rfl, fun q => absurd q (by decide), fun q => absurd q (by decide), fun _ => w11⟩
            · simp only [if_neg s3]
              exact ⟨_, rfl, fin 0, hq.2, v10', rfl, fun q => absurd q (by decide), fun q => absurd q (by decide), fun q => absurd q (by decide)⟩
