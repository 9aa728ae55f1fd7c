/-! the reference's small calls: link, feed -/
def sp_link (A : aS) (a f c t z : Int32) : Int32 × aS := if aOk (aC A) a = true ∧ aOk (mN (aMa A a.toNatClampNeg)) f = true then (if aOk (aG A) c = true then (if aOk (aC A) a = true ∧ aOk (mN (aMa A a.toNatClampNeg)) t = true then (if bit1 (mE (aMa A a.toNatClampNeg) c.toNatClampNeg f.toNatClampNeg) t = z then aRef A 5 else aGood (setM A a.toNatClampNeg (mkE (aMa A a.toNatClampNeg) c.toNatClampNeg f.toNatClampNeg t.toNatClampNeg)) (nI (ecn (mkE (aMa A a.toNatClampNeg) c.toNatClampNeg f.toNatClampNeg t.toNatClampNeg) 16))) else aRef A 1) else aRef A 1) else aRef A 1
theorem x_link {A : aS} {σ : sS} {F : Nat} (hF : 16 < F) (h : R0 A σ) (a f c t z : Int32) : ∃ τ, L_X12_link F a f c t z σ = some ((sp_link A a f c t z).1, τ) ∧ R0 (sp_link A a f c t z).2 τ ∧ ((sp_link A a f c t z).1 = -1 ∨ vI τ 90 32 = -1) := by
  have h := h.z 0
  unfold L_X12_link sp_link
  simp only [bnd_s]
  rw [x_isState h, x_isState h, x_isLetter h]
  simp only [bd_s]
  have h3 := h.c
  generalize uI σ 90 0 0 = ρ at h ⊢
  have hr : ∀ w : Int32, ∃ τ, (bd2 (L_X12_refused w ρ) (fun r t => some (r, t))) = some ((aRef A w).1, τ) ∧ R0 (aRef A w).2 τ ∧ ((aRef A w).1 = -1 ∨ vI τ 90 32 = -1) := fun w => ⟨_, rfl, h.ans w (-1), Or.inl rfl⟩
  by_cases ha : aOk (aC A) a = true ∧ aOk (mN (aMa A a.toNatClampNeg)) f = true
  · rw [if_pos ha, if_pos ha, if_neg i1n0]
    by_cases hc : aOk (aG A) c = true
    · rw [if_pos hc, if_pos hc, if_neg i1n0]
      by_cases ht : aOk (aC A) a = true ∧ aOk (mN (aMa A a.toNatClampNeg)) t = true
      · rw [if_pos ht, if_pos ht, if_neg i1n0]
        obtain ⟨ha, hf⟩ := ha
        obtain ⟨-, ht⟩ := ht
        obtain ⟨i, hi, rfl⟩ := aOk_t ha (by omega)
        rw [nI_clamp (by omega)] at hf ht ⊢
        have hm := (h.m hi).1
        have h4 := hm.2.1
        obtain ⟨j, hj, rfl⟩ := aOk_t hf (by omega)
        obtain ⟨k, hk, rfl⟩ := aOk_t ht (by omega)
        obtain ⟨g, hg, rfl⟩ := aOk_t hc (by omega)
        have he := hm.b.2.2 g j
        have e : (((16 : Int32) * nI i) + ((4 : Int32) * nI g)) + nI j = nI (16 * i + 4 * g + j) := by
          rw [show (16 : Int32) = nI 16 from rfl, show (4 : Int32) = nI 4 from rfl, nI_mul, nI_mul, nI_add, nI_add]
        rw [e, nI_clamp (by omega), nI_clamp (by omega), inb_n (by omega) (by omega), nI_clamp (by omega), (h.m hi).2.2.2.2 g j (by omega) (by omega), b_tb _ he k (by omega), b_xr _ he k (by omega)]
        have hE := (h.mkE hi hg hj hk).set (k := 32) (x := -1) (by decide)
        have hx : L_X12_edgeMany F (nI i) (uI (uI ρ 117 (16 * i + 4 * g + j) (nI (mE (aMa A i) g j ^^^ 2 ^ k))) 90 32 (-1)) = some (nI (ecn (mkE (aMa A i) g j k) 16)) := by
          have q := x_edgeMany hF hE (i := i) hi
          rw [setM_s] at q
          exact q
        have hgd : ∃ τ, (bd2 (L_X12_good (nI (ecn (mkE (aMa A i) g j k) 16)) (uI (uI ρ 117 (16 * i + 4 * g + j) (nI (mE (aMa A i) g j ^^^ 2 ^ k))) 90 32 (-1))) (fun r t => some (r, t))) = some ((aGood (setM A i (mkE (aMa A i) g j k)) (nI (ecn (mkE (aMa A i) g j k) 16))).1, τ) ∧ R0 (aGood (setM A i (mkE (aMa A i) g j k)) (nI (ecn (mkE (aMa A i) g j k) 16))).2 τ ∧ ((aGood (setM A i (mkE (aMa A i) g j k)) (nI (ecn (mkE (aMa A i) g j k) 16))).1 = -1 ∨ vI τ 90 32 = -1) := ⟨_, rfl, hE.ans 0 (-1), Or.inr rfl⟩
        rw [hx]
        simp only [bd_s]
        unfold bit1
        rw [nI_clamp (by omega)]
        by_cases hb : (mE (aMa A i) g j).testBit k = true
        · rw [if_pos hb, if_pos rfl]
          by_cases hz : (1 : Int32) = z
          · rw [if_pos hz, if_pos hz]; exact hr 5
          · rw [if_neg hz, if_neg hz]; exact hgd
        · rw [if_neg hb, if_neg i0n1]
          by_cases hz : (0 : Int32) = z
          · rw [if_pos hz, if_pos hz]; exact hr 5
          · rw [if_neg hz, if_neg hz]; exact hgd
      · rw [if_neg ht, if_neg ht]
        exact hr 1
    · rw [if_neg hc, if_neg hc]
      exact hr 1
  · rw [if_neg ha, if_neg ha]
    exact hr 1
/-! feed -/
/-- byte k of five numbers -/
def fdw (a b c d e : Int32) (k : Nat) : Int32 := if k < 4 then a else if k < 8 then b else if k < 12 then c else if k < 16 then d else e
def fdb (a b c d e : Int32) (k : Nat) : Int32 := (fdw a b c d e k >>> (nI (24 - 8 * (k % 4)) &&& 31)) &&& 255
def sp_feed (A : aS) (a b c d e : Int32) : Int32 × aS := if aT A + 20 ≤ 400 then (nI (aT A + 20), ((aT A + 20, fun j => if aT A ≤ j ∧ j < aT A + 20 then fdb a b c d e (j - aT A) else aB A j), A.2)) else (-1, A)
theorem b_fd : ∀ k, k < 20 → (24 : Int32) - (8 : Int32) * (nI k - nI k / 4 * 4) = nI (24 - 8 * (k % 4)) := by decide +kernel
theorem x_feedL {F : Nat} {a b c d e : Int32} {t : Nat} (ht : t + 20 ≤ 400) (kx : sS → Option (Int32 × sS)) : ∀ (n k f : Nat) (σ : sS), k + n = 20 → n < f → vI σ 90 4 = nI t → ∃ τ, L_X12_feed_23 F a b c d e kx f (nI k) σ = kx τ ∧ fm [103] [] σ τ ∧ ∀ j, vI τ 103 j = if t + k ≤ j ∧ j < t + 20 then fdb a b c d e (j - t) else vI σ 103 j := by
  intro n
  induction n with
  | zero =>
    intro k f σ hk hf h4
    obtain ⟨f, rfl⟩ : ∃ g, f = g + 1 := ⟨f - 1, by omega⟩
    have hk : k = 20 := by omega
    subst hk
    refine ⟨σ, by rw [L_X12_feed_23, if_pos (by decide)], fm.rf, fun j => ?_⟩
    rw [if_neg (by omega)]
  | succ n ih =>
    intro k f σ hk hf h4
    obtain ⟨f, rfl⟩ : ∃ g, f = g + 1 := ⟨f - 1, by omega⟩
    have c1 : ¬ (20 : Int32) ≤ nI k := by rw [show (20 : Int32) = nI 20 from rfl]; exact nI_ge (by omega) (by omega)
    have hle : ∀ m : Nat, m < 2 ^ 31 → (nI m ≤ nI k ↔ m ≤ k) := fun m hm => nI_leI hm (by omega)
    have e4 : ((4 : Int32) ≤ nI k) ↔ 4 ≤ k := hle 4 (by decide)
    have e8 : ((8 : Int32) ≤ nI k) ↔ 8 ≤ k := hle 8 (by decide)
    have e12 : ((12 : Int32) ≤ nI k) ↔ 12 ≤ k := hle 12 (by decide)
    have e16 : ((16 : Int32) ≤ nI k) ↔ 16 ≤ k := hle 16 (by decide)
    obtain ⟨τ, i1, i2, i3⟩ := ih (k + 1) f (uI σ 103 (t + k) (fdb a b c d e k)) (by omega) (by omega) h4
    refine ⟨τ, ?_, (fm.uI (Or.inl (by decide))).tr i2, fun j => ?_⟩
    · rw [← i1, L_X12_feed_23, if_neg c1, h4, nI_add, nI_1, inb_n (by omega) (by omega), nI_clamp (by omega), b_fd k (by omega)]
      simp only [bnd_s]
      unfold fdb fdw
      by_cases h1 : 4 ≤ k
      · rw [if_pos (e4.mpr h1), if_neg (show ¬ k < 4 by omega)]
        by_cases h2 : 8 ≤ k
        · rw [if_pos (e8.mpr h2), if_neg (show ¬ k < 8 by omega)]
          by_cases h3 : 12 ≤ k
          · rw [if_pos (e12.mpr h3), if_neg (show ¬ k < 12 by omega)]
            by_cases h5 : 16 ≤ k
            · rw [if_pos (e16.mpr h5), if_neg (show ¬ k < 16 by omega)]
              rfl
            · rw [if_neg (fun q => h5 (e16.mp q)), if_pos (show k < 16 by omega)]
              rfl
          · rw [if_neg (fun q => h3 (e12.mp q)), if_pos (show k < 12 by omega)]
            rfl
        · rw [if_neg (fun q => h2 (e8.mp q)), if_pos (show k < 8 by omega)]
          rfl
      · rw [if_neg (fun q => h1 (e4.mp q)), if_pos (show k < 4 by omega)]
        rfl
    · rw [i3 j, vI_u]
      by_cases hj : t + (k + 1) ≤ j ∧ j < t + 20
      · rw [if_pos hj, if_pos (by omega)]
      · rw [if_neg hj]
        by_cases hj2 : j = t + k
        · subst hj2
          rw [if_pos ⟨rfl, rfl⟩, if_pos (by omega), Nat.add_sub_cancel_left]
        · rw [if_neg (fun q => hj2 q.2), if_neg (by omega)]
theorem x_feed {A : aS} {σ : sS} {F : Nat} (hF : 20 < F) (h : R0 A σ) (a b c d e : Int32) : ∃ τ, L_X12_feed F a b c d e σ = some ((sp_feed A a b c d e).1, τ) ∧ R0 (sp_feed A a b c d e).2 τ := by
  have h := h.z 0
  unfold L_X12_feed sp_feed
  simp only [bnd_s]
  generalize uI σ 90 0 0 = ρ at h ⊢
  have h4 := h.1.2.1
  have ht := h.1.1
  have e20 : vI ρ 90 4 + 20 = nI (aT A + 20) := by rw [h4, show (20 : Int32) = nI 20 from rfl, nI_add]
  have hcc : nI (aT A + 20) ≤ (400 : Int32) ↔ aT A + 20 ≤ 400 := nI_leI (a := aT A + 20) (b := 400) (by omega) (by decide)
  rw [e20]
  by_cases hc : aT A + 20 ≤ 400
  · rw [if_pos (hcc.mpr hc), if_pos hc]
    obtain ⟨τ, i1, i2, i3⟩ := x_feedL (F := F) (a := a) (b := b) (c := c) (d := d) (e := e) hc (fun σ3 => bnd (uI σ3 90 4 (vI σ3 90 4 + 20)) (fun σ4 => some (vI σ4 90 4, σ4))) 20 0 F ρ rfl hF h4
    have i1 : L_X12_feed_23 F a b c d e (fun σ3 => bnd (uI σ3 90 4 (vI σ3 90 4 + 20)) (fun σ4 => some (vI σ4 90 4, σ4))) F 0 ρ = _ := i1
    have e4 : vI τ 90 4 + 20 = nI (aT A + 20) := by rw [i2.f (fun q => nomatch q) (by decide)]; exact e20
    refine ⟨uI τ 90 4 (nI (aT A + 20)), ?_, ?_⟩
    · simp only [bnd_s] at i1
      rw [i1, e4]
      rfl
    · obtain ⟨⟨t1, t2, t3⟩, ⟨a1, a2, a3, a4⟩, ⟨m1, m2, m3, m4, m5⟩, hs⟩ := h
      have k : ∀ {i : Nat}, i ≠ 4 → vI (uI τ 90 4 (nI (aT A + 20))) 90 i = vI ρ 90 i := fun hi => by
        rw [vI_u, if_neg (fun q => hi q.2)]
        exact i2.f (fun q => nomatch q) (by decide)
      have r : ∀ {x j : Nat}, x ≠ 90 → x ≠ 103 → vI (uI τ 90 4 (nI (aT A + 20))) x j = vI ρ x j := fun h1 h2 => by
        rw [vI_u, if_neg (fun q => h1 q.1)]
        exact i2.r (fun q => h2 (List.mem_singleton.mp q)) h1
      refine ⟨⟨hc, rfl, fun j hj => ?_⟩, ⟨(k (by decide)).trans a1, (k (by decide)).trans a2, (k (by decide)).trans a3, (k (by decide)).trans a4⟩, ⟨m1, m2, (k (by decide)).trans m3, (k (by decide)).trans m4, fun x hx => ?_⟩, ?_⟩
      · show vI τ 103 j = if aT A ≤ j ∧ j < aT A + 20 then _ else aB A j
        rw [i3 j]
        by_cases hj2 : aT A ≤ j ∧ j < aT A + 20
        · rw [if_pos hj2, if_pos (by omega)]
        · rw [if_neg hj2, if_neg (by omega)]
          exact t3 j hj
      · obtain ⟨n0, n1, n2, n3, n4⟩ := m5 x hx
        exact ⟨n0, (r (by decide) (by decide)).trans n1, (r (by decide) (by decide)).trans n2, (r (by decide) (by decide)).trans n3, fun s g hs hg => (r (by decide) (by decide)).trans (n4 s g hs hg)⟩
      · unfold rS at hs ⊢
        show match aSh A with
          | none => vI (uI τ 90 4 (nI (aT A + 20))) 90 71 = 0
          | some w => _
        cases hq : aSh A with
        | none => rw [hq] at hs; exact (k (by decide)).trans hs
        | some w =>
          rw [hq] at hs
          obtain ⟨s1, s2, s3, s4, s5, s6, s7⟩ := hs
          exact ⟨(k (by decide)).trans s1, s2, s3, (k (by decide)).trans s4, (k (by decide)).trans s5, fun j hj => (r (by decide) (by decide)).trans (s6 j hj), fun j hj => (r (by decide) (by decide)).trans (s7 j hj)⟩
  · rw [if_neg (fun q => hc (hcc.mp q)), if_neg hc]
    exact ⟨ρ, rfl, h⟩
