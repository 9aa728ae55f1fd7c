/-! the reference's small calls: mark, begin, link, feed -/
def setM (A : aS) (i : Nat) (M : aM) : aS := (A.1, A.2.1, (aC A, aG A, fun a => if a = i then M else aMa A a), A.2.2.2)
theorem setM_s {A : aS} {i : Nat} {M : aM} : aMa (setM A i M) i = M := if_pos rfl
theorem setM_n {A : aS} {i a : Nat} {M : aM} (h : a ≠ i) : aMa (setM A i M) a = aMa A a := if_neg h
/-- one number of a row of the automata changes -/
theorem R0.up {A : aS} {σ : sS} (h : R0 A σ) {r k i : Nat} {x : Int32} {M : aM} (hr : r = 115 ∨ r = 116 ∨ r = 117) (hi : i < aC A) (hm : rMa (aG A) M (uI σ r k x) i) (ho : ∀ a, a < aC A → a ≠ i → rMa (aG A) (aMa A a) (uI σ r k x) a) : R0 (setM A i M) (uI σ r k x) := by
  have q : ∀ {b j : Nat}, b ≠ 115 → b ≠ 116 → b ≠ 117 → vI (uI σ r k x) b j = vI σ b j := by
    intro b j h1 h2 h3
    refine u2_n (Or.inl ?_)
    rcases hr with rfl | rfl | rfl <;> assumption
  obtain ⟨⟨t1, t2, t3⟩, ⟨a1, a2, a3, a4⟩, ⟨m1, m2, m3, m4, m5⟩, hs⟩ := h
  refine ⟨⟨t1, (q (by decide) (by decide) (by decide)).trans t2, fun j hj => (q (by decide) (by decide) (by decide)).trans (t3 j hj)⟩, ⟨(q (by decide) (by decide) (by decide)).trans a1, (q (by decide) (by decide) (by decide)).trans a2, (q (by decide) (by decide) (by decide)).trans a3, (q (by decide) (by decide) (by decide)).trans a4⟩, ⟨m1, m2, (q (by decide) (by decide) (by decide)).trans m3, (q (by decide) (by decide) (by decide)).trans m4, fun a ha => ?_⟩, ?_⟩
  · by_cases hai : a = i
    · subst hai
      rw [setM_s]
      exact hm
    · rw [setM_n hai]
      exact ho a ha hai
  · unfold rS at hs ⊢
    show match aSh A with
      | none => vI (uI σ r k x) 90 71 = 0
      | some w => _
    cases hq : aSh A with
    | none =>
      rw [hq] at hs
      exact (q (by decide) (by decide) (by decide)).trans hs
    | some w =>
      rw [hq] at hs
      obtain ⟨s1, s2, s3, s4, s5, s6, s7⟩ := hs
      exact ⟨(q (by decide) (by decide) (by decide)).trans s1, s2, s3, (q (by decide) (by decide) (by decide)).trans s4, (q (by decide) (by decide) (by decide)).trans s5, fun j hj => (q (by decide) (by decide) (by decide)).trans (s6 j hj), fun j hj => (q (by decide) (by decide) (by decide)).trans (s7 j hj)⟩
def mkF (M : aM) (s : Nat) : aM := (mN M, mB M, mF M ^^^ 2 ^ s, mE M)
def mkB (M : aM) (s : Nat) : aM := (mN M, mB M ^^^ 2 ^ s, mF M, mE M)
def mkE (M : aM) (c f t : Nat) : aM := (mN M, mB M, mF M, fun x y => if x = c ∧ y = f then mE M c f ^^^ 2 ^ t else mE M x y)
theorem R0.mkF {A : aS} {σ : sS} (h : R0 A σ) {i s : Nat} (hi : i < aC A) (hs : s < mN (aMa A i)) : R0 (setM A i (mkF (aMa A i) s)) (uI σ 116 i (nI (mF (aMa A i) ^^^ 2 ^ s))) := by
  refine h.up (Or.inr (Or.inl rfl)) hi ?_ (fun a ha hai => ?_)
  · obtain ⟨⟨k1, k2, k3, k4, k5, k6⟩, n1, n2, n3, n4⟩ := h.m hi
    have hb := b_pw _ k2
    exact ⟨⟨k1, k2, k3, b_xN _ k2 _ (by omega) s (by omega) k4 hs, k5, k6⟩, n1, n2, by rw [vI_u, if_pos ⟨rfl, rfl⟩]; rfl, n4⟩
  · obtain ⟨k0, n1, n2, n3, n4⟩ := h.m ha
    exact ⟨k0, n1, n2, by rw [vI_u, if_neg (fun q => hai q.2)]; exact n3, n4⟩
theorem R0.mkB {A : aS} {σ : sS} (h : R0 A σ) {i s : Nat} (hi : i < aC A) (hs : s < mN (aMa A i)) : R0 (setM A i (mkB (aMa A i) s)) (uI σ 115 i (nI (mB (aMa A i) ^^^ 2 ^ s))) := by
  refine h.up (Or.inl rfl) hi ?_ (fun a ha hai => ?_)
  · obtain ⟨⟨k1, k2, k3, k4, k5, k6⟩, n1, n2, n3, n4⟩ := h.m hi
    have hb := b_pw _ k2
    exact ⟨⟨k1, k2, b_xN _ k2 _ (by omega) s (by omega) k3 hs, k4, k5, k6⟩, n1, by rw [vI_u, if_pos ⟨rfl, rfl⟩]; rfl, n3, n4⟩
  · obtain ⟨k0, n1, n2, n3, n4⟩ := h.m ha
    exact ⟨k0, n1, by rw [vI_u, if_neg (fun q => hai q.2)]; exact n2, n3, n4⟩
theorem R0.mkE {A : aS} {σ : sS} (h : R0 A σ) {i c f t : Nat} (hi : i < aC A) (hc : c < aG A) (hf : f < mN (aMa A i)) (ht : t < mN (aMa A i)) : R0 (setM A i (mkE (aMa A i) c f t)) (uI σ 117 (16 * i + 4 * c + f) (nI (mE (aMa A i) c f ^^^ 2 ^ t))) := by
  have h3 := h.c
  refine h.up (Or.inr (Or.inr rfl)) hi ?_ (fun a ha hai => ?_)
  · obtain ⟨⟨k1, k2, k3, k4, k5, k6⟩, n1, n2, n3, n4⟩ := h.m hi
    have hb := b_pw _ k2
    have h5 := k5 c f
    refine ⟨⟨k1, k2, k3, k4, fun s g => ?_, fun s g hsg => ?_⟩, n1, n2, n3, fun s g hs hg => ?_⟩
    · show (if s = c ∧ g = f then _ else _) < 2 ^ mN (aMa A i)
      split
      · exact b_xN _ k2 _ (by omega) t (by omega) h5 ht
      · exact k5 s g
    · show (if s = c ∧ g = f then _ else _) = 0
      rw [if_neg]
      · exact k6 s g hsg
      · rintro ⟨rfl, rfl⟩
        rcases hsg with q | q
        · omega
        · have q : mN (aMa A i) ≤ g := q
          omega
    · show vI (uI σ 117 _ _) 117 (16 * i + 4 * s + g) = nI (if s = c ∧ g = f then _ else _)
      rw [vI_u]
      by_cases e : s = c ∧ g = f
      · obtain ⟨rfl, rfl⟩ := e
        rw [if_pos ⟨rfl, rfl⟩, if_pos ⟨rfl, rfl⟩]
      · rw [if_neg (fun q => e (by have := q.2; omega)), if_neg e]
        exact n4 s g hs hg
  · obtain ⟨k0, n1, n2, n3, n4⟩ := h.m ha
    have h4 := (h.m hi).1.2.1
    refine ⟨k0, n1, n2, n3, fun s g hs hg => ?_⟩
    rw [vI_u, if_neg (fun q => hai (by have := q.2; omega))]
    exact n4 s g hs hg
def sp_mark (A : aS) (a s z : Int32) : Int32 × aS := if aOk (aC A) a = true ∧ aOk (mN (aMa A a.toNatClampNeg)) s = true then (if bit1 (mF (aMa A a.toNatClampNeg)) s = z then aRef A 5 else aGood (setM A a.toNatClampNeg (mkF (aMa A a.toNatClampNeg) s.toNatClampNeg)) (nI (mF (aMa A a.toNatClampNeg) ^^^ 2 ^ s.toNatClampNeg))) else aRef A 1
def sp_begin (A : aS) (a s z : Int32) : Int32 × aS := if aOk (aC A) a = true ∧ aOk (mN (aMa A a.toNatClampNeg)) s = true then (if bit1 (mB (aMa A a.toNatClampNeg)) s = z then aRef A 5 else aGood (setM A a.toNatClampNeg (mkB (aMa A a.toNatClampNeg) s.toNatClampNeg)) (nI (mB (aMa A a.toNatClampNeg) ^^^ 2 ^ s.toNatClampNeg))) else aRef A 1
theorem i0n1 : ¬ (0 : Int32) = 1 := by decide
theorem x_mark {A : aS} {σ : sS} (h : R0 A σ) (a s z : Int32) : ∃ τ, L_X12_mark a s z σ = some ((sp_mark A a s z).1, τ) ∧ R0 (sp_mark A a s z).2 τ ∧ ((sp_mark A a s z).1 = -1 ∨ vI τ 90 32 = -1) := by
  have h := h.z 0
  unfold L_X12_mark sp_mark
  simp only [bnd_s]
  rw [x_isState h]
  simp only [bd_s]
  have h3 := h.c
  generalize uI σ 90 0 0 = ρ at h ⊢
  have hr : ∀ w : Int32, ∃ τ, (bd2 (L_X12_refused w ρ) (fun r t => some (r, t))) = some ((aRef A w).1, τ) ∧ R0 (aRef A w).2 τ ∧ ((aRef A w).1 = -1 ∨ vI τ 90 32 = -1) := fun w => ⟨_, rfl, h.ans w (-1), Or.inl rfl⟩
  by_cases ha : aOk (aC A) a = true ∧ aOk (mN (aMa A a.toNatClampNeg)) s = true
  · rw [if_pos ha, if_pos ha, if_neg i1n0]
    obtain ⟨ha, hs⟩ := ha
    obtain ⟨i, hi, rfl⟩ := aOk_t ha (by omega)
    rw [nI_clamp (by omega)] at hs ⊢
    have hm := (h.m hi).1
    have h4 := hm.2.1
    obtain ⟨j, hj, rfl⟩ := aOk_t hs (by omega)
    have hf := hm.b.2.1
    rw [inb_n (by omega) (by omega), (h.m hi).2.2.2.1, b_tb _ hf j (by omega), nI_clamp (by omega), b_xr _ hf j (by omega)]
    have hg : ∃ τ, (bd2 (L_X12_good (vI (uI (uI ρ 116 i (nI (mF (aMa A i) ^^^ 2 ^ j))) 90 32 (-1)) 116 i) (uI (uI ρ 116 i (nI (mF (aMa A i) ^^^ 2 ^ j))) 90 32 (-1))) (fun r t => some (r, t))) = some ((aGood (setM A i (mkF (aMa A i) j)) (nI (mF (aMa A i) ^^^ 2 ^ j))).1, τ) ∧ R0 (aGood (setM A i (mkF (aMa A i) j)) (nI (mF (aMa A i) ^^^ 2 ^ j))).2 τ ∧ ((aGood (setM A i (mkF (aMa A i) j)) (nI (mF (aMa A i) ^^^ 2 ^ j))).1 = -1 ∨ vI τ 90 32 = -1) := by
      refine ⟨uI (uI (uI (uI ρ 116 i (nI (mF (aMa A i) ^^^ 2 ^ j))) 90 32 (-1)) 90 1 0) 90 2 (-1), ?_, ((h.mkF hi hj).set (by decide)).ans 0 (-1), Or.inr rfl⟩
      show some (vI (uI ρ 116 i (nI (mF (aMa A i) ^^^ 2 ^ j))) 116 i, _) = some (nI (mF (aMa A i) ^^^ 2 ^ j), _)
      rw [vI_u, if_pos ⟨rfl, rfl⟩]
    unfold bit1
    rw [nI_clamp (by omega)]
    by_cases hb : (mF (aMa A i)).testBit j = true
    · rw [if_pos hb, if_pos rfl]
      by_cases hz : (1 : Int32) = z
      · rw [if_pos hz, if_pos hz]; exact hr 5
      · rw [if_neg hz, if_neg hz]; exact hg
    · rw [if_neg hb, if_neg i0n1]
      by_cases hz : (0 : Int32) = z
      · rw [if_pos hz, if_pos hz]; exact hr 5
      · rw [if_neg hz, if_neg hz]; exact hg
  · rw [if_neg ha, if_neg ha]
    exact hr 1
theorem x_begin {A : aS} {σ : sS} (h : R0 A σ) (a s z : Int32) : ∃ τ, L_X12_begin a s z σ = some ((sp_begin A a s z).1, τ) ∧ R0 (sp_begin A a s z).2 τ ∧ ((sp_begin A a s z).1 = -1 ∨ vI τ 90 32 = -1) := by
  have h := h.z 0
  unfold L_X12_begin sp_begin
  simp only [bnd_s]
  rw [x_isState h]
  simp only [bd_s]
  have h3 := h.c
  generalize uI σ 90 0 0 = ρ at h ⊢
  have hr : ∀ w : Int32, ∃ τ, (bd2 (L_X12_refused w ρ) (fun r t => some (r, t))) = some ((aRef A w).1, τ) ∧ R0 (aRef A w).2 τ ∧ ((aRef A w).1 = -1 ∨ vI τ 90 32 = -1) := fun w => ⟨_, rfl, h.ans w (-1), Or.inl rfl⟩
  by_cases ha : aOk (aC A) a = true ∧ aOk (mN (aMa A a.toNatClampNeg)) s = true
  · rw [if_pos ha, if_pos ha, if_neg i1n0]
    obtain ⟨ha, hs⟩ := ha
    obtain ⟨i, hi, rfl⟩ := aOk_t ha (by omega)
    rw [nI_clamp (by omega)] at hs ⊢
    have hm := (h.m hi).1
    have h4 := hm.2.1
    obtain ⟨j, hj, rfl⟩ := aOk_t hs (by omega)
    have hf := hm.b.1
    rw [inb_n (by omega) (by omega), (h.m hi).2.2.1, b_tb _ hf j (by omega), nI_clamp (by omega), b_xr _ hf j (by omega)]
    have hg : ∃ τ, (bd2 (L_X12_good (vI (uI (uI ρ 115 i (nI (mB (aMa A i) ^^^ 2 ^ j))) 90 32 (-1)) 115 i) (uI (uI ρ 115 i (nI (mB (aMa A i) ^^^ 2 ^ j))) 90 32 (-1))) (fun r t => some (r, t))) = some ((aGood (setM A i (mkB (aMa A i) j)) (nI (mB (aMa A i) ^^^ 2 ^ j))).1, τ) ∧ R0 (aGood (setM A i (mkB (aMa A i) j)) (nI (mB (aMa A i) ^^^ 2 ^ j))).2 τ ∧ ((aGood (setM A i (mkB (aMa A i) j)) (nI (mB (aMa A i) ^^^ 2 ^ j))).1 = -1 ∨ vI τ 90 32 = -1) := by
      refine ⟨uI (uI (uI (uI ρ 115 i (nI (mB (aMa A i) ^^^ 2 ^ j))) 90 32 (-1)) 90 1 0) 90 2 (-1), ?_, ((h.mkB hi hj).set (by decide)).ans 0 (-1), Or.inr rfl⟩
      show some (vI (uI ρ 115 i (nI (mB (aMa A i) ^^^ 2 ^ j))) 115 i, _) = some (nI (mB (aMa A i) ^^^ 2 ^ j), _)
      rw [vI_u, if_pos ⟨rfl, rfl⟩]
    unfold bit1
    rw [nI_clamp (by omega)]
    by_cases hb : (mB (aMa A i)).testBit j = true
    · rw [if_pos hb, if_pos rfl]
      by_cases hz : (1 : Int32) = z
      · rw [if_pos hz, if_pos hz]; exact hr 5
      · rw [if_neg hz, if_neg hz]; exact hg
    · rw [if_neg hb, if_neg i0n1]
      by_cases hz : (0 : Int32) = z
      · rw [if_pos hz, if_pos hz]; exact hr 5
      · rw [if_neg hz, if_neg hz]; exact hg
  · rw [if_neg ha, if_neg ha]
    exact hr 1
