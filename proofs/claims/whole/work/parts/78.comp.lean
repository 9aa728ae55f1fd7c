/-! the component's small calls: mark, begin, link, feed -/
theorem C0.up {A : aS} {σ : sS} (h : C0 A σ) {r k i : Nat} {x : Int32} {M : aM} (hr : 27 ≤ r ∧ r < 33) (hi : i < aC A) (hm : cMa (aG A) M (uI σ r k x) i) (ho : ∀ a, a < aC A → a ≠ i → cMa (aG A) (aMa A a) (uI σ r k x) a) : C0 (setM A i M) (uI σ r k x) := by
  have q : ∀ {b j : Nat}, (b < 27 ∨ 33 ≤ b) → vI (uI σ r k x) b j = vI σ b j := by
    intro b j hb
    refine u2_n (Or.inl ?_)
    omega
  obtain ⟨⟨t1, t2, t3, t4⟩, ⟨a1, a2, a3, a4, a5⟩, ⟨m1, m2, m3, m4, m5⟩, hs⟩ := h
  refine ⟨⟨t1, (q (by decide)).trans t2, fun j hj => (q (by decide)).trans (t3 j hj), t4⟩, ⟨(q (by decide)).trans a1, (q (by decide)).trans a2, fun e => (q (by decide)).trans (a3 e), a4, (q (by decide)).trans a5⟩, ⟨m1, m2, (q (by decide)).trans m3, m4, fun a ha => ?_⟩, ?_⟩
  · by_cases hai : a = i
    · subst hai
      rw [setM_s]
      exact hm
    · rw [setM_n hai]
      exact ho a ha hai
  · unfold cS0 at hs ⊢
    show match aSh A with
      | none => vI (uI σ r k x) 56 6 = 0
      | some w => _
    cases hq : aSh A with
    | none => rw [hq] at hs; exact (q (by decide)).trans hs
    | some w =>
      rw [hq] at hs
      obtain ⟨s1, s2, s3, s4, s5, s6⟩ := hs
      exact ⟨(q (by decide)).trans s1, s2, s3, (q (by decide)).trans s4, (q (by decide)).trans s5, fun j hj => (q (by decide)).trans (s6 j hj)⟩
theorem C0.mkF {A : aS} {σ : sS} (h : C0 A σ) {i s : Nat} (hi : i < aC A) (hs : s < mN (aMa A i)) : C0 (setM A i (mkF (aMa A i) s)) (uI σ (27 + i) 4 (nI (mF (aMa A i) ^^^ 2 ^ s))) := by
  have h3 := h.c.1
  refine h.up ⟨by omega, by omega⟩ hi ?_ (fun a ha hai => ?_)
  · obtain ⟨⟨k1, k2, k3, k4, k5, k6⟩, n1, n2, n3, n4, n5⟩ := h.m hi
    have hb := b_pw _ k2
    exact ⟨⟨k1, k2, k3, b_xN _ k2 _ (by omega) s (by omega) k4 hs, k5, k6⟩, (u2_n (Or.inr (by decide))).trans n1, (u2_n (Or.inr (by decide))).trans n2, (u2_n (Or.inr (by decide))).trans n3, by rw [vI_u, if_pos ⟨rfl, rfl⟩]; rfl, fun s f hs hf => (u2_n (Or.inl (by omega))).trans (n5 s f hs hf)⟩
  · obtain ⟨k0, n1, n2, n3, n4, n5⟩ := h.m ha
    exact ⟨k0, (u2_n (Or.inl (by omega))).trans n1, (u2_n (Or.inl (by omega))).trans n2, (u2_n (Or.inl (by omega))).trans n3, (u2_n (Or.inl (by omega))).trans n4, fun s f hs hf => (u2_n (Or.inl (by omega))).trans (n5 s f hs hf)⟩
theorem C0.mkB {A : aS} {σ : sS} (h : C0 A σ) {i s : Nat} (hi : i < aC A) (hs : s < mN (aMa A i)) : C0 (setM A i (mkB (aMa A i) s)) (uI σ (27 + i) 3 (nI (mB (aMa A i) ^^^ 2 ^ s))) := by
  have h3 := h.c.1
  refine h.up ⟨by omega, by omega⟩ hi ?_ (fun a ha hai => ?_)
  · obtain ⟨⟨k1, k2, k3, k4, k5, k6⟩, n1, n2, n3, n4, n5⟩ := h.m hi
    have hb := b_pw _ k2
    exact ⟨⟨k1, k2, b_xN _ k2 _ (by omega) s (by omega) k3 hs, k4, k5, k6⟩, (u2_n (Or.inr (by decide))).trans n1, (u2_n (Or.inr (by decide))).trans n2, by rw [vI_u, if_pos ⟨rfl, rfl⟩]; rfl, (u2_n (Or.inr (by decide))).trans n4, fun s f hs hf => (u2_n (Or.inl (by omega))).trans (n5 s f hs hf)⟩
  · obtain ⟨k0, n1, n2, n3, n4, n5⟩ := h.m ha
    exact ⟨k0, (u2_n (Or.inl (by omega))).trans n1, (u2_n (Or.inl (by omega))).trans n2, (u2_n (Or.inl (by omega))).trans n3, (u2_n (Or.inl (by omega))).trans n4, fun s f hs hf => (u2_n (Or.inl (by omega))).trans (n5 s f hs hf)⟩
theorem C0.mkE {A : aS} {σ : sS} (h : C0 A σ) {i c f t : Nat} (hi : i < aC A) (hc : c < aG A) (hf : f < mN (aMa A i)) (ht : t < mN (aMa A i)) : C0 (setM A i (mkE (aMa A i) c f t)) (uI σ (30 + i) (c * 4 + f) (nI (mE (aMa A i) c f ^^^ 2 ^ t))) := by
  have h3 := h.c
  have hm4 := (h.m hi).1.2.1
  refine h.up ⟨by omega, by omega⟩ hi ?_ (fun a ha hai => ?_)
  · obtain ⟨⟨k1, k2, k3, k4, k5, k6⟩, n1, n2, n3, n4, n5⟩ := h.m hi
    have hb := b_pw _ k2
    have h5 := k5 c f
    refine ⟨⟨k1, k2, k3, k4, fun s g => ?_, fun s g hsg => ?_⟩, (u2_n (Or.inl (by omega))).trans n1, (u2_n (Or.inl (by omega))).trans n2, (u2_n (Or.inl (by omega))).trans n3, (u2_n (Or.inl (by omega))).trans n4, fun s g hs hg => ?_⟩
    · show (if s = c ∧ g = f then _ else _) < 2 ^ mN (aMa A i)
      split
      · exact b_xN _ k2 _ (by omega) t (by omega) h5 ht
      · exact k5 s g
    · show (if s = c ∧ g = f then _ else _) = 0
      rw [if_neg]
      · exact k6 s g hsg
      · rintro ⟨rfl, rfl⟩
        rcases hsg with q | q
        · omega
        · have q : mN (aMa A i) ≤ g := q
          omega
    · show vI (uI σ (30 + i) _ _) (30 + i) (s * 4 + g) = nI (if s = c ∧ g = f then _ else _)
      rw [vI_u]
      by_cases e : s = c ∧ g = f
      · obtain ⟨rfl, rfl⟩ := e
        rw [if_pos ⟨rfl, rfl⟩, if_pos ⟨rfl, rfl⟩]
      · rw [if_neg (fun q => e (by have := q.2; omega)), if_neg e]
        exact n5 s g hs hg
  · obtain ⟨k0, n1, n2, n3, n4, n5⟩ := h.m ha
    exact ⟨k0, (u2_n (Or.inl (by omega))).trans n1, (u2_n (Or.inl (by omega))).trans n2, (u2_n (Or.inl (by omega))).trans n3, (u2_n (Or.inl (by omega))).trans n4, fun s f hs hf => (u2_n (Or.inl (by omega))).trans (n5 s f hs hf)⟩
/-- a complement is forgotten -/
theorem C0.fg {A : aS} {σ : sS} (h : C0 A σ) {i : Nat} (hi : i < 3) (x : Int32) : C0 A (uI σ (33 + i) 6 x) := by
  have q : ∀ {b j : Nat}, (b < 33 ∨ 36 ≤ b) → vI (uI σ (33 + i) 6 x) b j = vI σ b j := by
    intro b j hb
    refine u2_n (Or.inl ?_)
    omega
  obtain ⟨⟨t1, t2, t3, t4⟩, ⟨a1, a2, a3, a4, a5⟩, ⟨m1, m2, m3, m4, m5⟩, hs⟩ := h
  refine ⟨⟨t1, (q (by decide)).trans t2, fun j hj => (q (by decide)).trans (t3 j hj), t4⟩, ⟨(q (by decide)).trans a1, (q (by decide)).trans a2, fun e => (q (by decide)).trans (a3 e), a4, (q (by decide)).trans a5⟩, ⟨m1, m2, (q (by decide)).trans m3, m4, fun a ha => ?_⟩, ?_⟩
  · obtain ⟨k0, n1, n2, n3, n4, n5⟩ := m5 a ha
    exact ⟨k0, (q (by omega)).trans n1, (q (by omega)).trans n2, (q (by omega)).trans n3, (q (by omega)).trans n4, fun s f hs hf => (q (by omega)).trans (n5 s f hs hf)⟩
  · unfold cS0 at hs ⊢
    cases hq : aSh A with
    | none => rw [hq] at hs; exact (q (by decide)).trans hs
    | some w =>
      rw [hq] at hs
      obtain ⟨s1, s2, s3, s4, s5, s6⟩ := hs
      exact ⟨(q (by decide)).trans s1, s2, s3, (q (by decide)).trans s4, (q (by decide)).trans s5, fun j hj => (q (by decide)).trans (s6 j hj)⟩
theorem y_changed {A : aS} {σ : sS} (h : C0 A σ) {i : Nat} (hi : i < aC A) : L_X11_changed (nI i) σ = some (uI σ (33 + i) 6 0) := by
  have h3 := h.c.1
  have ha : aOk (aC A) (nI i) = true := by simp [aOk, nI_pos' (show i < 2 ^ 31 by omega), nI_lt hi (show aC A < 2 ^ 31 by omega)]
  unfold L_X11_changed
  rw [y_at h, if_pos ha]
  simp only [bnd_s]
  rw [nI_clamp (by omega), isCo_n (by omega)]
  rfl
/-- what an act of the component gives: refused, or automaton i is another one, its complement forgotten -/
def yAct (A : aS) (σ : sS) (a : Int32) (q : Int32 × aS) (o : Option (Int32 × sS)) : Prop := ∃ τ, o = some (q.1, τ) ∧ C0 q.2 τ ∧ ((q.1 = -1 ∧ q.2.2.2 = A.2.2 ∧ ∃ u, τ = uI σ 0 10 u) ∨ ∃ i r k x, i < aC A ∧ a = nI i ∧ 27 ≤ r ∧ r < 33 ∧ τ = uI (uI (uI σ r k x) (33 + i) 6 0) 0 10 0)
theorem yAct.r {A : aS} {σ : sS} {a : Int32} (h : C0 A σ) (w : Int32) (hw : w ≠ 4) : yAct A σ a (aRef A w) (bd2 (L_X11_refuse w σ) (fun r t => some (r, t))) := ⟨_, rfl, h.ans hw, Or.inl ⟨rfl, rfl, _, rfl⟩⟩
theorem y_mark {A : aS} {σ : sS} (h : C0 A σ) (a s z : Int32) : yAct A σ a (sp_mark A a s z) (L_X11_mark a s z σ) := by
  have h3 := h.c
  unfold L_X11_mark sp_mark
  rw [y_at h]
  simp only [bnd_s]
  by_cases ha : aOk (aC A) a = true
  · rw [if_pos ha]
    obtain ⟨i, hi, rfl⟩ := aOk_t ha (by omega)
    have hm := (h.m hi).1
    have h4 := hm.2.1
    rw [nI_clamp (by omega), isAu_n (by omega), grd_s, y_hs h hi]
    by_cases hs : aOk (mN (aMa A i)) s = true
    · rw [if_pos hs, if_neg i1n0, if_pos ⟨ha, hs⟩]
      obtain ⟨j, hj, rfl⟩ := aOk_t hs (by omega)
      have hf := hm.b.2.1
      rw [(h.m hi).2.2.2.2.1, y_in hf (by omega), b_xr _ hf j (by omega), y_changed (h.mkF hi hj) (i := i) hi]
      simp only [bd_s]
      unfold bit1
      rw [nI_clamp (by omega)]
      by_cases hz : (if (mF (aMa A i)).testBit j = true then (1 : Int32) else 0) = z
      · rw [if_pos hz, if_pos hz]
        exact yAct.r h 5 (by decide)
      · rw [if_neg hz, if_neg hz]
        refine ⟨uI (uI (uI σ (27 + i) 4 (nI (mF (aMa A i) ^^^ 2 ^ j))) (33 + i) 6 0) 0 10 0, ?_, ((h.mkF hi hj).fg (by omega) 0).ans (by decide), Or.inr ⟨i, _, _, _, hi, rfl, by omega, by omega, rfl⟩⟩
        show some (vI (uI (uI σ (27 + i) 4 (nI (mF (aMa A i) ^^^ 2 ^ j))) (33 + i) 6 0) (27 + i) 4, _) = some (nI (mF (aMa A i) ^^^ 2 ^ j), _)
        rw [vI_u, if_neg (fun q => by have := q.1; omega), vI_u, if_pos ⟨rfl, rfl⟩]
    · rw [if_neg hs, if_pos rfl, if_neg (fun q => hs q.2)]
      exact yAct.r h 1 (by decide)
  · rw [if_neg ha, if_neg (fun q => ha q.1)]
    exact yAct.r h 1 (by decide)
theorem y_begin {A : aS} {σ : sS} (h : C0 A σ) (a s z : Int32) : yAct A σ a (sp_begin A a s z) (L_X11_begin a s z σ) := by
  have h3 := h.c
  unfold L_X11_begin sp_begin
  rw [y_at h]
  simp only [bnd_s]
  by_cases ha : aOk (aC A) a = true
  · rw [if_pos ha]
    obtain ⟨i, hi, rfl⟩ := aOk_t ha (by omega)
    have hm := (h.m hi).1
    have h4 := hm.2.1
    rw [nI_clamp (by omega), isAu_n (by omega), grd_s, y_hs h hi]
    by_cases hs : aOk (mN (aMa A i)) s = true
    · rw [if_pos hs, if_neg i1n0, if_pos ⟨ha, hs⟩]
      obtain ⟨j, hj, rfl⟩ := aOk_t hs (by omega)
      have hf := hm.b.1
      rw [(h.m hi).2.2.2.1, y_in hf (by omega), b_xr _ hf j (by omega), y_changed (h.mkB hi hj) (i := i) hi]
      simp only [bd_s]
      unfold bit1
      rw [nI_clamp (by omega)]
      by_cases hz : (if (mB (aMa A i)).testBit j = true then (1 : Int32) else 0) = z
      · rw [if_pos hz, if_pos hz]
        exact yAct.r h 5 (by decide)
      · rw [if_neg hz, if_neg hz]
        refine ⟨uI (uI (uI σ (27 + i) 3 (nI (mB (aMa A i) ^^^ 2 ^ j))) (33 + i) 6 0) 0 10 0, ?_, ((h.mkB hi hj).fg (by omega) 0).ans (by decide), Or.inr ⟨i, _, _, _, hi, rfl, by omega, by omega, rfl⟩⟩
        show some (vI (uI (uI σ (27 + i) 3 (nI (mB (aMa A i) ^^^ 2 ^ j))) (33 + i) 6 0) (27 + i) 3, _) = some (nI (mB (aMa A i) ^^^ 2 ^ j), _)
        rw [vI_u, if_neg (fun q => by have := q.1; omega), vI_u, if_pos ⟨rfl, rfl⟩]
    · rw [if_neg hs, if_pos rfl, if_neg (fun q => hs q.2)]
      exact yAct.r h 1 (by decide)
  · rw [if_neg ha, if_neg (fun q => ha q.1)]
    exact yAct.r h 1 (by decide)
