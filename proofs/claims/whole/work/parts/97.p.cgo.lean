/-! the complement: the component meets a node, lays an edge -/
def L1 (c : Nat) : List Nat := [c, c + 3, 26, c + 9]
theorem cZ.add {B : Nat × Nat} {c k : Nat} {z : zS} {x : nd} {σ : sS} (hc : 33 ≤ c ∧ c ≤ 35) (h : cZ B c z σ) (hN : zN z < 300) (hk : k < 1024) (h0 : vI σ 26 ((khs (kyN x) + k) % 1024) = 0) (hp : ∀ k', k' < k → vI σ 26 ((khs (kyN x) + k') % 1024) ≠ 0) : cZ B c ((zN z + 1, pu (zX z) (zN z) x), z.2) (uI (uI (uI σ (c + 3) (zN z) (nI (kyN x))) c 7 (nI (zN z + 1))) 26 ((khs (kyN x) + k) % 1024) (nI (zN z + 1))) := by
  obtain ⟨a1, a2, a3, ⟨a4, a5⟩, ⟨i1, i2, i3⟩, a6, a7, a8, a9⟩ := h
  have hs : (khs (kyN x) + k) % 1024 < 1024 := Nat.mod_lt _ (by decide)
  have e26 : ∀ s, vI (uI (uI (uI σ (c + 3) (zN z) (nI (kyN x))) c 7 (nI (zN z + 1))) 26 ((khs (kyN x) + k) % 1024) (nI (zN z + 1))) 26 s = if s = (khs (kyN x) + k) % 1024 then nI (zN z + 1) else vI σ 26 s := by
    intro s
    rw [vI_u]
    by_cases e : s = (khs (kyN x) + k) % 1024
    · rw [if_pos ⟨rfl, e⟩, if_pos e]
    · rw [if_neg (fun q => e q.2), if_neg e, vI_q (fun q => by have := q.1; omega), vI_q (fun q => by have := q.1; omega)]
  have nz : ∀ n, n < 1000 → ¬ nI (n + 1) = 0 := fun n hn => (nI_s1 hn).2
  refine ⟨?_, ?_, fun n hn => ?_, ⟨a4, a5⟩, ⟨fun s hs' => ?_, fun n hn => ?_, fun s s' h1 h2 e hne => ?_⟩, a6, fun j hj => ?_, a8, a9.c rfl⟩
  · rw [vI_q (fun q => by have := q.1; omega), vI_q (fun q => by have := q.2; omega), vI_q (fun q => by have := q.1; omega)]
    exact a1
  · rw [vI_q (fun q => by have := q.1; omega), vI_e]
    rfl
  · have hn : n < zN z + 1 := hn
    show vI _ (c + 3) n = nI (kyN (pu (zX z) (zN z) x n))
    rw [vI_q (fun q => by have := q.1; omega), vI_q (fun q => by have := q.1; omega)]
    by_cases e : n = zN z
    · rw [e, vI_e, pu_s]
    · rw [vI_q (fun q => e q.2), pu_n e]
      exact a3 n (by omega)
  · rw [e26]
    by_cases e : s = (khs (kyN x) + k) % 1024
    · rw [if_pos e]
      exact Or.inr ⟨zN z, by show zN z < zN z + 1; omega, rfl⟩
    · rw [if_neg e]
      rcases i1 s hs' with q | ⟨n, n1, n2⟩
      · exact Or.inl q
      · exact Or.inr ⟨n, by show n < zN z + 1; omega, n2⟩
  · have hn : n < zN z + 1 := hn
    show ∃ k, k < 1024 ∧ vI _ 26 ((khs (kyN (pu (zX z) (zN z) x n)) + k) % 1024) = nI (n + 1) ∧ ∀ k', k' < k → vI _ 26 ((khs (kyN (pu (zX z) (zN z) x n)) + k') % 1024) ≠ 0
    by_cases e : n = zN z
    · rw [e, pu_s]
      refine ⟨k, hk, by rw [e26, if_pos rfl], fun k' hk' => ?_⟩
      rw [e26]
      split
      · exact nz _ (by omega)
      · exact hp k' hk'
    · rw [pu_n e]
      obtain ⟨q, q1, q2, q3⟩ := i2 n (by omega)
      refine ⟨q, q1, ?_, fun k' hk' => ?_⟩
      · rw [e26, if_neg (fun d => nz n (by omega) (by rw [← q2, d]; exact h0))]
        exact q2
      · rw [e26]
        split
        · exact nz _ (by omega)
        · exact q3 k' hk'
  · rw [e26, e26] at e
    rw [e26] at hne
    by_cases d1 : s = (khs (kyN x) + k) % 1024
    · by_cases d2 : s' = (khs (kyN x) + k) % 1024
      · omega
      · rw [if_pos d1, if_neg d2] at e
        rcases i1 s' h2 with q | ⟨n, n1, n2⟩
        · rw [q] at e
          exact absurd e (nz _ (by omega))
        · rw [n2] at e
          have := nI_ij (by omega) (by omega) e
          omega
    · by_cases d2 : s' = (khs (kyN x) + k) % 1024
      · rw [if_neg d1, if_pos d2] at e
        rcases i1 s h1 with q | ⟨n, n1, n2⟩
        · rw [q] at e
          exact absurd e.symm (nz _ (by omega))
        · rw [n2] at e
          have := nI_ij (by omega) (by omega) e
          omega
      · rw [if_neg d1, if_neg d2] at e
        rw [if_neg d1] at hne
        exact i3 s s' h1 h2 e hne
  · rw [vI_q (fun q => by have := q.1; omega), vI_q (fun q => by have := q.1; omega), vI_q (fun q => by have := q.1; omega)]
    exact a7 j hj
theorem y_meetN {B : Nat × Nat} {c : Nat} {z : zS} {x : nd} {σ : sS} (hc : 33 ≤ c ∧ c ≤ 35) (h : cZ B c z σ) (hN : zN z ≤ 300) (hnd : ∀ n, n < zN z → ndO (zX z n)) (hx : ndO x) (hf : fnd (zX z) x (zN z) = none) : if zN z = 300 then p_mt σ c (nI (kyN x)) = uI σ c 6 2 else p_ma σ c (nI (kyN x)) = nI (zN z) ∧ cZ B c ((zN z + 1, pu (zX z) (zN z) x), z.2) (p_mt σ c (nI (kyN x))) ∧ fz (L1 c) σ (p_mt σ c (nI (kyN x))) := by
  obtain ⟨k, k1, k2, k3, k4⟩ := y_slB h hN hnd hx (fnd_n _ hf)
  have hs : (khs (kyN x) + k) % 1024 < 1024 := Nat.mod_lt _ (by decide)
  unfold p_mt p_ma
  rw [k2, rg_nI (by omega), k3, if_pos (show (0 : Int32) - 1 < 0 by decide), if_pos (show (0 : Int32) - 1 < 0 by decide), h.2.1]
  by_cases c3 : zN z = 300
  · rw [if_pos c3, if_neg (by rw [c3]; decide)]
  · rw [if_neg c3, if_pos (show nI (zN z) < 300 from nI_lt (b := 300) (by omega) (by omega)), if_pos (show nI (zN z) < 300 from nI_lt (b := 300) (by omega) (by omega))]
    obtain ⟨v1, v2⟩ := h.2.2.2.1
    have e1 : p_m1 σ c (nI (kyN x)) = uI (uI σ (c + 3) (zN z) (nI (kyN x))) c 7 (nI (zN z + 1)) := by
      unfold p_m1
      rw [h.2.1, rp_n (by omega) (by omega), vI_q (fun q => by have := q.1; omega), h.2.1, nI_1]
    have e2 : p_m2 σ c (nI (kyN x)) = uI (uI (uI σ (c + 3) (zN z) (nI (kyN x))) c 7 (nI (zN z + 1))) 26 ((khs (kyN x) + k) % 1024) (nI (zN z + 1)) := by
      unfold p_m2
      rw [e1, k2, vI_e]
      exact rp_n (show (khs (kyN x) + k) % 1024 < vC σ 26 by omega) (by omega)
    rw [e2]
    refine ⟨?_, h.add hc (by omega) k1 k3 k4, ?_⟩
    · rw [vI_q (fun q => by have := q.1; omega), vI_e, nI_pred]
    · exact ((fz.u (by unfold L1; simp)).tr (fz.u (by unfold L1; simp))).tr (fz.u (by unfold L1; simp))
theorem y_meet {B : Nat × Nat} {c : Nat} {z : zS} {x0 x : nd} {σ : sS} (hc : 33 ≤ c ∧ c ≤ 35) (h : cZ B c z σ) (hO : zO x0 z) (hx : ndO x) : match fnd (zX z) x (zN z) with
    | some n => p_mt σ c (nI (kyN x)) = σ ∧ p_ma σ c (nI (kyN x)) = nI n
    | none => if zN z = 300 then p_mt σ c (nI (kyN x)) = uI σ c 6 2 else p_ma σ c (nI (kyN x)) = nI (zN z) ∧ cZ B c ((zN z + 1, pu (zX z) (zN z) x), z.2) (p_mt σ c (nI (kyN x))) ∧ fz (L1 c) σ (p_mt σ c (nI (kyN x))) := by
  have hN := hO.2.1
  cases hf : fnd (zX z) x (zN z) with
  | some n =>
    obtain ⟨n1, n2⟩ := fnd_s _ hf
    obtain ⟨s, s1, s2, s3⟩ := y_slA h hO n1
    rw [n2] at s2
    show p_mt σ c (nI (kyN x)) = σ ∧ p_ma σ c (nI (kyN x)) = nI n
    unfold p_mt p_ma
    rw [s2, rg_nI (by omega), s3, (nI_s1 (show n < 1000 by omega)).1, if_neg (nI_pos (by omega)), if_neg (nI_pos (by omega))]
    exact ⟨rfl, rfl⟩
  | none => exact y_meetN hc h hN hO.2.2.2.1 hx hf
theorem c9 {c : Nat} (hc : 33 ≤ c ∧ c ≤ 35) : c + 9 ∈ grR ∧ lim (c + 9) = 270000 ∧ c + 6 ∈ grR ∧ c + 3 ∈ grR := by
  have : c = 33 ∨ c = 34 ∨ c = 35 := by omega
  rcases this with rfl | rfl | rfl <;> decide
/-- an edge is pushed -/
theorem cZ.push {B : Nat × Nat} {c n : Nat} {z : zS} {σ : sS} (hc : 33 ≤ c ∧ c ≤ 35) (h : cZ B c z σ) (hE : zE z < 270000) : cZ B c (z.1, (zE z + 1, pu (zT z) (zE z) n)) (rqu σ (c + 9) (nI n)) := by
  obtain ⟨a1, a2, a3, ⟨a4, a5⟩, ⟨i1, i2, i3⟩, a6, a7, a8, a9⟩ := h
  obtain ⟨q1, q2, q3, q4⟩ := c9 hc
  have hC : vC σ (c + 9) ≤ 270000 := by have := a9.1 _ q1; rw [q2] at this; exact this
  obtain ⟨p1, p2, p3, p4, p5, p6, p7, p8, p9⟩ := rqu_p (x := nI n) a6 hE hC
  have r : ∀ {b j : Nat}, b ≠ c + 9 → vI (rqu σ (c + 9) (nI n)) b j = vI σ b j := fun hb => p3 _ _ hb
  have e26 : ∀ {j : Nat}, vI (rqu σ (c + 9) (nI n)) 26 j = vI σ 26 j := fun {j} => p3 26 j (by omega)
  refine ⟨(r (by omega)).trans a1, (r (by omega)).trans a2, fun m hm => (r (by omega)).trans (a3 m hm), ⟨by rw [p5 _ (by omega)]; exact a4, by rw [p5 _ (by omega)]; exact a5⟩, ⟨fun s hs => ?_, fun m hm => ?_, fun s s' h1 h2 e hne => ?_⟩, p1, fun j hj => ?_, hE, (a9.rx q1 (Or.inr q2)).c p9⟩
  · rw [e26]; exact i1 s hs
  · obtain ⟨k, k1, k2, k3⟩ := i2 m hm
    exact ⟨k, k1, e26.trans k2, fun k' hk' => by rw [e26]; exact k3 k' hk'⟩
  · rw [e26, e26] at e
    rw [e26] at hne
    exact i3 s s' h1 h2 e hne
  · have hj : j < zE z + 1 := hj
    rw [p2]
    show _ = nI (pu (zT z) (zE z) n j)
    by_cases e : j = zE z
    · rw [if_pos e, e, pu_s]
    · rw [if_neg e, pu_n e]
      exact a7 j (by omega)
/-- no room: the component says so -/
def cFu (B : Nat × Nat) (c : Nat) (σ : sS) : Prop := vI σ c 6 = 2 ∧ Rm B σ
theorem y_go1 {B : Nat × Nat} {c : Nat} {z : zS} {x0 x : nd} {σ : sS} (hc : 33 ≤ c ∧ c ≤ 35) (h : cZ B c z σ) (hO : zO x0 z) (hx : ndO x) (hE : ∀ y, go1 z x = some y → zE z < 270000) : fz (L1 c) σ (rqu (p_mt σ c (nI (kyN x))) (c + 9) (p_ma σ c (nI (kyN x)))) ∧ (match go1 z x with
    | some y => cZ B c y (rqu (p_mt σ c (nI (kyN x))) (c + 9) (p_ma σ c (nI (kyN x))))
    | none => cFu B c (rqu (p_mt σ c (nI (kyN x))) (c + 9) (p_ma σ c (nI (kyN x))))) := by
  have hm := y_meet hc h hO hx
  obtain ⟨q1, q2, q3, q4⟩ := c9 hc
  have m9 : c + 9 ∈ L1 c := by unfold L1; simp
  unfold go1 at hE ⊢
  cases hf : fnd (zX z) x (zN z) with
  | some n =>
    rw [hf] at hm hE
    obtain ⟨m1, m2⟩ := hm
    rw [m1, m2]
    exact ⟨fz.p m9 (by omega), h.push hc (hE _ rfl)⟩
  | none =>
    rw [hf] at hm hE
    have hm : if zN z = 300 then _ else _ := hm
    have hE : ∀ y, (if zN z = 300 then none else some ((zN z + 1, pu (zX z) (zN z) x), (zE z + 1, pu (zT z) (zE z) (zN z)))) = some y → zE z < 270000 := hE
    show fz (L1 c) σ _ ∧ (match (if zN z = 300 then none else some ((zN z + 1, pu (zX z) (zN z) x), (zE z + 1, pu (zT z) (zE z) (zN z)))) with
      | some y => cZ B c y _
      | none => cFu B c _)
    by_cases c3 : zN z = 300
    · rw [if_pos c3] at hm ⊢
      rw [hm]
      obtain ⟨f1, f2, f3, f4, f5, f6⟩ := rqu_f (σ := uI σ c 6 2) (r := c + 9) (x := p_ma σ c (nI (kyN x)))
      refine ⟨(fz.u (show c ∈ L1 c by unfold L1; simp)).tr (fz.p m9 (by omega)), ?_, ?_⟩
      · rw [f1 c 6 (by omega), vI_e]
      · exact ((h.2.2.2.2.2.2.2.2.c (τ := uI σ c 6 2) rfl).rx q1 (Or.inr q2)).c f6
    · rw [if_neg c3] at hm hE ⊢
      obtain ⟨m1, m2, m3⟩ := hm
      rw [m1]
      exact ⟨m3.tr (fz.p m9 (by omega)), m2.push hc (hE _ rfl)⟩
