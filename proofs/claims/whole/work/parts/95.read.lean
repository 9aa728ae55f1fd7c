/-! the call automata (the reference) -/
def dD0 : dD := (0, 0, fun _ => (0, 0, 0, fun _ _ => 0), fun _ => (0, 0))
def sp_automata (A : aS) (x : Int32) : Int32 × aS := if aOk (aT A + 1) x = true then (match sAll (aB A) x.toNatClampNeg 401 (tq (aB A) x.toNatClampNeg 0) dD0 with
  | .inl (k, w) => (-1, ((0, aB A), (k, 4, nI w), A.2.2))
  | .inr D => (nI (dK D), ((0, aB A), (0, 0, -1), (dK D, dL D, dM D), A.2.2.2))) else aRef A 2
theorem vI_q {σ : sS} {a k b j : Nat} {x : Int32} (h : ¬ (b = a ∧ j = k)) : vI (uI σ a k x) b j = vI σ b j := by rw [vI_u, if_neg h]
theorem vI_e {σ : sS} {a k : Nat} {x : Int32} : vI (uI σ a k x) a k = x := by rw [vI_u, if_pos ⟨rfl, rfl⟩]
/-- the drafts' edges are wiped -/
theorem x_zero {F : Nat} (kx : sS → Option sS) : ∀ (n i f : Nat) (σ : sS), i + n = 48 → n < f → ∃ τ, L_X12_readAll_12 F kx f (nI i) σ = kx τ ∧ (∀ j, i ≤ j → j < 48 → vI τ 117 (48 + j) = 0) ∧ (∀ j, j < 48 + i → vI τ 117 j = vI σ 117 j) ∧ (∀ a j, a ≠ 117 → vI τ a j = vI σ a j) ∧ τ.2 = σ.2 := by
  intro n
  induction n with
  | zero =>
    intro i f σ hi hf
    obtain ⟨f, rfl⟩ : ∃ g, f = g + 1 := ⟨f - 1, by omega⟩
    have hi : i = 48 := by omega
    subst hi
    refine ⟨σ, ?_, fun j h1 h2 => absurd h2 (by omega), fun _ _ => rfl, fun _ _ _ => rfl, rfl⟩
    rw [L_X12_readAll_12, if_pos (by decide)]
  | succ n ih =>
    intro i f σ hi hf
    obtain ⟨f, rfl⟩ : ∃ g, f = g + 1 := ⟨f - 1, by omega⟩
    obtain ⟨τ, t1, t2, t3, t4, t5⟩ := ih (i + 1) f (uI σ 117 (48 + i) 0) (by omega) (by omega)
    refine ⟨τ, ?_, fun j h1 h2 => ?_, fun j hj => ?_, fun a j ha => ?_, t5⟩
    · rw [L_X12_readAll_12, if_neg (by rw [show (48 : Int32) = nI 48 from rfl]; exact nI_ge (by omega) (by omega)), show (48 : Int32) + nI i = nI (48 + i) by rw [show (48 : Int32) = nI 48 from rfl, nI_add], inb_n (by omega) (by omega), grd_s, nI_clamp (by omega), bnd_s, nI_1]
      exact t1
    · by_cases c : j = i
      · rw [c, t3 (48 + i) (by omega), vI_e]
      · exact t2 j (by omega) h2
    · rw [t3 j (by omega), vI_q (fun c => by have := c.2; omega)]
    · rw [t4 a j ha, vI_q (fun c => ha c.1)]
theorem x_readAll {b : Nat → Int32} {e q F : Nat} {σ : sS} (h : tkT b e q σ) (h7 : vI σ 90 7 = 0) (hF : 401 < F) : rQ b e σ (sAll b e 401 q dD0) (L_X12_readAll F σ) := by
  have he := h.1.2.2.2.2
  unfold L_X12_readAll
  simp only [bnd_s]
  obtain ⟨τ, t1, t2, t3, t4, t5⟩ := x_zero (F := F) (fun σ3 => bd (L_X12_readLine F σ3) (fun σ5 => L_X12_readAll_38 F kxE F σ5)) 48 0 F (uI (uI σ 90 21 0) 90 22 0) (by omega) (by omega)
  have k : ∀ {j : Nat}, vI τ 90 j = vI (uI (uI σ 90 21 0) 90 22 0) 90 j := fun {j} => t4 90 j (by decide)
  have kl : ∀ {a j : Nat}, vL τ a j = vL σ a j := by
    intro a j
    show τ.2.1 a j = σ.2.1 a j
    rw [t5]
    rfl
  have hT : tkT b e q τ := ⟨⟨fun j hj => (t4 103 j (by decide)).trans (h.1.1 j hj), k.trans h.1.2.1, k.trans h.1.2.2.1, h.1.2.2.2⟩, h.2.1, k.trans h.2.2.1, k.trans h.2.2.2.1, fun c => kl.trans (h.2.2.2.2.1 c), fun c => k.trans (h.2.2.2.2.2.1 c), fun c => k.trans (h.2.2.2.2.2.2 c)⟩
  have hD : rD b e dD0 τ := by
    refine ⟨⟨by decide, by decide, fun _ => rfl, fun i hi => absurd hi (Nat.not_lt_zero i)⟩, k.trans rfl, k.trans rfl, fun i hi => absurd hi (Nat.not_lt_zero i), fun i _ h2 j hj => ?_⟩
    rw [show 16 * (3 + i) + j = 48 + (16 * i + j) by omega]
    exact t2 _ (by omega) (by omega)
  have g : fo σ τ := ⟨fun j _ => t4 114 j (by decide), fun j _ => t4 115 j (by decide), fun j _ => t4 116 j (by decide), fun j hj => t3 j (by omega)⟩
  have z := (xl_all (F := F) (by omega) 401 q F dD0 τ hT (k.trans h7) hD (by omega) (by omega)).fo g
  exact (congrArg (rQ b e σ (sAll b e 401 q dD0)) (show L_X12_readAll_12 F _ F 0 (uI (uI σ 90 21 0) 90 22 0) = _ from t1)).mpr z
/-- a draft's edges are copied -/
theorem x_cp16 {F i : Nat} (hi : i < 3) (kx : sS → Option (Int32 × sS)) : ∀ (n k f : Nat) (σ : sS), k + n = 16 → n < f → ∃ τ, L_X12_automata_110 F (nI i) kx f (nI k) σ = kx τ ∧ (∀ j, k ≤ j → j < 16 → vI τ 117 (16 * i + j) = vI σ 117 (16 * (3 + i) + j)) ∧ (∀ j, ¬ (16 * i + k ≤ j ∧ j < 16 * i + 16) → vI τ 117 j = vI σ 117 j) ∧ (∀ a j, a ≠ 117 → vI τ a j = vI σ a j) ∧ τ.2 = σ.2 := by
  intro n
  induction n with
  | zero =>
    intro k f σ hk hf
    obtain ⟨f, rfl⟩ : ∃ g, f = g + 1 := ⟨f - 1, by omega⟩
    have hk : k = 16 := by omega
    subst hk
    refine ⟨σ, ?_, fun j h1 h2 => absurd h2 (by omega), fun _ _ => rfl, fun _ _ _ => rfl, rfl⟩
    rw [L_X12_automata_110, if_pos (by decide)]
  | succ n ih =>
    intro k f σ hk hf
    obtain ⟨f, rfl⟩ : ∃ g, f = g + 1 := ⟨f - 1, by omega⟩
    have e1 : (16 : Int32) * ((3 : Int32) + nI i) + nI k = nI (16 * (3 + i) + k) := by rw [show (3 : Int32) = nI 3 from rfl, show (16 : Int32) = nI 16 from rfl, nI_add, nI_mul, nI_add]
    have e2 : (16 : Int32) * nI i + nI k = nI (16 * i + k) := by rw [show (16 : Int32) = nI 16 from rfl, nI_mul, nI_add]
    obtain ⟨τ, t1, t2, t3, t4, t5⟩ := ih (k + 1) f (uI σ 117 (16 * i + k) (vI σ 117 (16 * (3 + i) + k))) (by omega) (by omega)
    refine ⟨τ, ?_, fun j h1 h2 => ?_, fun j hj => ?_, fun a j ha => ?_, t5⟩
    · rw [L_X12_automata_110, if_neg (by rw [show (16 : Int32) = nI 16 from rfl]; exact nI_ge (by omega) (by omega)), e1, e2, inb_n (by omega) (by omega), inb_n (by omega) (by omega), grd_s, grd_s, nI_clamp (by omega), nI_clamp (by omega), bnd_s, nI_1]
      exact t1
    · by_cases c : j = k
      · rw [c, t3 (16 * i + k) (by omega), vI_e]
      · rw [t2 j (by omega) h2, vI_q (fun c => by have := c.2; omega)]
    · rw [t3 j (by omega), vI_q (fun c => by have := c.2; omega)]
    · rw [t4 a j ha, vI_q (fun c => ha c.1)]
/-- all drafts are copied -/
def cpd (i K : Nat) (σ τ : sS) : Prop := (∀ k, i ≤ k → k < K → vI τ 114 k = vI σ 114 (3 + k) ∧ vI τ 115 k = vI σ 115 (3 + k) ∧ vI τ 116 k = vI σ 116 (3 + k) ∧ ∀ j, j < 16 → vI τ 117 (16 * k + j) = vI σ 117 (16 * (3 + k) + j)) ∧ (∀ k, (k < i ∨ 3 ≤ k) → vI τ 114 k = vI σ 114 k ∧ vI τ 115 k = vI σ 115 k ∧ vI τ 116 k = vI σ 116 k ∧ ∀ j, j < 16 → vI τ 117 (16 * k + j) = vI σ 117 (16 * k + j)) ∧ (∀ a j, a ≠ 114 → a ≠ 115 → a ≠ 116 → a ≠ 117 → vI τ a j = vI σ a j) ∧ τ.2 = σ.2
theorem x_cpd {F K : Nat} (hK : K ≤ 3) (hF : 16 < F) (kx : sS → Option (Int32 × sS)) : ∀ (n i f : Nat) (σ : sS), vI σ 90 20 = nI K → i + n = K → n < f → ∃ τ, L_X12_automata_58 F kx f (nI i) σ = kx τ ∧ cpd i K σ τ := by
  intro n
  induction n with
  | zero =>
    intro i f σ h20 hi hf
    obtain ⟨f, rfl⟩ : ∃ g, f = g + 1 := ⟨f - 1, by omega⟩
    refine ⟨σ, ?_, fun k h1 h2 => absurd h2 (by omega), fun _ _ => ⟨rfl, rfl, rfl, fun _ _ => rfl⟩, fun _ _ _ _ _ _ => rfl, rfl⟩
    rw [L_X12_automata_58, h20, if_pos (nI_le (by omega) (by omega))]
  | succ n ih =>
    intro i f σ h20 hi hf
    obtain ⟨f, rfl⟩ : ∃ g, f = g + 1 := ⟨f - 1, by omega⟩
    have e3 : (3 : Int32) + nI i = nI (3 + i) := nI_3a (by omega)
    rw [L_X12_automata_58, h20, if_neg (nI_ge (by omega) (by omega)), e3, inb_n (by omega) (by omega), inb_n (by omega) (by omega), nI_clamp (by omega), nI_clamp (by omega)]
    simp only [grd_s, bnd_s]
    obtain ⟨υ, u1, u2, u3, u4, u5⟩ := x_cp16 (F := F) (i := i) (by omega) (fun σ20 => L_X12_automata_58 F kx f (nI i + 1) σ20) 16 0 F (uI (uI (uI σ 114 i (vI σ 114 (3 + i))) 115 i (vI (uI σ 114 i (vI σ 114 (3 + i))) 115 (3 + i))) 116 i (vI (uI (uI σ 114 i (vI σ 114 (3 + i))) 115 i (vI (uI σ 114 i (vI σ 114 (3 + i))) 115 (3 + i))) 116 (3 + i))) rfl (by omega)
    have u20 : vI υ 90 20 = nI K := (u4 90 20 (by decide)).trans h20
    obtain ⟨τ, t1, t2, t3, t4, t5⟩ := ih (i + 1) f υ u20 (by omega) (by omega)
    have a4 : ∀ k, vI υ 114 k = if k = i then vI σ 114 (3 + i) else vI σ 114 k := by
      intro k
      rw [u4 114 k (by decide)]
      show vI (uI σ 114 i (vI σ 114 (3 + i))) 114 k = _
      rw [vI_u]
      by_cases c : k = i
      · rw [if_pos ⟨rfl, c⟩, if_pos c]
      · rw [if_neg (fun q => c q.2), if_neg c]
    have a5 : ∀ k, vI υ 115 k = if k = i then vI σ 115 (3 + i) else vI σ 115 k := by
      intro k
      rw [u4 115 k (by decide)]
      show vI (uI (uI σ 114 i (vI σ 114 (3 + i))) 115 i (vI σ 115 (3 + i))) 115 k = _
      rw [vI_u]
      by_cases c : k = i
      · rw [if_pos ⟨rfl, c⟩, if_pos c]
      · rw [if_neg (fun q => c q.2), if_neg c]
        rfl
    have a6 : ∀ k, vI υ 116 k = if k = i then vI σ 116 (3 + i) else vI σ 116 k := by
      intro k
      rw [u4 116 k (by decide)]
      show vI (uI (uI (uI σ 114 i _) 115 i _) 116 i (vI σ 116 (3 + i))) 116 k = _
      rw [vI_u]
      by_cases c : k = i
      · rw [if_pos ⟨rfl, c⟩, if_pos c]
      · rw [if_neg (fun q => c q.2), if_neg c]
        rfl
    refine ⟨τ, ?_, fun k h1 h2 => ?_, fun k hk => ?_, fun a j h1 h2 h3 h4 => ?_, t5.trans u5⟩
    · rw [show L_X12_automata_110 F (nI i) _ F 0 _ = _ from u1, nI_1]
      exact t1
    · by_cases c : k = i
      · subst c
        obtain ⟨b1, b2, b3, b4⟩ := t3 k (by omega)
        rw [b1, b2, b3, a4, a5, a6, if_pos rfl, if_pos rfl, if_pos rfl]
        exact ⟨rfl, rfl, rfl, fun j hj => (b4 j hj).trans (u2 j (by omega) hj)⟩
      · obtain ⟨b1, b2, b3, b4⟩ := t2 k (by omega) h2
        rw [b1, b2, b3, a4, a5, a6, if_neg (by omega), if_neg (by omega), if_neg (by omega)]
        exact ⟨rfl, rfl, rfl, fun j hj => (b4 j hj).trans (u3 _ (by omega))⟩
    · obtain ⟨b1, b2, b3, b4⟩ := t3 k (by omega)
      rw [b1, b2, b3, a4, a5, a6, if_neg (by omega), if_neg (by omega), if_neg (by omega)]
      exact ⟨rfl, rfl, rfl, fun j hj => (b4 j hj).trans (u3 _ (by omega))⟩
    · rw [t4 a j h1 h2 h3 h4, u4 a j h4]
      show vI (uI (uI (uI σ 114 i _) 115 i _) 116 i _) a j = _
      rw [vI_q (fun q => h3 q.1), vI_q (fun q => h2 q.1), vI_q (fun q => h1 q.1)]
theorem x_long {x : Int32} {n : Nat} (hn : n < 2 ^ 30) : L_X12_in x 0 (nI n) = if aOk (n + 1) x = true then 1 else 0 := by
  have h := x_inA (x := x) (n := n + 1) (by omega)
  rw [nI_pred] at h
  exact h
theorem x_automata {A : aS} {σ : sS} {F : Nat} (hF : 401 < F) (h : R0 A σ) (x : Int32) : ∃ τ, L_X12_automata F x σ = some ((sp_automata A x).1, τ) ∧ R0 (sp_automata A x).2 τ := by
  have hx : ∀ z, L_X12_automata F x σ = some z → fm [114, 115, 116, 117, 118] [0, 1, 2, 4, 5, 6, 7, 8, 9, 10, 11, 12, 13, 19, 20, 21, 22, 32] σ z.2 := fun z hz => f_L_X12_automata hz
  unfold L_X12_automata at hx ⊢
  simp only [bnd_s] at hx ⊢
  have h400 := h.1.1
  have hl : L_X12_isLong x (uI σ 90 0 0) = if aOk (aT A + 1) x = true then 0 else 1 := by
    unfold L_X12_isLong
    rw [show vI (uI σ 90 0 0) 90 4 = nI (aT A) from h.1.2.1, x_long (by omega)]
    split
    · rw [if_neg i1n0]
    · rw [if_pos rfl]
  rw [hl] at hx ⊢
  unfold sp_automata
  by_cases ha : aOk (aT A + 1) x = true
  · rw [if_pos ha] at hx ⊢
    rw [if_pos ha]
    rw [if_pos rfl] at hx ⊢
    obtain ⟨e, he, rfl⟩ := aOk_t ha (by omega)
    rw [nI_clamp (by omega)]
    have r0 : tkR (aB A) e 0 (uI (uI (uI (uI (uI σ 90 0 0) 90 5 (nI e)) 90 4 0) 90 6 0) 90 7 0) := ⟨fun j hj => h.1.2.2 j hj, rfl, rfl, by omega, by omega⟩
    obtain ⟨τ, t1, t2⟩ := x_goOn r0 rfl (by omega : 400 < F)
    have t3 : L_X12_begins F (nI e) (uI σ 90 0 0) = some τ := by
      unfold L_X12_begins
      simp only [bnd_s]
      rw [t1, bd_s]
    have f1 := f_L_X12_goOn t1
    have n : ∀ {x : Nat}, x ∉ ([] : List Nat) := fun h => nomatch h
    have t7 : vI τ 90 7 = 0 := f1.f (by decide) n
    have t4 : vI τ 90 4 = 0 := f1.f (by decide) n
    have hr := x_readAll t2 t7 hF
    rw [t3, bd_s] at hx ⊢
    have k19 : vI τ 90 19 = nI (aG A) := (f1.f (by decide) n).trans h.2.2.1.2.2.2.1
    have k20 : vI τ 90 20 = nI (aC A) := (f1.f (by decide) n).trans h.2.2.1.2.2.1
    cases hs : sAll (aB A) e 401 (tq (aB A) e 0) dD0 with
    | inl k =>
      obtain ⟨k, w⟩ := k
      rw [hs] at hr
      obtain ⟨υ, u1, u2, u3, u4, u5⟩ := hr
      have f2 := f_L_X12_readAll u1
      rw [u1, bd_s, if_neg (f7_n u2 u3)] at hx ⊢
      unfold L_X12_faulty at hx ⊢
      simp only [bnd_s, bd2_s] at hx ⊢
      refine ⟨_, rfl, ?_⟩
      have fx := hx _ rfl
      obtain ⟨⟨g1, g2, g3⟩, ⟨g4, g5, g6, g7⟩, ⟨g8, g9, g10, g11, g12⟩, gs⟩ := h
      refine ⟨⟨by show 0 ≤ 400; omega, ?_, fun j hj => (fx.r (by decide) (by decide)).trans (g3 j hj)⟩, ⟨u2, rfl, u4, (fx.f (by decide) (by decide)).trans g7⟩, ⟨g8, g9, ?_, ?_, fun a ha => ?_⟩, ?_⟩
      · exact (f2.f (by decide) (by decide)).trans t4
      · exact (f2.f (by decide) (by decide)).trans k20
      · exact (f2.f (by decide) (by decide)).trans k19
      · obtain ⟨m0, n1, n2, n3, n4⟩ := g12 a ha
        have a3 : a < 3 := by have : a < aC A := ha; omega
        obtain ⟨o1, o2, o3, o4⟩ := u5
        have fr : ∀ {r j : Nat}, r ≠ 90 → vI τ r j = vI σ r j := fun {r j} hr => (f1.r n hr).trans (show vI (uI (uI (uI (uI (uI σ 90 0 0) 90 5 (nI e)) 90 4 0) 90 6 0) 90 7 0) r j = vI σ r j by rw [vI_q (fun c => hr c.1), vI_q (fun c => hr c.1), vI_q (fun c => hr c.1), vI_q (fun c => hr c.1), vI_q (fun c => hr c.1)])
        exact ⟨m0, ((o1 a a3).trans (fr (by decide))).trans n1, ((o2 a a3).trans (fr (by decide))).trans n2, ((o3 a a3).trans (fr (by decide))).trans n3, fun s f hs hf => ((o4 _ (by omega)).trans (fr (by decide))).trans (n4 s f hs hf)⟩
      · unfold rS at gs ⊢
        show match aSh A with
          | none => _
          | some w => _
        cases hq : aSh A with
        | none =>
          rw [hq] at gs
          exact (fx.f (by decide) (by decide)).trans gs
        | some w =>
          rw [hq] at gs
          obtain ⟨s1, s2, s3, s4, s5, s6, s7⟩ := gs
          exact ⟨(fx.f (by decide) (by decide)).trans s1, s2, s3, (fx.f (by decide) (by decide)).trans s4, (fx.f (by decide) (by decide)).trans s5, fun j hj => (fx.r (by decide) (by decide)).trans (s6 j hj), fun j hj => (fx.r (by decide) (by decide)).trans (s7 j hj)⟩
    | inr D =>
      rw [hs] at hr
      obtain ⟨υ, u1, u2, uD, u4, u5⟩ := hr
      have f2 := f_L_X12_readAll u1
      have hK := uD.1.2.1
      have hL := uD.1.1
      rw [u1, bd_s, if_pos (f7_0 u2)] at hx ⊢
      have c20 : vI (uI (uI υ 90 19 (vI υ 90 21)) 90 20 (vI (uI υ 90 19 (vI υ 90 21)) 90 22)) 90 20 = nI (dK D) := uD.2.2.1
      obtain ⟨ρ, r1, r2, r3, r4, r5⟩ := x_cpd (F := F) (K := dK D) hK (by omega) (fun σ10 => bd2 (L_X12_good (vI (uI σ10 90 32 (-1)) 90 20) (uI σ10 90 32 (-1))) (fun rq13 σ14 => some (rq13, σ14))) (dK D) 0 F (uI (uI υ 90 19 (vI υ 90 21)) 90 20 (vI (uI υ 90 19 (vI υ 90 21)) 90 22)) c20 (by omega) (by omega)
      have e20 : vI ρ 90 20 = nI (dK D) := (r4 90 20 (by decide) (by decide) (by decide) (by decide)).trans c20
      have r1 := r1.trans (show _ = some (nI (dK D), uI (uI (uI ρ 90 32 (-1)) 90 1 0) 90 2 (-1)) by
        show some (vI ρ 90 20, _) = _
        rw [e20])
      have fx := hx _ r1
      refine ⟨_, r1, ?_⟩
      obtain ⟨⟨g1, g2, g3⟩, ⟨g4, g5, g6, g7⟩, ⟨g8, g9, g10, g11, g12⟩, gs⟩ := h
      have kk : ∀ {j : Nat}, vI ρ 90 j = vI (uI (uI υ 90 19 (vI υ 90 21)) 90 20 (vI (uI υ 90 19 (vI υ 90 21)) 90 22)) 90 j := fun {j} => r4 90 j (by decide) (by decide) (by decide) (by decide)
      refine ⟨⟨by show 0 ≤ 400; omega, ?_, fun j hj => (fx.r (by decide) (by decide)).trans (g3 j hj)⟩, ⟨kk.trans u2, rfl, rfl, (fx.f (by decide) (by decide)).trans g7⟩, ⟨hK, hL, e20, kk.trans uD.2.1, fun a ha => ?_⟩, ?_⟩
      · exact kk.trans ((f2.f (by decide) (by decide)).trans t4)
      · have ha : a < dK D := ha
        obtain ⟨⟨m0, n1, n2, n3, n4⟩, -⟩ := uD.2.2.2.1 a ha
        obtain ⟨b1, b2, b3, b4⟩ := r2 a (by omega) ha
        refine ⟨m0, b1.trans n1, b2.trans n2, b3.trans n3, fun s f hs hf => ?_⟩
        have q := b4 (4 * s + f) (by omega)
        rw [← Nat.add_assoc, ← Nat.add_assoc] at q
        exact q.trans (n4 s f hs hf)
      · unfold rS at gs ⊢
        show match aSh A with
          | none => _
          | some w => _
        cases hq : aSh A with
        | none =>
          rw [hq] at gs
          exact (fx.f (by decide) (by decide)).trans gs
        | some w =>
          rw [hq] at gs
          obtain ⟨s1, s2, s3, s4, s5, s6, s7⟩ := gs
          exact ⟨(fx.f (by decide) (by decide)).trans s1, s2, s3, (fx.f (by decide) (by decide)).trans s4, (fx.f (by decide) (by decide)).trans s5, fun j hj => (fx.r (by decide) (by decide)).trans (s6 j hj), fun j hj => (fx.r (by decide) (by decide)).trans (s7 j hj)⟩
  · rw [if_neg ha, if_neg i1n0]
    rw [if_neg ha]
    exact x_refR (h.z 0) 2
