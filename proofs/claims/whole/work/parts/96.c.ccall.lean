/-! the call automata (the component) -/
def cI0 (σ : sS) : Prop := (∀ a, a < 3 → vC σ (12 + a) = 12) ∧ 3 ≤ vC σ 4 ∧ 3 ≤ vC σ 5
theorem y_t1 {σ : sS} {a b k : Nat} (h : vC σ (a + 3) = 12) (hk : k < 12) : a_t1 σ a b (nI k) = uI σ (a + 3) k (vI σ (b + 3) k) := by
  unfold a_t1
  rw [rg_nI (by omega), rp_n (by omega) (by omega)]
/-- k arrows are copied -/
def cpA (a b k : Nat) (σ τ : sS) : Prop := (∀ j, j < k → vI τ (a + 3) j = vI σ (b + 3) j) ∧ (∀ c j, c ≠ a + 3 → vI τ c j = vI σ c j) ∧ τ.2 = σ.2
theorem cpA.st {a b k : Nat} {σ τ : sS} (h : cpA a b k σ τ) (hC : vC σ (a + 3) = 12) (hk : k < 12) (hab : b ≠ a) : cpA a b (k + 1) σ (a_t1 τ a b (nI k)) := by
  obtain ⟨h1, h2, h3⟩ := h
  have hC' : vC τ (a + 3) = 12 := by show τ.2.2.2.2.1 (a + 3) = 12; rw [h3]; exact hC
  rw [y_t1 hC' hk]
  refine ⟨fun j hj => ?_, fun c j hc => ?_, h3⟩
  · by_cases c : j = k
    · rw [c, vI_e, h2 _ _ (by omega)]
    · rw [vI_q (fun q => c q.2)]
      exact h1 j (by omega)
  · rw [vI_q (fun q => hc q.1)]
    exact h2 c j hc
theorem y_to {σ : sS} {a b : Nat} (hC : vC σ (a + 3) = 12) (hab : b ≠ a) : (vI (a_to σ a b) a 1 = vI σ b 1 ∧ vI (a_to σ a b) a 2 = vI σ b 2 ∧ vI (a_to σ a b) a 3 = vI σ b 3 ∧ vI (a_to σ a b) a 4 = vI σ b 4) ∧ (∀ j, b + 3 ≠ a → j < 12 → vI (a_to σ a b) (a + 3) j = vI σ (b + 3) j) ∧ (∀ c j, c ≠ a → c ≠ a + 3 → vI (a_to σ a b) c j = vI σ c j) ∧ (a_to σ a b).2 = σ.2 := by
  have n : ∀ {x : Int32} {k j : Nat} {ρ : sS}, vI (uI ρ a k x) b j = vI ρ b j := fun {x k j ρ} => vI_q (fun q => hab q.1)
  have e0 : uI (uI (uI (uI σ a 1 (vI σ b 1)) a 2 (vI (uI σ a 1 (vI σ b 1)) b 2)) a 3 (vI (uI (uI σ a 1 (vI σ b 1)) a 2 (vI (uI σ a 1 (vI σ b 1)) b 2)) b 3)) a 4 (vI (uI (uI (uI σ a 1 (vI σ b 1)) a 2 (vI (uI σ a 1 (vI σ b 1)) b 2)) a 3 (vI (uI (uI σ a 1 (vI σ b 1)) a 2 (vI (uI σ a 1 (vI σ b 1)) b 2)) b 3)) b 4) = uI (uI (uI (uI σ a 1 (vI σ b 1)) a 2 (vI σ b 2)) a 3 (vI σ b 3)) a 4 (vI σ b 4) := by rw [n, n, n, n, n, n]
  unfold a_to
  rw [e0]
  have c0 : cpA a b 0 (uI (uI (uI (uI σ a 1 (vI σ b 1)) a 2 (vI σ b 2)) a 3 (vI σ b 3)) a 4 (vI σ b 4)) (uI (uI (uI (uI σ a 1 (vI σ b 1)) a 2 (vI σ b 2)) a 3 (vI σ b 3)) a 4 (vI σ b 4)) := ⟨fun j hj => absurd hj (Nat.not_lt_zero j), fun _ _ _ => rfl, rfl⟩
  have c12 := (((((((((((c0.st hC (by decide) hab).st hC (by decide) hab).st hC (by decide) hab).st hC (by decide) hab).st hC (by decide) hab).st hC (by decide) hab).st hC (by decide) hab).st hC (by decide) hab).st hC (by decide) hab).st hC (by decide) hab).st hC (by decide) hab).st hC (by decide) hab
  obtain ⟨h1, h2, h3⟩ := c12
  refine ⟨⟨?_, ?_, ?_, ?_⟩, fun j hb hj => (h1 j hj).trans ?_, fun c j hc hc3 => (h2 c j hc3).trans ?_, h3⟩
  · refine (h2 a 1 (by omega)).trans ?_
    rw [vI_q (fun q => by have := q.2; omega), vI_q (fun q => by have := q.2; omega), vI_q (fun q => by have := q.2; omega), vI_e]
  · refine (h2 a 2 (by omega)).trans ?_
    rw [vI_q (fun q => by have := q.2; omega), vI_q (fun q => by have := q.2; omega), vI_e]
  · refine (h2 a 3 (by omega)).trans ?_
    rw [vI_q (fun q => by have := q.2; omega), vI_e]
  · refine (h2 a 4 (by omega)).trans ?_
    rw [vI_e]
  · rw [vI_q (fun q => hb q.1), vI_q (fun q => hb q.1), vI_q (fun q => hb q.1), vI_q (fun q => hb q.1)]
  · rw [vI_q (fun q => hc q.1), vI_q (fun q => hc q.1), vI_q (fun q => hc q.1), vI_q (fun q => hc q.1)]
/-- the drafts become the automata -/
theorem y_54 {b : Nat → Int32} {e F : Nat} {D : dD} (kx : sS → Option (Int32 × sS)) : ∀ (n i f : Nat) (σ : sS), i + n = dK D → n < f → cD b e D σ → vI σ 0 9 = nI (dK D) → (∀ a, a < 3 → vC σ (30 + a) = 12) → ∃ τ, L_X11_automata_54 F kx f (nI i) σ = kx τ ∧ (∀ k, i ≤ k → k < dK D → cMa (dL D) (dM D k) τ k ∧ vI τ (33 + k) 6 = 0) ∧ (∀ a j, ¬ (27 + i ≤ a ∧ a < 30) → ¬ (30 + i ≤ a ∧ a < 33) → ¬ (33 + i ≤ a ∧ a < 36 ∧ j = 6) → vI τ a j = vI σ a j) ∧ τ.2 = σ.2 := by
  intro n
  induction n with
  | zero =>
    intro i f σ hi hf hD h9 hC
    have h3 := hD.1.2.1
    obtain ⟨f, rfl⟩ : ∃ g, f = g + 1 := ⟨f - 1, by omega⟩
    refine ⟨σ, ?_, fun k h1 h2 => absurd h2 (by omega), fun _ _ _ _ _ => rfl, rfl⟩
    rw [L_X11_automata_54, h9, if_pos (nI_le (by omega) (by omega))]
  | succ n ih =>
    intro i f σ hi hf hD h9 hC
    have h3 := hD.1.2.1
    obtain ⟨f, rfl⟩ : ∃ g, f = g + 1 := ⟨f - 1, by omega⟩
    obtain ⟨⟨t1, t2, t3, t4⟩, t5, t6, t7⟩ := y_to (σ := σ) (a := 27 + i) (b := 9 + i) (by rw [show 27 + i + 3 = 30 + i by omega]; exact hC i (by omega)) (by omega)
    generalize hρ : a_to σ (27 + i) (9 + i) = ρ at t1 t2 t3 t4 t5 t6 t7
    have g : ∀ {c j : Nat}, c ≠ 27 + i → c ≠ 30 + i → ¬ (c = 33 + i ∧ j = 6) → vI (uI (ρ) (33 + i) 6 0) c j = vI σ c j := fun {c j} h1 h2 h3 => (vI_q h3).trans (t6 c j h1 (by omega))
    have hD' : cD b e D (uI (ρ) (33 + i) 6 0) := by
      obtain ⟨a, a1, a2, a3, a4⟩ := hD
      have hV : ∀ c, vC (uI (ρ) (33 + i) 6 0) c = vC σ c := fun c => by show (ρ).2.2.2.2.1 c = _; rw [t7]; rfl
      refine ⟨a, (g (by omega) (by omega) (by omega)).trans a1, (g (by omega) (by omega) (by omega)).trans a2, ⟨fun a ha => (hV _).trans (a3.1 a ha), by rw [hV]; exact a3.2.1, by rw [hV]; exact a3.2.2⟩, fun k hk => ?_⟩
      obtain ⟨m, n, l⟩ := a4 k hk
      exact ⟨m.c (fun j => g (by omega) (by omega) (by omega)) (fun j => g (by omega) (by omega) (by omega)), (g (by omega) (by omega) (by omega)).trans n, (g (by omega) (by omega) (by omega)).trans l⟩
    obtain ⟨τ, u1, u2, u3, u4⟩ := ih (i + 1) f (uI (ρ) (33 + i) 6 0) (by omega) (by omega) hD' ((g (by omega) (by omega) (by omega)).trans h9) (fun a ha => by
      show (ρ).2.2.2.2.1 (30 + a) = 12
      rw [t7]
      exact hC a ha)
    refine ⟨τ, ?_, fun k h1 h2 => ?_, fun a j h1 h2 h3 => ?_, u4.trans t7⟩
    · rw [L_X11_automata_54, h9, if_neg (nI_ge (by omega) (by omega)), if_neg (show ¬ (3 : Int32) ≤ nI i from nI_ge (b := 3) (by omega) (by omega)), inb_n (by omega) (by omega)]
      simp only [grd_s, bnd_s]
      rw [nI_clamp (by omega), isAu_n (by omega), isAu_9 (by omega), isCo_n (by omega)]
      simp only [grd_s, nI_1, hρ]
      exact u1
    · by_cases c : k = i
      · subst c
        obtain ⟨⟨m0, m1, m2, m3, m4, m5⟩, -⟩ := hD.2.2.2.2 k h2
        have r : ∀ {c j : Nat}, (c = 27 + k ∨ c = 30 + k) → vI τ c j = vI (ρ) c j := fun {c j} hc => (u3 c j (by omega) (by omega) (by omega)).trans (vI_q (by omega))
        refine ⟨⟨m0, (r (by omega)).trans (t1.trans m1), (r (by omega)).trans (t2.trans m2), (r (by omega)).trans (t3.trans m3), (r (by omega)).trans (t4.trans m4), fun s f hs hf => (r (by omega)).trans ?_⟩, (u3 _ _ (by omega) (by omega) (by omega)).trans vI_e⟩
        rw [show 30 + k = 27 + k + 3 by omega, t5 _ (by omega) (by omega), show 9 + k + 3 = 12 + k by omega]
        exact m5 s f hs hf
      · exact u2 k (by omega) h2
    · exact (u3 a j (by omega) (by omega) (by omega)).trans (g (by omega) (by omega) (by omega))
/-- what the call leaves alone -/
def fA (σ τ : sS) : Prop := (∀ a j, a ∉ rdM → ¬ (27 ≤ a ∧ a < 33) → ¬ (33 ≤ a ∧ a < 36 ∧ j = 6) → ¬ (a = 0 ∧ (j = 9 ∨ j = 10)) → vI τ a j = vI σ a j) ∧ (∀ a, a ∉ rdM → vU τ a = vU σ a) ∧ τ.2.1 = σ.2.1 ∧ τ.2.2.1 = σ.2.2.1 ∧ τ.2.2.2.2 = σ.2.2.2.2
def yAu (A : aS) (σ : sS) (q : Int32 × aS) (o : Option (Int32 × sS)) : Prop := ∃ τ, o = some (q.1, τ) ∧ C0 q.2 τ ∧ fA σ τ ∧ ((q.2.2.2.1 = A.2.2.1 ∧ ∀ a j, 27 ≤ a → a < 36 → vI τ a j = vI σ a j) ∨ ∀ i, i < aC q.2 → vI τ (33 + i) 6 = 0)
theorem cS0.c {A B : aS} {σ τ : sS} (h : cS0 A σ) (e : aSh B = aSh A) (h56 : ∀ j, vI τ 56 j = vI σ 56 j) (h61 : ∀ j, vI τ 61 j = vI σ 61 j) : cS0 B τ := by
  unfold cS0 at h ⊢
  rw [e]
  cases hq : aSh A with
  | none => rw [hq] at h; exact (h56 _).trans h
  | some w =>
    rw [hq] at h
    obtain ⟨s1, s2, s3, s4, s5, s6⟩ := h
    exact ⟨(h56 _).trans s1, s2, s3, (h56 _).trans s4, (h56 _).trans s5, fun j hj => (h61 _).trans (s6 j hj)⟩
theorem y_automata {A : aS} {σ : sS} {F : Nat} (hF : 401 < F) (h : C0 A σ) (hI : cI0 σ) (x : Int32) : yAu A σ (sp_automata A x) (L_X11_automata F x σ) := by
  obtain ⟨⟨t1, t2, t3, t4⟩, ⟨a1, a2, a3, a4, a5⟩, ⟨m1, m2, m3, m4, m5⟩, hs⟩ := id h
  have hc : (if x < 0 then (0 : Int32) else if vI σ 1 3 < x then 0 else 1) = if aOk (aT A + 1) x = true then 1 else 0 := by
    rw [t2, ← x_long (by omega)]
    rfl
  unfold L_X11_automata sp_automata
  rw [hc]
  by_cases ha : aOk (aT A + 1) x = true
  · rw [if_pos ha, if_pos ha, if_neg i1n0, bnd_s]
    obtain ⟨e, he, rfl⟩ := aOk_t ha (by omega)
    rw [nI_clamp (by omega)]
    have k0 : tkC (aB A) e 0 (uI (uI (t_open σ (nI e)) 3 6 0) 3 7 0) := ⟨fun j hj => t3 j hj, rfl, rfl, by omega, by omega⟩
    have d0 : cD (aB A) e dD0 (uI (uI (t_open σ (nI e)) 3 6 0) 3 7 0) := ⟨⟨by decide, by decide, fun _ => rfl, fun i hi => absurd hi (Nat.not_lt_zero i)⟩, rfl, rfl, hI, fun i hi => absurd hi (Nat.not_lt_zero i)⟩
    have hq := scn_le (P := kBl (aB A)) (e := e) (e - 0) 0 (by omega)
    have hr := yl_all (F := F) hF (by omega) 401 0 0 F dD0 _ k0 rfl d0 (by omega) hq.2 (by omega) (by omega)
    have eR : L_X5_readAutomata F (t_open σ (nI e)) = L_X5_readAutomata_12 F (fun σ3 => L_X5_readAutomata_97 F σ3) F (nI 0) (uI (uI (t_open σ (nI e)) 3 6 0) 3 7 0) := rfl
    rw [eR]
    have o1 : ∀ {a j : Nat}, a ∉ rdM → vI (uI (uI (t_open σ (nI e)) 3 6 0) 3 7 0) a j = vI σ a j := by
      intro a j hn
      have h1 : a ≠ 1 := fun c => hn (by rw [c]; decide)
      have h3 : a ≠ 3 := fun c => hn (by rw [c]; decide)
      unfold t_open
      rw [vI_q (fun q => h3 q.1), vI_q (fun q => h3 q.1), vI_q (fun q => h1 q.1), vI_q (fun q => h1 q.1), vI_q (fun q => h1 q.1), vI_q (fun q => h1 q.1), vI_q (fun q => h1 q.1)]
    cases hsA : sAll (aB A) e 401 (tq (aB A) e 0) dD0 with
    | inl k =>
      obtain ⟨k, w⟩ := k
      rw [hsA] at hr
      obtain ⟨τ, u1, u2, u3, f1, f2, f3, f4, f5, f6⟩ := hr
      rw [u1, bd2_s, if_pos rfl]
      have n : ∀ {a j : Nat}, a ∉ rdM → vI τ a j = vI σ a j := fun hn => (f1 _ _ hn).trans (o1 hn)
      have r : ∀ {a j : Nat}, a ∉ rdM → a ≠ 0 → vI (uI τ 0 10 4) a j = vI σ a j := fun hn h0 => (vI_q (fun q => h0 q.1)).trans (n hn)
      have hV : ∀ a, vC τ a = vC σ a := fun a => by show τ.2.2.2.2.1 a = _; rw [f6]; rfl
      have rm : ∀ a, 27 ≤ a → a ∉ rdM := fun a ha c => by
        have : ∀ x ∈ rdM, x < 27 := by decide
        have := this a c
        omega
      refine ⟨uI τ 0 10 4, rfl, ⟨⟨by show 0 ≤ 400; omega, ?_, fun j hj => (r (by decide) (by decide)).trans (t3 j hj), (hV _).trans t4⟩, ⟨u2, rfl, fun _ => u3, fun c => absurd rfl c, (n (by decide)).trans a5⟩, ⟨m1, m2, (n (by decide)).trans m3, fun a ha => (hV _).trans (m4 a ha), fun a ha => ?_⟩, ?_⟩, ⟨fun a j h1 h2 h3 h4 => ?_, f3, f4, f5, f6⟩, Or.inl ⟨rfl, fun a j ha _ => r (rm a ha) (by omega)⟩⟩
      · exact f2
      · obtain ⟨n0, n1, n2, n3, n4, n5⟩ := m5 a ha
        exact ⟨n0, (r (rm _ (by omega)) (by omega)).trans n1, (r (rm _ (by omega)) (by omega)).trans n2, (r (rm _ (by omega)) (by omega)).trans n3, (r (rm _ (by omega)) (by omega)).trans n4, fun s f hs hf => (r (rm _ (by omega)) (by omega)).trans (n5 s f hs hf)⟩
      · exact hs.c rfl (fun j => r (by decide) (by decide)) (fun j => r (by decide) (by decide))
      · rw [vI_q (fun q => h4 ⟨q.1, Or.inr q.2⟩)]
        exact n h1
    | inr D =>
      rw [hsA] at hr
      obtain ⟨τ, u1, u2, uD, u3, f1, f2, f3, f4, f5, f6⟩ := hr
      have hK := uD.1.2.1
      rw [u1, bd2_s, if_neg i1n0]
      simp only [bnd_s]
      rw [uD.2.2.1]
      have n : ∀ {a j : Nat}, a ∉ rdM → vI τ a j = vI σ a j := fun hn => (f1 _ _ hn).trans (o1 hn)
      have hV : ∀ a, vC τ a = vC σ a := fun a => by show τ.2.2.2.2.1 a = _; rw [f6]; rfl
      have uD' : cD (aB A) e D (uI τ 0 9 (nI (dK D))) := by
        obtain ⟨a, a1, a2, a3, a4⟩ := uD
        refine ⟨a, a1, a2, a3, fun i hi => ?_⟩
        obtain ⟨m, n, l⟩ := a4 i hi
        exact ⟨m.c (fun j => vI_q (by omega)) (fun j => vI_q (by omega)), n, l⟩
      obtain ⟨ρ, r1, r2, r3, r4⟩ := y_54 (b := aB A) (e := e) (F := F) (D := D) (fun σ8 => bd2 (L_X11_answer (vI σ8 0 9) σ8) (fun rq10 σ11 => some (rq10, σ11))) (dK D) 0 F (uI τ 0 9 (nI (dK D))) (by omega) (by omega) uD' rfl (fun a ha => (hV _).trans (m4 a ha))
      have e9 : vI ρ 0 9 = nI (dK D) := r3 0 9 (by omega) (by omega) (by omega)
      have r1 : L_X11_automata_54 F _ F 0 (uI τ 0 9 (nI (dK D))) = some (nI (dK D), uI ρ 0 10 0) := r1.trans (by
        show some (vI ρ 0 9, _) = _
        rw [e9])
      refine ⟨uI ρ 0 10 0, r1, ?_⟩
      have g : ∀ {a j : Nat}, a ∉ rdM → (a < 27 ∨ 36 ≤ a) → ¬ (a = 0 ∧ (j = 9 ∨ j = 10)) → vI (uI ρ 0 10 0) a j = vI σ a j := by
        intro a j h1 h2 h3
        rw [vI_q (fun q => h3 ⟨q.1, Or.inr q.2⟩), r3 a j (by omega) (by omega) (by omega), vI_q (fun q => h3 ⟨q.1, Or.inl q.2⟩)]
        exact n h1
      have hW : ∀ a, vC ρ a = vC σ a := fun a => by show ρ.2.2.2.2.1 a = _; rw [r4]; exact hV a
      have g1 : ∀ {j : Nat}, vI (uI ρ 0 10 0) 1 j = vI τ 1 j := fun {j} => (vI_q (fun q => by have := q.1; omega)).trans ((r3 1 j (by omega) (by omega) (by omega)).trans (vI_q (fun q => by have := q.1; omega)))
      refine ⟨⟨⟨by show 0 ≤ 400; omega, g1.trans f2, fun j hj => (g (by decide) (by omega) (by omega)).trans (t3 j hj), (hW _).trans t4⟩, ⟨g1.trans u2, rfl, fun c => absurd c (by show ¬ (0 : Int32) = 4; decide), fun _ => rfl, (g (by decide) (by omega) (by omega)).trans a5⟩, ⟨hK, uD.1.1, e9, fun a ha => (hW _).trans (m4 a ha), fun a ha => ?_⟩, hs.c rfl (fun j => g (by decide) (by omega) (by omega)) (fun j => g (by decide) (by omega) (by omega))⟩, ⟨fun a j h1 h2 h3 h4 => ?_, fun a ha => ?_, ?_, ?_, ?_⟩, Or.inr (fun i hi => ?_)⟩
      · obtain ⟨⟨n0, n1, n2, n3, n4, n5⟩, -⟩ := r2 a (by omega) ha
        have q : ∀ {c j : Nat}, 27 ≤ c → vI (uI ρ 0 10 0) c j = vI ρ c j := fun {c j} hc => vI_q (fun q => by have := q.1; omega)
        exact ⟨n0, (q (by omega)).trans n1, (q (by omega)).trans n2, (q (by omega)).trans n3, (q (by omega)).trans n4, fun s f hs hf => (q (by omega)).trans (n5 s f hs hf)⟩
      · rw [vI_q (fun q => h4 ⟨q.1, Or.inr q.2⟩), r3 a j (by omega) (by omega) (by omega), vI_q (fun q => h4 ⟨q.1, Or.inl q.2⟩)]
        exact n h1
      · show ρ.2.2.2.1 a = _
        rw [r4]
        exact f3 a ha
      · show ρ.2.1 = _
        rw [r4]
        exact f4
      · show ρ.2.2.1 = _
        rw [r4]
        exact f5
      · show ρ.2.2.2.2 = _
        rw [r4]
        exact f6
      · exact (vI_q (fun q => by have := q.1; omega)).trans (r2 i (by omega) hi).2
  · rw [if_neg ha, if_neg ha, if_pos rfl]
    refine ⟨_, rfl, h.ans (by decide), ⟨fun a j _ _ _ h4 => vI_q (fun q => h4 ⟨q.1, Or.inr q.2⟩), fun _ _ => rfl, rfl, rfl, rfl⟩, Or.inl ⟨rfl, fun a j ha _ => vI_q (fun q => by have := q.1; omega)⟩⟩
