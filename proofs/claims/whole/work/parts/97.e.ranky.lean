/-! the calls rankings and ranked (the component) -/
theorem t255 : ∀ k, k < 8 → (255 : Nat).testBit k = true := by decide +kernel
theorem clr_tb {m d k : Nat} (hk : k < 8) : (clr m d).testBit k = (m.testBit k && !decide (d = k)) := by
  unfold clr
  rw [Nat.testBit_and, Nat.testBit_xor, Nat.testBit_two_pow, t255 k hk]
  cases decide (d = k) <;> rfl
theorem cv_4 {t m Q : Nat} (hm : m < 256) : cv t 4 m Q = true ↔ ∀ k, k < 8 → m.testBit k = true → cvS t Q k = true := by
  have st : ∀ s m k, k < 8 → (if t.testBit s = true then clr m (dg Q s) else m).testBit k = (m.testBit k && !(t.testBit s && decide (dg Q s = k))) := by
    intro s m k hk
    by_cases c : t.testBit s = true
    · rw [if_pos c, clr_tb hk, c, Bool.true_and]
    · rw [if_neg c, (Bool.not_eq_true _).mp c, Bool.false_and, Bool.not_false, Bool.and_true]
  have lt : ∀ s m, m < 256 → (if t.testBit s = true then clr m (dg Q s) else m) < 256 := by
    intro s m hm
    split
    · exact (b_clr m hm _ dg_lt).2.1
    · exact hm
  generalize hF : (if t.testBit 3 = true then clr (if t.testBit 2 = true then clr (if t.testBit 1 = true then clr (if t.testBit 0 = true then clr m (dg Q 0) else m) (dg Q 1) else (if t.testBit 0 = true then clr m (dg Q 0) else m)) (dg Q 2) else (if t.testBit 1 = true then clr (if t.testBit 0 = true then clr m (dg Q 0) else m) (dg Q 1) else (if t.testBit 0 = true then clr m (dg Q 0) else m))) (dg Q 3) else (if t.testBit 2 = true then clr (if t.testBit 1 = true then clr (if t.testBit 0 = true then clr m (dg Q 0) else m) (dg Q 1) else (if t.testBit 0 = true then clr m (dg Q 0) else m)) (dg Q 2) else (if t.testBit 1 = true then clr (if t.testBit 0 = true then clr m (dg Q 0) else m) (dg Q 1) else (if t.testBit 0 = true then clr m (dg Q 0) else m)))) = fin
  have e : cv t 4 m Q = decide (fin = 0) := by rw [← hF]; rfl
  have hf : fin < 256 := by rw [← hF]; exact lt 3 _ (lt 2 _ (lt 1 _ (lt 0 _ hm)))
  have hb : ∀ k, k < 8 → fin.testBit k = (m.testBit k && !cvS t Q k) := by
    intro k hk
    rw [← hF, st 3 _ k hk, st 2 _ k hk, st 1 _ k hk, st 0 _ k hk]
    unfold cvS
    generalize (t.testBit 0 && decide (dg Q 0 = k)) = a
    generalize (t.testBit 1 && decide (dg Q 1 = k)) = b
    generalize (t.testBit 2 && decide (dg Q 2 = k)) = c
    generalize (t.testBit 3 && decide (dg Q 3 = k)) = d
    cases m.testBit k <;> cases a <;> cases b <;> cases c <;> cases d <;> rfl
  rw [e, decide_eq_true_eq]
  constructor
  · intro h0 k hk hmk
    have := hb k hk
    rw [h0, Nat.zero_testBit, hmk] at this
    cases hc : cvS t Q k with
    | true => rfl
    | false => rw [hc] at this; exact absurd this (by decide)
  · intro h
    refine Nat.eq_of_testBit_eq (fun k => ?_)
    rw [Nat.zero_testBit]
    by_cases hk : k < 8
    · rw [hb k hk]
      by_cases hmk : m.testBit k = true
      · rw [h k hk hmk, hmk]; rfl
      · rw [(Bool.not_eq_true _).mp hmk]; rfl
    · exact Nat.testBit_lt_two_pow (Nat.lt_of_lt_of_le hf (Nat.pow_le_pow_right (n := 2) (by decide) (show 8 ≤ k by omega)))
def mG (g : Nat) : Nat := 170 &&& (2 ^ (g + 1) - 1)
theorem mG_ok {g : Nat} (hg : odd7 g) : mG g < 256 ∧ mG g &&& 85 = 0 ∧ (170 : Int32) &&& (((1 : Int32) <<< ((nI g + 1) &&& 31)) - 1) = nI (mG g) := by
  rcases hg with rfl | rfl | rfl | rfl <;> decide +kernel
theorem k8 {k : Nat} (h : k < 8) : k = 0 ∨ k = 1 ∨ k = 2 ∨ k = 3 ∨ k = 4 ∨ k = 5 ∨ k = 6 ∨ k = 7 := by omega
theorem kl_rk {t f g : Nat} {cap : Nat → Nat} (hg : odd7 g) : kl t f g cap 4 0 (mG g) = rkS t f g cap := by
  unfold kl rkS
  refine filter_cg _ (fun Q _ => ?_)
  have e1 : sf t f cap 4 Q = (okS t f cap Q 0 && okS t f cap Q 1 && okS t f cap Q 2 && okS t f cap Q 3) := by
    show (okS t f cap Q 0 && (okS t f cap Q 1 && (okS t f cap Q 2 && (okS t f cap Q 3 && true)))) = _
    generalize okS t f cap Q 0 = a
    generalize okS t f cap Q 1 = b
    generalize okS t f cap Q 2 = c
    generalize okS t f cap Q 3 = d
    cases a <;> cases b <;> cases c <;> cases d <;> rfl
  have e2 : cv t 4 (mG g) Q = ((decide (g < 1) || cvS t Q 1) && (decide (g < 3) || cvS t Q 3) && (decide (g < 5) || cvS t Q 5) && (decide (g < 7) || cvS t Q 7)) := by
    rw [Bool.eq_iff_iff, cv_4 (mG_ok hg).1]
    rcases hg with rfl | rfl | rfl | rfl
    · constructor
      · intro h
        rw [h 1 (by decide) (by decide)]; rfl
      · intro h k hk hb
        have h1 : cvS t Q 1 = true := by simpa using h
        rcases k8 hk with rfl | rfl | rfl | rfl | rfl | rfl | rfl | rfl
        · exact absurd hb (by decide)
        · exact h1
        all_goals exact absurd hb (by decide)
    · constructor
      · intro h
        rw [h 1 (by decide) (by decide), h 3 (by decide) (by decide)]; rfl
      · intro h k hk hb
        obtain ⟨h, -⟩ := Bool.and_eq_true_iff.mp h
        obtain ⟨h, -⟩ := Bool.and_eq_true_iff.mp h
        obtain ⟨h, h3⟩ := Bool.and_eq_true_iff.mp h
        have h1 : cvS t Q 1 = true ∧ cvS t Q 3 = true := ⟨by simpa using h, by simpa using h3⟩
        rcases k8 hk with rfl | rfl | rfl | rfl | rfl | rfl | rfl | rfl
        all_goals first | exact h1.1 | exact h1.2 | exact absurd hb (by decide)
    · constructor
      · intro h
        rw [h 1 (by decide) (by decide), h 3 (by decide) (by decide), h 5 (by decide) (by decide)]; rfl
      · intro h k hk hb
        obtain ⟨h, -⟩ := Bool.and_eq_true_iff.mp h
        obtain ⟨h, h5⟩ := Bool.and_eq_true_iff.mp h
        obtain ⟨h, h3⟩ := Bool.and_eq_true_iff.mp h
        have h1 : cvS t Q 1 = true ∧ cvS t Q 3 = true ∧ cvS t Q 5 = true := ⟨by simpa using h, by simpa using h3, by simpa using h5⟩
        rcases k8 hk with rfl | rfl | rfl | rfl | rfl | rfl | rfl | rfl
        all_goals first | exact h1.1 | exact h1.2.1 | exact h1.2.2 | exact absurd hb (by decide)
    · constructor
      · intro h
        rw [h 1 (by decide) (by decide), h 3 (by decide) (by decide), h 5 (by decide) (by decide), h 7 (by decide) (by decide)]; rfl
      · intro h k hk hb
        obtain ⟨h, h7⟩ := Bool.and_eq_true_iff.mp h
        obtain ⟨h, h5⟩ := Bool.and_eq_true_iff.mp h
        obtain ⟨h, h3⟩ := Bool.and_eq_true_iff.mp h
        have h1 : cvS t Q 1 = true ∧ cvS t Q 3 = true ∧ cvS t Q 5 = true ∧ cvS t Q 7 = true := ⟨by simpa using h, by simpa using h3, by simpa using h5, by simpa using h7⟩
        rcases k8 hk with rfl | rfl | rfl | rfl | rfl | rfl | rfl | rfl
        all_goals first | exact h1.1 | exact h1.2.1 | exact h1.2.2.1 | exact h1.2.2.2 | exact absurd hb (by decide)
  unfold tgB
  rw [e1, e2]
/-! there are never more than 128 -/
theorem filter_len {α : Type} {p q : α → Bool} : ∀ (l : List α), (∀ x, x ∈ l → p x = true → q x = true) → (l.filter p).length ≤ (l.filter q).length
  | [], _ => Nat.le_refl _
  | x :: l, h => by
    have := filter_len l (fun y hy => h y (List.mem_cons_of_mem _ hy))
    rw [List.filter_cons, List.filter_cons]
    by_cases c : p x = true
    · rw [if_pos c, if_pos (h x List.mem_cons_self c), List.length_cons, List.length_cons]
      omega
    · rw [if_neg c]
      split
      · rw [List.length_cons]; omega
      · exact this
set_option maxRecDepth 100000 in
theorem rk_1 : ∀ t, t < 16 → (rkS t 0 1 (fun _ => 7)).length ≤ 128 := by decide +kernel
set_option maxRecDepth 100000 in
theorem rk_3 : ∀ t, t < 16 → (rkS t 0 3 (fun _ => 7)).length ≤ 128 := by decide +kernel
set_option maxRecDepth 100000 in
theorem rk_5 : ∀ t, t < 16 → (rkS t 0 5 (fun _ => 7)).length ≤ 128 := by decide +kernel
set_option maxRecDepth 100000 in
theorem rk_7 : ∀ t, t < 16 → (rkS t 0 7 (fun _ => 7)).length ≤ 128 := by decide +kernel
theorem rk_len {t f g : Nat} {cap : Nat → Nat} (ht : t < 16) (hg : odd7 g) : (rkS t f g cap).length ≤ 128 := by
  have key : (rkS t f g cap).length ≤ (rkS t 0 g (fun _ => 7)).length := by
    refine filter_len _ (fun Q _ h => ?_)
    unfold tgB at h ⊢
    obtain ⟨h1, h2⟩ := Bool.and_eq_true_iff.mp h
    refine Bool.and_eq_true_iff.mpr ⟨?_, h2⟩
    have st : ∀ s, okS t 0 (fun _ => 7) Q s = true := by
      intro s
      have d8 : dg Q s ≤ 7 := by have := dg_lt (P := Q) (s := s); omega
      unfold okS
      rw [Nat.zero_testBit, decide_eq_true d8]
      cases t.testBit s <;> rfl
    rw [st, st, st, st]
    rfl
  rcases hg with rfl | rfl | rfl | rfl
  · exact Nat.le_trans key (rk_1 t ht)
  · exact Nat.le_trans key (rk_3 t ht)
  · exact Nat.le_trans key (rk_5 t ht)
  · exact Nat.le_trans key (rk_7 t ht)
theorem Wk_all {t g : Nat} (hg : g < 8) : ∀ (l : List Nat) (P : Nat) (C : Nat × Nat), Wk t g (P :: l) C → dOK t g P → ∀ Q, Q ∈ P :: l → dOK t g Q := by
  intro l
  induction l with
  | nil =>
    intro P C _ hP Q hQ
    rw [List.mem_singleton.mp hQ]
    exact hP
  | cons R l ih =>
    intro P C h hP Q hQ
    rcases List.mem_cons.mp hQ with rfl | hQ
    · exact hP
    · exact ih R C h.2 (h.ok hg hP).2 Q hQ
theorem vs_ok {t g Q : Nat} (hg : g < 8) (h : Q ∈ vs t g 4 0) : dOK t g Q := by
  obtain ⟨l, h1, h2, -⟩ := vs_0 (t := t) hg
  rw [h1] at h
  exact Wk_all hg l 0 _ h2 dOK_0 Q h
theorem rkS_ok {t f g Q : Nat} {cap : Nat → Nat} (hg : odd7 g) (h : Q ∈ rkS t f g cap) : dOK t g Q := by
  have g8 : g < 8 := by rcases hg with h | h | h | h <;> omega
  exact vs_ok g8 (List.mem_filter.mp h).1
theorem rkS_cap {t f g : Nat} (hg : odd7 g) : rkS t f g (fun _ => g) = rkS t f g (fun _ => 7) := by
  have g8 : g < 8 := by rcases hg with h | h | h | h <;> omega
  refine filter_cg _ (fun Q hQ => ?_)
  have hD := vs_ok g8 hQ
  have st : ∀ s, s < 4 → okS t f (fun _ => g) Q s = okS t f (fun _ => 7) Q s := by
    intro s hs
    have d8 : dg Q s ≤ 7 := by have := dg_lt (P := Q) (s := s); omega
    unfold okS
    by_cases c : t.testBit s = true
    · rw [c, decide_eq_true ((hD.2 s hs).1 c), decide_eq_true d8]
    · rw [(Bool.not_eq_true _).mp c]; rfl
  unfold tgB
  rw [st 0 (by decide), st 1 (by decide), st 2 (by decide), st 3 (by decide)]
/-- what findUnder leaves -/
theorem y_fu {σ : sS} {t f g : Nat} {a : Int32} {cap : Nat → Nat} (ht : t < 16) (hf : f < 16) (hg : odd7 g) (ha : ∀ s, s < 4 → k_ro a (nI s) = nI (cap s)) (hcap : ∀ s, s < 4 → t.testBit s = true → cap s ≤ g) (hC : vC σ 16 = 128) : vI (k_fu σ (nI t) (nI f) (nI g) a) 15 1 = nI (rkS t f g cap).length ∧ (∀ j, j < (rkS t f g cap).length → vI (k_fu σ (nI t) (nI f) (nI g) a) 16 j = nI (rv ((rkS t f g cap).getD j 0))) ∧ (∀ c j, c ≠ 15 → c ≠ 16 → vI (k_fu σ (nI t) (nI f) (nI g) a) c j = vI σ c j) ∧ (k_fu σ (nI t) (nI f) (nI g) a).2 = σ.2 := by
  obtain ⟨m1, m2, m3⟩ := mG_ok hg
  have h0 : kA [] (uI (uI (uI (uI σ 15 1 0) 15 2 (nI t)) 15 3 (nI f)) 15 4 a) (uI (uI (uI (uI σ 15 1 0) 15 2 (nI t)) 15 3 (nI f)) 15 4 a) := ⟨rfl, fun j hj => absurd hj (Nat.not_lt_zero j), fun _ _ _ _ => rfl, rfl⟩
  have hl : ([] ++ kl t f g cap 4 0 (mG g)).length ≤ 128 := by rw [List.nil_append, kl_rk hg]; exact rk_len ht hg
  have h := k_rfA (σ := uI (uI (uI (uI σ 15 1 0) 15 2 (nI t)) 15 3 (nI f)) 15 4 a) (cap := cap) ht hf hg rfl rfl ha hcap hC 4 0 (mG g) [] _ (by decide) (by decide) (by decide) m1 m2 h0 hl
  rw [List.nil_append, kl_rk hg] at h
  obtain ⟨a1, a2, a3, a4⟩ := h
  unfold k_fu
  rw [m3]
  refine ⟨a1, a2, fun c j h5 h6 => (a3 c j h6 (fun q => h5 q.1)).trans ?_, a4⟩
  rw [vI_q (fun q => h5 q.1), vI_q (fun q => h5 q.1), vI_q (fun q => h5 q.1), vI_q (fun q => h5 q.1)]
theorem k_lvl {g : Nat} (hg : odd7 g) : ∀ s, s < 4 → k_ro (k_lv (nI g)) (nI s) = nI g := by
  rcases hg with rfl | rfl | rfl | rfl <;> decide +kernel
def fK (σ τ : sS) : Prop := (∀ c j, c ≠ 15 → c ≠ 16 → vI τ c j = vI σ c j) ∧ τ.2 = σ.2
theorem C0.k {A : aS} {σ τ : sS} (h : C0 A σ) (f : fK σ τ) : C0 A τ := by
  obtain ⟨⟨t1, t2, t3, t4⟩, ⟨a1, a2, a3, a4, a5⟩, ⟨m1, m2, m3, m4, m5⟩, hs⟩ := h
  obtain ⟨f1, f2⟩ := f
  have hV : ∀ a, vC τ a = vC σ a := fun a => by show τ.2.2.2.2.1 a = σ.2.2.2.2.1 a; rw [f2]
  have n : ∀ {a j : Nat}, a ≠ 15 → a ≠ 16 → vI τ a j = vI σ a j := fun h1 h6 => f1 _ _ h1 h6
  refine ⟨⟨t1, (n (by decide) (by decide)).trans t2, fun j hj => (n (by decide) (by decide)).trans (t3 j hj), (hV _).trans t4⟩, ⟨(n (by decide) (by decide)).trans a1, (n (by decide) (by decide)).trans a2, fun c => (n (by decide) (by decide)).trans (a3 c), a4, (n (by decide) (by decide)).trans a5⟩, ⟨m1, m2, (n (by decide) (by decide)).trans m3, fun a ha => (hV _).trans (m4 a ha), fun a ha => ?_⟩, hs.c rfl (fun j => n (by decide) (by decide)) (fun j => n (by decide) (by decide))⟩
  obtain ⟨n0, n1, n2, n3, n4, n5⟩ := m5 a ha
  exact ⟨n0, (n (by omega) (by omega)).trans n1, (n (by omega) (by omega)).trans n2, (n (by omega) (by omega)).trans n3, (n (by omega) (by omega)).trans n4, fun s f hs hf => (n (by omega) (by omega)).trans (n5 s f hs hf)⟩
theorem y_grt (x : Int32) : L_X11_isGreatest x = if oddI x then 1 else 0 := by
  unfold L_X11_isGreatest
  by_cases h1 : x < 1
  · rw [if_pos h1, if_neg]
    rintro (rfl | rfl | rfl | rfl) <;> exact absurd h1 (by decide)
  · rw [if_neg h1]
    by_cases h7 : (7 : Int32) < x
    · rw [if_pos h7, if_neg]
      rintro (rfl | rfl | rfl | rfl) <;> exact absurd h7 (by decide)
    · rw [if_neg h7]
      obtain ⟨j, hj, rfl⟩ := nI_of (show ¬ x < 0 from fun c => h1 (Int32.lt_trans c (by decide)))
      have j7 : j ≤ 7 := by
        rcases Nat.lt_or_ge 7 j with c | c
        · exact absurd (show nI 7 < nI j from nI_lt c hj) h7
        · exact c
      exact (by decide +kernel : ∀ j, j < 8 → (if (nI j &&& 1) = 1 then (1 : Int32) else 0) = (if oddI (nI j) then 1 else 0)) j (by omega)
def fK1 (σ τ : sS) : Prop := ∃ υ u, fK σ υ ∧ τ = uI υ 0 10 u
theorem fK.rf {σ : sS} : fK σ σ := ⟨fun _ _ _ _ => rfl, rfl⟩
theorem y_rankings {A : aS} {σ : sS} (h : C0 A σ) (hC : vC σ 16 = 128) (a t g : Int32) : ∃ τ, L_X11_rankings a t g σ = some ((sp_rankings A a t g).1, τ) ∧ C0 (sp_rankings A a t g).2 τ ∧ fK1 σ τ := by
  have h3 := h.c.1
  unfold L_X11_rankings sp_rankings
  rw [y_at h]
  by_cases ha : aOk (aC A) a = true
  · obtain ⟨i, hi, rfl⟩ := aOk_t ha (by omega)
    have hm := (h.m hi).1
    have hb := b_pw _ hm.2.1
    rw [if_pos ha, if_pos ha]
    simp only [bnd_s]
    rw [nI_clamp (by omega), isAu_n (by omega), grd_s, y_ht h hi]
    by_cases hs : aOk (2 ^ mN (aMa A i)) t = true
    · obtain ⟨t, ht, rfl⟩ := aOk_t hs (by omega)
      rw [if_pos hs, if_neg i1n0, if_pos hs, nI_clamp (by omega), y_grt]
      by_cases ho : oddI g
      · obtain ⟨g, hg, rfl⟩ := oddI_n ho
        have g8 : g < 8 := by rcases hg with h | h | h | h <;> omega
        rw [if_pos ho, if_neg i1n0, if_pos ho, nI_clamp (by omega), (h.m hi).2.2.2.2.1]
        obtain ⟨u1, u2, u3, u4⟩ := y_fu (σ := σ) (t := t) (f := mF (aMa A i)) (g := g) (a := k_lv (nI g)) (cap := fun _ => g) (by omega) hm.b.2.1 hg (k_lvl hg) (fun _ _ _ => Nat.le_refl _) hC
        rw [rkS_cap hg] at u1
        have hf : fK σ (k_fu σ (nI t) (nI (mF (aMa A i))) (nI g) (k_lv (nI g))) := ⟨u3, u4⟩
        rw [u1]
        exact ⟨_, rfl, (h.k hf).ans (by decide), _, _, hf, rfl⟩
      · rw [if_neg ho, if_pos rfl, if_neg ho]
        exact ⟨_, rfl, h.ans (by decide), _, _, fK.rf, rfl⟩
    · rw [if_neg hs, if_pos rfl, if_neg hs]
      exact ⟨_, rfl, h.ans (by decide), _, _, fK.rf, rfl⟩
  · rw [if_neg ha, if_neg ha]
    exact ⟨_, rfl, h.ans (by decide), _, _, fK.rf, rfl⟩
theorem k_ro0q : ∀ y, y < 64 → ∀ z, z < 64 → k_ro (nI (64 * y + z)) (nI 0) = nI ((64 * y + z) % 8) := by decide +kernel
theorem k_ro0 : ∀ x, x < 4096 → k_ro (nI x) (nI 0) = nI (x % 8) := by
  intro x hx
  have h := k_ro0q (x / 64) (by omega) (x % 64) (by omega)
  rw [show 64 * (x / 64) + x % 64 = x by omega] at h
  exact h
theorem k_ro1q : ∀ y, y < 64 → ∀ z, z < 64 → k_ro (nI (64 * y + z)) (nI 1) = nI ((64 * y + z) / 8 % 8) := by decide +kernel
theorem k_ro1 : ∀ x, x < 4096 → k_ro (nI x) (nI 1) = nI (x / 8 % 8) := by
  intro x hx
  have h := k_ro1q (x / 64) (by omega) (x % 64) (by omega)
  rw [show 64 * (x / 64) + x % 64 = x by omega] at h
  exact h
theorem k_ro2q : ∀ y, y < 64 → ∀ z, z < 64 → k_ro (nI (64 * y + z)) (nI 2) = nI ((64 * y + z) / 64 % 8) := by decide +kernel
theorem k_ro2 : ∀ x, x < 4096 → k_ro (nI x) (nI 2) = nI (x / 64 % 8) := by
  intro x hx
  have h := k_ro2q (x / 64) (by omega) (x % 64) (by omega)
  rw [show 64 * (x / 64) + x % 64 = x by omega] at h
  exact h
theorem k_ro3q : ∀ y, y < 64 → ∀ z, z < 64 → k_ro (nI (64 * y + z)) (nI 3) = nI ((64 * y + z) / 512 % 8) := by decide +kernel
theorem k_ro3 : ∀ x, x < 4096 → k_ro (nI x) (nI 3) = nI (x / 512 % 8) := by
  intro x hx
  have h := k_ro3q (x / 64) (by omega) (x % 64) (by omega)
  rw [show 64 * (x / 64) + x % 64 = x by omega] at h
  exact h
theorem rv_lt {P : Nat} : rv P < 4096 := by
  have h0 := dg_lt (P := P) (s := 0)
  have h1 := dg_lt (P := P) (s := 1)
  have h2 := dg_lt (P := P) (s := 2)
  have h3 := dg_lt (P := P) (s := 3)
  unfold rv
  omega
theorem k_rov {P s : Nat} (hs : s < 4) : k_ro (nI (rv P)) (nI s) = nI (dg P s) := by
  have h0 := dg_lt (P := P) (s := 0)
  have h1 := dg_lt (P := P) (s := 1)
  have h2 := dg_lt (P := P) (s := 2)
  have h3 := dg_lt (P := P) (s := 3)
  rcases s4 hs with rfl | rfl | rfl | rfl
  · rw [k_ro0 _ rv_lt]; congr 1; unfold rv; omega
  · rw [k_ro1 _ rv_lt]; congr 1; unfold rv; omega
  · rw [k_ro2 _ rv_lt]; congr 1; unfold rv; omega
  · rw [k_ro3 _ rv_lt]; congr 1; unfold rv; omega
theorem y_ranked {A : aS} {σ : sS} (h : C0 A σ) (hC : vC σ 16 = 128) (a t g k s : Int32) : ∃ τ, L_X11_ranked a t g k s σ = some ((sp_ranked A a t g k s).1, τ) ∧ C0 (sp_ranked A a t g k s).2 τ ∧ fK1 σ τ := by
  have h3 := h.c.1
  unfold L_X11_ranked sp_ranked
  rw [y_at h]
  by_cases ha : aOk (aC A) a = true
  · obtain ⟨i, hi, rfl⟩ := aOk_t ha (by omega)
    have hm := (h.m hi).1
    have hm4 := hm.2.1
    have hb := b_pw _ hm.2.1
    rw [if_pos ha]
    simp only [bnd_s]
    rw [nI_clamp (by omega), isAu_n (by omega), grd_s, y_hs h hi, y_ht h hi]
    by_cases hss : aOk (mN (aMa A i)) s = true
    · obtain ⟨s, hs4, rfl⟩ := aOk_t hss (by omega)
      rw [if_pos hss, if_neg i1n0, if_pos (show aOk (aC A) (nI i) = true ∧ aOk (mN (aMa A i)) (nI s) = true from ⟨ha, hss⟩), nI_clamp (by omega)]
      by_cases hs : aOk (2 ^ mN (aMa A i)) t = true
      · obtain ⟨t, ht, rfl⟩ := aOk_t hs (by omega)
        rw [if_pos hs, if_neg i1n0, if_pos hs, nI_clamp (by omega), y_grt]
        by_cases ho : oddI g
        · obtain ⟨g, hg, rfl⟩ := oddI_n ho
          have g8 : g < 8 := by rcases hg with h | h | h | h <;> omega
          rw [if_pos ho, if_neg i1n0, if_pos ho, nI_clamp (by omega), (h.m hi).2.2.2.2.1]
          obtain ⟨u1, u2, u3, u4⟩ := y_fu (σ := σ) (t := t) (f := mF (aMa A i)) (g := g) (a := k_lv (nI g)) (cap := fun _ => g) (by omega) hm.b.2.1 hg (k_lvl hg) (fun _ _ _ => Nat.le_refl _) hC
          rw [rkS_cap hg] at u1 u2
          have hl := rk_len (t := t) (f := mF (aMa A i)) (g := g) (cap := fun _ => 7) (by omega) hg
          have hf : fK σ (k_fu σ (nI t) (nI (mF (aMa A i))) (nI g) (k_lv (nI g))) := ⟨u3, u4⟩
          have bad : ∃ τ, (bd2 (L_X11_refuse 5 (k_fu σ (nI t) (nI (mF (aMa A i))) (nI g) (k_lv (nI g)))) (fun r z => some (r, z))) = some ((aRef A 5).1, τ) ∧ C0 (aRef A 5).2 τ ∧ fK1 σ τ := ⟨_, rfl, (h.k hf).ans (by decide), _, _, hf, rfl⟩
          rw [u1]
          by_cases hk : k < 0
          · rw [if_pos hk, if_neg (fun c => c.1 hk)]
            exact bad
          · rw [if_neg hk]
            obtain ⟨k, hk2, rfl⟩ := nI_of hk
            rw [nI_clamp hk2]
            by_cases hc : k < (rkS t (mF (aMa A i)) g (fun _ => 7)).length
            · rw [if_neg (nI_ge hc (by omega)), y_in (by omega) (by omega)]
              by_cases hts : t.testBit s = true
              · rw [if_pos hts, if_neg i1n0, if_pos ⟨hk, hts, hc⟩, rg_nI hk2, u2 k hc, k_rov (by omega)]
                exact ⟨_, rfl, (h.k hf).ans (by decide), _, _, hf, rfl⟩
              · rw [if_neg hts, if_pos rfl, if_neg (fun c => hts c.2.1)]
                exact bad
            · rw [if_pos (nI_le (by omega) hk2), if_neg (fun c => hc c.2.2)]
              exact bad
        · rw [if_neg ho, if_pos rfl, if_neg ho]
          exact ⟨_, rfl, h.ans (by decide), _, _, fK.rf, rfl⟩
      · rw [if_neg hs, if_pos rfl, if_neg hs]
        exact ⟨_, rfl, h.ans (by decide), _, _, fK.rf, rfl⟩
    · rw [if_neg hss, if_pos rfl, if_neg (show ¬ (aOk (aC A) (nI i) = true ∧ aOk (mN (aMa A i)) s = true) from fun c => hss c.2)]
      exact ⟨_, rfl, h.ans (by decide), _, _, fK.rf, rfl⟩
  · rw [if_neg ha, if_neg (fun c => ha c.1)]
    exact ⟨_, rfl, h.ans (by decide), _, _, fK.rf, rfl⟩
