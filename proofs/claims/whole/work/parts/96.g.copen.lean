/-! calls that read a word: the component's opening; follows -/
def fL0 (σ τ : sS) : Prop := (∀ a j, a ≠ 1 → a ≠ 6 → a ≠ 7 → vI τ a j = vI σ a j) ∧ (∀ a, a ≠ 6 → a ≠ 7 → vU τ a = vU σ a) ∧ τ.2.1 = σ.2.1 ∧ τ.2.2.1 = σ.2.2.1 ∧ τ.2.2.2.2 = σ.2.2.2.2
theorem C0.lz {A : aS} {σ τ : sS} (h : C0 A σ) (f : fL0 σ τ) (h3 : vI τ 1 3 = 0) {k : Int32} (h7 : vI τ 1 7 = k) {w : Int32} (h8 : aU A = 4 → vI τ 1 8 = w) (hw : aU A ≠ 4 → w = -1) : C0 ((0, aB A), (k, aU A, w), A.2.2) τ := by
  obtain ⟨⟨t1, t2, t3, t4⟩, ⟨a1, a2, a3, a4, a5⟩, ⟨m1, m2, m3, m4, m5⟩, hs⟩ := h
  obtain ⟨f1, f2, f3, f4, f5⟩ := f
  have hV : ∀ a, vC τ a = vC σ a := fun a => by show τ.2.2.2.2.1 a = σ.2.2.2.2.1 a; rw [f5]
  have n : ∀ {a j : Nat}, a ≠ 1 → a ≠ 6 → a ≠ 7 → vI τ a j = vI σ a j := fun h1 h6 h7 => f1 _ _ h1 h6 h7
  refine ⟨⟨by show 0 ≤ 400; omega, h3, fun j hj => (n (by decide) (by decide) (by decide)).trans (t3 j hj), (hV _).trans t4⟩, ⟨h7, (n (by decide) (by decide) (by decide)).trans a2, h8, hw, (n (by decide) (by decide) (by decide)).trans a5⟩, ⟨m1, m2, (n (by decide) (by decide) (by decide)).trans m3, fun a ha => (hV _).trans (m4 a ha), fun a ha => ?_⟩, hs.c rfl (fun j => n (by decide) (by decide) (by decide)) (fun j => n (by decide) (by decide) (by decide))⟩
  obtain ⟨n0, n1, n2, n3, n4, n5⟩ := m5 a ha
  exact ⟨n0, (n (by omega) (by omega) (by omega)).trans n1, (n (by omega) (by omega) (by omega)).trans n2, (n (by omega) (by omega) (by omega)).trans n3, (n (by omega) (by omega) (by omega)).trans n4, fun s f hs hf => (n (by omega) (by omega) (by omega)).trans (n5 s f hs hf)⟩
theorem y_hold {A : aS} {σ : sS} (h : C0 A σ) (x : Int32) : (if x < 0 then (0 : Int32) else if vI σ 1 3 < x then 0 else 1) = if aOk (aT A + 1) x = true then 1 else 0 := by
  have := h.1.1
  rw [h.1.2.1, ← x_long (by omega)]
  rfl
def cI1 (σ : sS) : Prop := vC σ 6 = 10 ∧ vC σ 7 = 10
theorem y_open {A : aS} {σ : sS} {F i e : Nat} (hF : 402 < F) (h : C0 A σ) (hI : cI1 σ) (hi : i < aC A) (he : e ≤ aT A) : ∃ τ, fL0 σ τ ∧ (match sLasso (aB A) e (aG A) (tq (aB A) e 0) with
    | .inl (k, w) => L_X5_readLasso F (vI (t_open σ (nI e)) (27 + i) 2) (t_open σ (nI e)) = some (0, τ) ∧ C0 (sAns (aLz A k) 4 (nI w)) (uI τ 0 10 4)
    | .inr (u, v) => L_X5_readLasso F (vI (t_open σ (nI e)) (27 + i) 2) (t_open σ (nI e)) = some (1, τ) ∧ (∃ w, C0 (aLy A w) τ) ∧ cRw 6 u τ ∧ cRw 7 v τ ∧ v ≠ []) := by
  have h400 := h.1.1
  have k0 : tkC (aB A) e 0 (t_open σ (nI e)) := ⟨fun j hj => h.1.2.2.1 j hj, rfl, rfl, by omega, by omega⟩
  have o1 : ∀ {a j : Nat}, a ≠ 1 → vI (t_open σ (nI e)) a j = vI σ a j := by
    intro a j h1
    unfold t_open
    rw [vI_q (fun q => h1 q.1), vI_q (fun q => h1 q.1), vI_q (fun q => h1 q.1), vI_q (fun q => h1 q.1), vI_q (fun q => h1 q.1)]
  have e2 : vI (t_open σ (nI e)) (27 + i) 2 = nI (aG A) := (o1 (by omega)).trans (h.m hi).2.2.1
  have hr := y_lasso (F := F) (G := aG A) h.c.2 hF k0 rfl hI.1 hI.2
  rw [e2]
  have ff : ∀ τ, fL (t_open σ (nI e)) τ → fL0 σ τ ∧ vI τ 1 3 = 0 := fun τ g => ⟨⟨fun a j h1 h6 h7 => (g.1 a j h1 h6 h7).trans (o1 h1), g.2.2.1, g.2.2.2⟩, g.2.1⟩
  cases hs : sLasso (aB A) e (aG A) (tq (aB A) e 0) with
  | inl k =>
    obtain ⟨k, w⟩ := k
    rw [hs] at hr
    obtain ⟨τ, u1, u2, u3, u4⟩ := hr
    obtain ⟨x1, x2⟩ := ff τ u4
    refine ⟨τ, x1, u1, ?_⟩
    obtain ⟨⟨t1, t2, t3, t4⟩, ⟨a1, a2, a3, a4, a5⟩, ⟨m1, m2, m3, m4, m5⟩, hs'⟩ := h
    obtain ⟨f1, f2, f3, f4, f5⟩ := x1
    have hV : ∀ a, vC τ a = vC σ a := fun a => by show τ.2.2.2.2.1 a = σ.2.2.2.2.1 a; rw [f5]
    have n : ∀ {a j : Nat}, a ≠ 0 → a ≠ 1 → a ≠ 6 → a ≠ 7 → vI (uI τ 0 10 4) a j = vI σ a j := fun h0 h1 h6 h7 => (vI_q (fun q => h0 q.1)).trans (f1 _ _ h1 h6 h7)
    refine ⟨⟨by show 0 ≤ 400; omega, x2, fun j hj => (n (by decide) (by decide) (by decide) (by decide)).trans (t3 j hj), (hV _).trans t4⟩, ⟨u2, rfl, fun _ => u3, fun c => absurd rfl c, (f1 0 11 (by decide) (by decide) (by decide)).trans a5⟩, ⟨m1, m2, (f1 0 9 (by decide) (by decide) (by decide)).trans m3, fun a ha => (hV _).trans (m4 a ha), fun a ha => ?_⟩, hs'.c rfl (fun j => n (by decide) (by decide) (by decide) (by decide)) (fun j => n (by decide) (by decide) (by decide) (by decide))⟩
    obtain ⟨n0, n1, n2, n3, n4, n5⟩ := m5 a ha
    exact ⟨n0, (n (by omega) (by omega) (by omega) (by omega)).trans n1, (n (by omega) (by omega) (by omega) (by omega)).trans n2, (n (by omega) (by omega) (by omega) (by omega)).trans n3, (n (by omega) (by omega) (by omega) (by omega)).trans n4, fun s f hs hf => (n (by omega) (by omega) (by omega) (by omega)).trans (n5 s f hs hf)⟩
  | inr z =>
    obtain ⟨u, v⟩ := z
    rw [hs] at hr
    obtain ⟨τ, u1, u2, u3, u4, u5, u6⟩ := hr
    obtain ⟨x1, x2⟩ := ff τ u6
    refine ⟨τ, x1, u1, ?_, u3, u4, u5⟩
    exact ⟨if aU A = 4 then vI τ 1 8 else -1, h.lz x1 x2 u2 (fun c => by rw [if_pos c]) (fun c => by rw [if_neg c])⟩
/-- what a call with a word gives: refused, or what comes behind the reading -/
theorem y_las {A : aS} {σ : sS} {F i : Nat} (hF : 402 < F) (h : C0 A σ) (hI : cI1 σ) (hi : i < aC A) (x : Int32) (f : aS → List Nat → List Nat → Int32 × aS) (kf : sS → Option (Int32 × sS)) (Q : sS → Prop) (hQ2 : ∀ τ, fL0 σ τ → ∀ u, Q (uI τ 0 10 u)) (hk : ∀ u v w τ, sp_las A x f = f (aLz A 0) u v → C0 (aLy A w) τ → fL0 σ τ → wdO (aG A) u v → cRw 6 u τ → cRw 7 v τ → v ≠ [] → ∃ υ, kf τ = some ((f (aLz A 0) u v).1, υ) ∧ C0 (f (aLz A 0) u v).2 υ ∧ Q υ) : ∃ υ, (bd2 (L_X11_refusalOfLasso F (27 + i) x σ) (fun rq10 σ11 => if rq10 = 0 then (kf σ11) else (bd2 (L_X11_refuse rq10 σ11) (fun rq20 σ21 => some ((rq20, σ21)))))) = some ((sp_las A x f).1, υ) ∧ C0 (sp_las A x f).2 υ ∧ Q υ := by
  have h400 := h.1.1
  unfold L_X11_refusalOfLasso
  rw [y_hold h]
  unfold sp_las at hk ⊢
  by_cases ha : aOk (aT A + 1) x = true
  · rw [if_pos ha] at hk
    rw [if_pos ha, if_pos ha, if_neg i1n0]
    obtain ⟨e, he, rfl⟩ := aOk_t ha (by omega)
    rw [nI_clamp (by omega)] at hk ⊢
    simp only [bnd_s]
    obtain ⟨τ, t1, t2⟩ := y_open hF h hI hi (by omega : e ≤ aT A)
    cases hs : sLasso (aB A) e (aG A) (tq (aB A) e 0) with
    | inl k =>
      obtain ⟨k, w⟩ := k
      rw [hs] at t2
      obtain ⟨u1, u2⟩ := t2
      rw [u1, bd2_s, if_pos rfl, bd2_s, if_neg (by decide)]
      exact ⟨_, rfl, u2, hQ2 τ t1 4⟩
    | inr z =>
      obtain ⟨u, v⟩ := z
      rw [hs] at t2 hk
      obtain ⟨u1, ⟨w, u2⟩, u3, u4, u5⟩ := t2
      rw [u1, bd2_s, if_neg i1n0, bd2_s, if_pos rfl]
      exact hk u v w τ rfl u2 t1 (sLasso_ok hs) u3 u4 u5
  · rw [if_neg ha, if_neg ha, if_pos rfl, bd2_s, if_neg (by decide)]
    exact ⟨_, rfl, h.ans (by decide), hQ2 σ ⟨fun _ _ _ _ _ => rfl, fun _ _ _ => rfl, rfl, rfl, rfl⟩ 2⟩
theorem y_al {A : aS} {σ : sS} {i r G : Nat} {u : List Nat} (h : C0 A σ) (hi : i < aC A) (hu : cRw r u σ) (hG : ∀ x ∈ u, x < G) (hG3 : G ≤ 3) : ∀ (n j t : Nat), j + n = u.length → t < 2 ^ mN (aMa A i) → a_al σ (27 + i) r (mN (aMa A i)) n j (nI t) = nI (aloN (aMa A i) u n j t) := by
  have hm := (h.m hi).1
  have hb := b_pw _ hm.2.1
  have h4 := hm.2.1
  intro n
  induction n with
  | zero => intro j t hj ht; rfl
  | succ n ih =>
    intro j t hj ht
    have := hu.1
    have hc := gD_lt hG (j := j) (by omega)
    rw [a_al, rg_nI (by omega), hu.2.2.2 j (by omega), y_rc h hi (by omega) (by omega) _ h4, aloN]
    have e : aftN (aMa A i) t (u.getD j 0) (mN (aMa A i)) = aft (aMa A i) t (u.getD j 0) := by
      unfold aft
      rw [aftN_N hm ht 4 h4 (by omega)]
    rw [e]
    exact ih (j + 1) _ (by omega) (aft_lt hm _ _)
theorem y_along {A : aS} {σ : sS} {i r G t : Nat} {u : List Nat} (h : C0 A σ) (hi : i < aC A) (hu : cRw r u σ) (hG : ∀ x ∈ u, x < G) (hG3 : G ≤ 3) (ht : t < 2 ^ mN (aMa A i)) : L_X0_reachAlong (27 + i) (nI t) r σ = some (nI (alo (aMa A i) u t)) := by
  have hm := (h.m hi).1
  have h4 := hm.2.1
  have h10 := hu.1
  unfold L_X0_reachAlong clm
  rw [(h.m hi).2.1, hu.2.1, nI_clamp (by omega), nI_clamp (by omega), decide_eq_true (nI_pos' (show mN (aMa A i) < 2 ^ 31 by omega)), decide_eq_true (nI_pos' (show u.length < 2 ^ 31 by omega)), decide_eq_true h4, decide_eq_true (show u.length ≤ 100000 by omega), y_al h hi hu hG hG3 _ _ _ (by omega) ht]
  rfl
theorem y_f76 {A : aS} {σ : sS} {F i G m : Nat} {v : List Nat} (h : C0 A σ) (hi : i < aC A) (hu : cRw 7 v σ) (hG : ∀ x ∈ v, x < G) (hG3 : G ≤ 3) (hm20 : m ≤ 20) (kx : Int32 → Option (Int32 × sS)) : ∀ (n j f t : Nat), j + n = m → n < f → t < 2 ^ mN (aMa A i) → L_X11_follows_76 F (27 + i) (nI m) σ kx f (nI t) (nI j) = kx (nI (alr (aMa A i) v n t)) := by
  have hm := (h.m hi).1
  intro n
  induction n with
  | zero =>
    intro j f t hj hf ht
    obtain ⟨f, rfl⟩ : ∃ g, f = g + 1 := ⟨f - 1, by omega⟩
    rw [L_X11_follows_76, if_pos (nI_le (by omega) (by omega))]
    rfl
  | succ n ih =>
    intro j f t hj hf ht
    obtain ⟨f, rfl⟩ : ∃ g, f = g + 1 := ⟨f - 1, by omega⟩
    rw [L_X11_follows_76, if_neg (nI_ge (by omega) (by omega)), y_along h hi hu hG hG3 ht, bd_s, nI_1]
    exact ih (j + 1) f _ (by omega) (by omega) (aloN_lt hm _ _ _ _ ht)
/-- only the tape's fields, the word's rows and the trouble are touched -/
def fL1 (σ τ : sS) : Prop := ∃ υ u, fL0 σ υ ∧ τ = uI υ 0 10 u
theorem y_follows {A : aS} {σ : sS} {F : Nat} (hF : 402 < F) (h : C0 A σ) (hI : cI1 σ) (a n x : Int32) : ∃ τ, L_X11_follows F a n x σ = some ((sp_follows A a n x).1, τ) ∧ C0 (sp_follows A a n x).2 τ ∧ fL1 σ τ := by
  have h3 := h.c.1
  have f0 : fL0 σ σ := ⟨fun _ _ _ _ _ => rfl, fun _ _ _ => rfl, rfl, rfl, rfl⟩
  unfold L_X11_follows sp_follows
  rw [y_at h]
  by_cases ha : aOk (aC A) a = true
  · obtain ⟨i, hi, rfl⟩ := aOk_t ha (by omega)
    rw [if_pos ha, if_pos ha]
    simp only [bnd_s]
    rw [nI_clamp (by omega), isAu_n (by omega), grd_s]
    by_cases h0 : n < 0
    · rw [if_pos h0, if_neg (show ¬ aOk 21 n = true by simp [aOk, Int32.not_le.mpr h0])]
      exact ⟨_, rfl, h.ans (by decide), σ, _, f0, rfl⟩
    · rw [if_neg h0]
      by_cases h20 : n ≤ 20
      · have hn : aOk 21 n = true := by
          obtain ⟨j, hj, rfl⟩ := nI_of h0
          have : j ≤ 20 := by
            rcases Nat.lt_or_ge 20 j with c | c
            · exact absurd h20 (show ¬ nI j ≤ nI 20 from nI_ge c (by omega))
            · exact c
          simp [aOk, nI_pos' hj]
          exact nI_lt (by omega) (by omega)
        obtain ⟨m, hm, rfl⟩ := aOk_t hn (by omega)
        rw [if_pos h20, if_pos hn, nI_clamp (by omega)]
        refine y_las hF h hI hi x _ (fun σ11 => bd (L_X0_reachAlong (27 + i) (vI σ11 (27 + i) 3) 6 σ11) (fun rq14 => L_X11_follows_76 F (27 + i) (nI m) σ11 (fun yq15 => bd2 (L_X11_answer yq15 σ11) (fun rq17 σ18 => some (rq17, σ18))) F rq14 0)) (fL1 σ) (fun τ hτ u => ⟨τ, u, hτ, rfl⟩) (fun u v w τ _ hC hf hw c6 c7 hv => ?_)
        have hi' : i < aC (aLy A w) := hi
        have hmo := (hC.m hi').1
        have hB := hmo.2.2.1
        rw [(hC.m hi').2.2.2.1, y_along hC hi' c6 hw.1 h.c.2 hB, bd_s]
        have e2 := y_f76 (F := F) hC hi' c7 hw.2.2.1 h.c.2 (by omega : m ≤ 20) (fun yq15 => bd2 (L_X11_answer yq15 τ) (fun rq17 σ18 => some (rq17, σ18))) m 0 F _ (by omega) (by omega) (aloN_lt hmo u u.length 0 _ hB)
        exact ⟨uI τ 0 10 0, e2, hC.ans (by decide), τ, _, hf, rfl⟩
      · rw [if_neg h20, if_neg (show ¬ aOk 21 n = true by
          intro c
          obtain ⟨m, hm, rfl⟩ := aOk_t c (by omega)
          exact h20 (show nI m ≤ nI 20 from nI_le (by omega) (by omega)))]
        exact ⟨_, rfl, h.ans (by decide), σ, _, f0, rfl⟩
  · rw [if_neg ha, if_neg ha]
    exact ⟨_, rfl, h.ans (by decide), σ, _, f0, rfl⟩
