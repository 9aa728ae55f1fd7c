/-! the component's half; its small calls -/
def cT (A : aS) (σ : sS) : Prop := aT A ≤ 400 ∧ vI σ 1 3 = nI (aT A) ∧ (∀ j, j < 400 → vI σ 2 j = aB A j) ∧ vC σ 2 = 400
def cA (A : aS) (σ : sS) : Prop := vI σ 1 7 = aF A ∧ vI σ 0 10 = aU A ∧ (aU A = 4 → vI σ 1 8 = aW A) ∧ (aU A ≠ 4 → aW A = -1) ∧ vI σ 0 11 = aTh A
def cMa (G : Nat) (M : aM) (σ : sS) (a : Nat) : Prop := mOk G M ∧ vI σ (27 + a) 1 = nI (mN M) ∧ vI σ (27 + a) 2 = nI G ∧ vI σ (27 + a) 3 = nI (mB M) ∧ vI σ (27 + a) 4 = nI (mF M) ∧ ∀ s f, s < 3 → f < 4 → vI σ (30 + a) (s * 4 + f) = nI (mE M s f)
def cM (A : aS) (σ : sS) : Prop := aC A ≤ 3 ∧ aG A ≤ 3 ∧ vI σ 0 9 = nI (aC A) ∧ (∀ a, a < 3 → vC σ (30 + a) = 12) ∧ ∀ a, a < aC A → cMa (aG A) (aMa A a) σ a
def cS0 (A : aS) (σ : sS) : Prop := match aSh A with
  | none => vI σ 56 6 = 0
  | some w => vI σ 56 6 = 1 ∧ w.1.length ≤ 1000 ∧ w.2.length ≤ 1001 ∧ vI σ 56 7 = nI w.1.length ∧ vI σ 56 8 = nI w.2.length ∧ ∀ j, j < w.1.length + w.2.length → vI σ 61 j = nI ((w.1 ++ w.2).getD j 0)
def C0 (A : aS) (σ : sS) : Prop := cT A σ ∧ cA A σ ∧ cM A σ ∧ cS0 A σ
theorem C0.m {A : aS} {σ : sS} (h : C0 A σ) {i : Nat} (hi : i < aC A) : cMa (aG A) (aMa A i) σ i := h.2.2.1.2.2.2.2 i hi
theorem C0.c {A : aS} {σ : sS} (h : C0 A σ) : aC A ≤ 3 ∧ aG A ≤ 3 := ⟨h.2.2.1.1, h.2.2.1.2.1⟩
theorem C0.ans {A : aS} {σ : sS} (h : C0 A σ) {u : Int32} (hu : u ≠ 4) : C0 (sAns A u (-1)) (uI σ 0 10 u) := by
  obtain ⟨⟨t1, t2, t3, t4⟩, ⟨a1, a2, a3, a4, a5⟩, ⟨m1, m2, m3, m4, m5⟩, hs⟩ := h
  refine ⟨⟨t1, t2, t3, t4⟩, ⟨a1, rfl, fun q => absurd q hu, fun _ => rfl, a5⟩, ⟨m1, m2, m3, m4, fun a ha => ?_⟩, hs⟩
  obtain ⟨n0, n1, n2, n3, n4, n5⟩ := m5 a ha
  have q : ∀ {b j : Nat}, vI (uI σ 0 10 u) (27 + b) j = vI σ (27 + b) j := fun {b j} => by rw [vI_u, if_neg (fun q => by have := q.1; omega)]
  have q2 : ∀ {b j : Nat}, vI (uI σ 0 10 u) (30 + b) j = vI σ (30 + b) j := fun {b j} => by rw [vI_u, if_neg (fun q => by have := q.1; omega)]
  exact ⟨n0, q.trans n1, q.trans n2, q.trans n3, q.trans n4, fun s f hs hf => q2.trans (n5 s f hs hf)⟩
theorem y_goodR {A : aS} {σ : sS} (h : C0 A σ) (v : Int32) : ∃ τ, (bd2 (L_X11_answer v σ) (fun r t => some (r, t))) = some ((aGood A v).1, τ) ∧ C0 (aGood A v).2 τ ∧ τ = uI σ 0 10 0 := ⟨_, rfl, h.ans (by decide), rfl⟩
theorem y_refR {A : aS} {σ : sS} (h : C0 A σ) (w : Int32) (hw : w ≠ 4) : ∃ τ, (bd2 (L_X11_refuse w σ) (fun r t => some (r, t))) = some ((aRef A w).1, τ) ∧ C0 (aRef A w).2 τ ∧ τ = uI σ 0 10 w := ⟨_, rfl, h.ans hw, rfl⟩
theorem y_at {A : aS} {σ : sS} (h : C0 A σ) (x : Int32) : q_at σ x = aOk (aC A) x := by
  have h3 := h.c.1
  unfold q_at aOk
  rw [h.2.2.1.2.2.1]
  by_cases h0 : (0 : Int32) ≤ x
  · obtain ⟨j, hj, rfl⟩ := nI_of (Int32.not_lt.mpr h0)
    have e1 : decide (nI j < nI (aC A)) = decide (j < aC A) := decide_eq_decide.mpr (nI_ltI hj (by omega))
    have e2 : decide (nI j < (3 : Int32)) = decide (j < 3) := decide_eq_decide.mpr (nI_ltI (b := 3) hj (by decide))
    rw [e1, e2]
    by_cases hc : j < aC A
    · have : j < 3 := by omega
      simp [hc, this]
    · simp [hc]
  · simp [h0]
theorem y_hs {A : aS} {σ : sS} (h : C0 A σ) {i : Nat} (hi : i < aC A) (s : Int32) : a_hs σ (27 + i) s = if aOk (mN (aMa A i)) s = true then 1 else 0 := by
  have hm := h.m hi
  have h4 := hm.1.2.1
  unfold a_hs aOk
  rw [hm.2.1]
  by_cases h0 : s < 0
  · rw [if_pos h0, if_neg (by simp [Int32.not_le.mpr h0])]
  · rw [if_neg h0]
    by_cases h1 : nI (mN (aMa A i)) ≤ s
    · rw [if_pos h1, if_neg (by simp [Int32.not_lt.mpr h1])]
    · rw [if_neg h1, if_pos (by simp [Int32.not_lt.mp h0, Int32.not_le.mp h1])]
theorem y_hg {A : aS} {σ : sS} (h : C0 A σ) {i : Nat} (hi : i < aC A) (s : Int32) : a_hg σ (27 + i) s = if aOk (aG A) s = true then 1 else 0 := by
  have hm := h.m hi
  unfold a_hg aOk
  rw [hm.2.2.1]
  by_cases h0 : s < 0
  · rw [if_pos h0, if_neg (by simp [Int32.not_le.mpr h0])]
  · rw [if_neg h0]
    by_cases h1 : nI (aG A) ≤ s
    · rw [if_pos h1, if_neg (by simp [Int32.not_lt.mpr h1])]
    · rw [if_neg h1, if_pos (by simp [Int32.not_lt.mp h0, Int32.not_le.mp h1])]
theorem y_ht {A : aS} {σ : sS} (h : C0 A σ) {i : Nat} (hi : i < aC A) (s : Int32) : a_ht σ (27 + i) s = if aOk (2 ^ mN (aMa A i)) s = true then 1 else 0 := by
  have hm := h.m hi
  unfold a_ht aOk
  rw [hm.2.1, b_sh _ hm.1.2.1]
  by_cases h0 : s < 0
  · rw [if_pos h0, if_neg (by simp [Int32.not_le.mpr h0])]
  · rw [if_neg h0]
    by_cases h1 : nI (2 ^ mN (aMa A i)) ≤ s
    · rw [if_pos h1, if_neg (by simp [Int32.not_lt.mpr h1])]
    · rw [if_neg h1, if_pos (by simp [Int32.not_lt.mp h0, Int32.not_le.mp h1])]
theorem y_ar {A : aS} {σ : sS} (h : C0 A σ) {i c f : Nat} (hi : i < aC A) (hc : c < 3) (hf : f < 4) : a_ar σ (27 + i) (nI f) (nI c) = nI (mE (aMa A i) c f) := by
  unfold a_ar
  have e : nI c * 4 + nI f = nI (c * 4 + f) := by rw [show (4 : Int32) = nI 4 from rfl, nI_mul, nI_add]
  rw [e, rg_nI (by omega), show 27 + i + 3 = 30 + i by omega]
  exact (h.m hi).2.2.2.2.2 c f hc hf
theorem y_in {x s : Nat} (hx : x < 16) (hs : s < 4) : q_in (nI s) (nI x) = if x.testBit s then 1 else 0 := by
  unfold q_in
  rw [b_tb x hx s hs]
  by_cases h : x.testBit s = true
  · rw [if_pos h, if_neg i1n0]
  · rw [if_neg h, if_pos rfl]
theorem isAu_n {i : Nat} (h : i < 3) : isAu (27 + i) = true := (by decide +kernel : ∀ i, i < 3 → isAu (27 + i) = true) i h
theorem isCo_n {i : Nat} (h : i < 3) : isCo (33 + i) = true := (by decide +kernel : ∀ i, i < 3 → isCo (33 + i) = true) i h
theorem grd_s {β : Type} {a : Option β} : grd true a = a := rfl
/-- how many edges -/
theorem ecn_12 {G : Nat} {M : aM} (h : mOk G M) (hG : G ≤ 3) : ecn M 16 = ecn M 12 := by
  have e : ∀ f, mE M 3 f = 0 := fun f => h.2.2.2.2.2 3 f (Or.inl hG)
  have z : pc4 0 = 0 := by decide
  show ecn M 12 + pc4 (mE M 3 0) + pc4 (mE M 3 1) + pc4 (mE M 3 2) + pc4 (mE M 3 3) = _
  rw [e, e, e, e, z]
  rfl
theorem y_ct {A : aS} {σ : sS} (h : C0 A σ) {i : Nat} (hi : i < aC A) : a_ct σ (27 + i) = nI (ecn (aMa A i) 16) := by
  have hm := h.m hi
  have h3 := h.c.2
  have g : ∀ k : Nat, k < 12 → bc (rg σ (27 + i + 3) (nI k)) = nI (pc4 (mE (aMa A i) (k / 4) (k % 4))) := by
    intro k hk
    rw [rg_nI (by omega), show 27 + i + 3 = 30 + i by omega, show k = k / 4 * 4 + k % 4 by omega, hm.2.2.2.2.2 (k / 4) (k % 4) (by omega) (by omega), b_pc _ (hm.1.b.2.2 _ _)]
    rw [show (k / 4 * 4 + k % 4) / 4 = k / 4 by omega, show (k / 4 * 4 + k % 4) % 4 = k % 4 by omega]
  rw [ecn_12 hm.1 h3]
  have s : ∀ k : Nat, k < 12 → nI (ecn (aMa A i) k) + bc (rg σ (27 + i + 3) (nI k)) = nI (ecn (aMa A i) (k + 1)) := by
    intro k hk
    rw [g k hk, nI_add]
    rfl
  unfold a_ct
  rw [show (0 : Int32) = nI (ecn (aMa A i) 0) from rfl]
  rw [show rg σ (27 + i + 3) (nI (ecn (aMa A i) 0)) = rg σ (27 + i + 3) (nI 0) from rfl, s 0 (by decide)]
  rw [show (1 : Int32) = nI 1 from rfl, s 1 (by decide), show (2 : Int32) = nI 2 from rfl, s 2 (by decide), show (3 : Int32) = nI 3 from rfl, s 3 (by decide), show (4 : Int32) = nI 4 from rfl, s 4 (by decide), show (5 : Int32) = nI 5 from rfl, s 5 (by decide), show (6 : Int32) = nI 6 from rfl, s 6 (by decide), show (7 : Int32) = nI 7 from rfl, s 7 (by decide), show (8 : Int32) = nI 8 from rfl, s 8 (by decide), show (9 : Int32) = nI 9 from rfl, s 9 (by decide), show (10 : Int32) = nI 10 from rfl, s 10 (by decide), show (11 : Int32) = nI 11 from rfl, s 11 (by decide)]
/-- where a set goes -/
theorem y_rc {A : aS} {σ : sS} (h : C0 A σ) {i t c : Nat} (hi : i < aC A) (ht : t < 16) (hc : c < 3) : ∀ n, n ≤ 4 → a_rc σ (27 + i) (nI t) (nI c) n = nI (aftN (aMa A i) t c n) := by
  have hm := (h.m hi).1
  have hb := b_pw _ hm.2.1
  intro n
  induction n with
  | zero => intro _; rfl
  | succ n ih =>
    intro hn
    unfold a_rc aftN
    rw [y_in ht (by omega), ih (by omega), y_ar h hi hc (by omega)]
    by_cases hbit : t.testBit n = true
    · rw [if_pos hbit, if_neg i1n0, if_pos hbit]
      exact b_or _ (by have := aftN_lt hm t c n; omega) _ (hm.b.2.2 c n)
    · rw [if_neg hbit, if_pos rfl, if_neg hbit]
/-- a set's own bits are enough -/
theorem aftN_N {G : Nat} {M : aM} (h : mOk G M) {t c : Nat} (ht : t < 2 ^ mN M) : ∀ n, mN M ≤ n → n ≤ 4 → aftN M t c n = aftN M t c (mN M) := by
  intro n
  induction n with
  | zero => intro h1 _; rw [show mN M = 0 by omega]
  | succ n ih =>
    intro h1 h2
    by_cases e : mN M = n + 1
    · rw [e]
    · have hz : t.testBit n = false := Nat.testBit_lt_two_pow (Nat.lt_of_lt_of_le ht (Nat.pow_le_pow_right (by decide) (by omega)))
      rw [← ih (by omega) (by omega)]
      show (if t.testBit n = true then _ else _) = _
      rw [if_neg (by rw [hz]; decide)]
theorem y_reach {A : aS} {σ : sS} (h : C0 A σ) {i t c : Nat} (hi : i < aC A) (ht : t < 2 ^ mN (aMa A i)) (hc : c < 3) : L_X0_reach (27 + i) (nI t) (nI c) σ = some (nI (aft (aMa A i) t c)) := by
  have hm := (h.m hi).1
  have hb := b_pw _ hm.2.1
  have h4 := hm.2.1
  unfold L_X0_reach clm
  rw [(h.m hi).2.1, nI_clamp (by omega), decide_eq_true (nI_pos' (by omega)), decide_eq_true h4, y_rc h hi (by omega) hc _ h4]
  unfold aft
  rw [aftN_N hm ht 4 h4 (by omega)]
  rfl
