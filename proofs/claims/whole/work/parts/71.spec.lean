/-! THE PURE PART: what both halves of the state stand for -/
/-- an automaton: how many states, the beginning ones, the final ones (bits), where its edges go (letter, state) -/
abbrev aM : Type := Nat × Nat × Nat × (Nat → Nat → Nat)
def mN (M : aM) : Nat := M.1
def mB (M : aM) : Nat := M.2.1
def mF (M : aM) : Nat := M.2.2.1
def mE (M : aM) : Nat → Nat → Nat := M.2.2.2
def mOk (G : Nat) (M : aM) : Prop := 1 ≤ mN M ∧ mN M ≤ 4 ∧ mB M < 2 ^ mN M ∧ mF M < 2 ^ mN M ∧ (∀ s f, mE M s f < 2 ^ mN M) ∧ ∀ s f, (G ≤ s ∨ mN M ≤ f) → mE M s f = 0
/-- tape; fault, trouble, where; how many automata, letters, the automata; the word shown, the threes met -/
abbrev aS : Type := (Nat × (Nat → Int32)) × (Int32 × Int32 × Int32) × (Nat × Nat × (Nat → aM)) × (Option (List Nat × List Nat) × Int32)
def aT (A : aS) : Nat := A.1.1
def aB (A : aS) : Nat → Int32 := A.1.2
def aF (A : aS) : Int32 := A.2.1.1
def aU (A : aS) : Int32 := A.2.1.2.1
def aW (A : aS) : Int32 := A.2.1.2.2
def aC (A : aS) : Nat := A.2.2.1.1
def aG (A : aS) : Nat := A.2.2.1.2.1
def aMa (A : aS) : Nat → aM := A.2.2.1.2.2
def aSh (A : aS) : Option (List Nat × List Nat) := A.2.2.2.1
def aTh (A : aS) : Int32 := A.2.2.2.2
def sAns (A : aS) (u w : Int32) : aS := (A.1, (aF A, u, w), A.2.2)
def aGood (A : aS) (v : Int32) : Int32 × aS := (v, sAns A 0 (-1))
def aRef (A : aS) (w : Int32) : Int32 × aS := (-1, sAns A w (-1))
theorem vI_u {σ : sS} {a k b j : Nat} {x : Int32} : vI (uI σ a k x) b j = if b = a ∧ j = k then x else vI σ b j := rfl
theorem vI_uL {σ : sS} {a k b j : Nat} {x : Int64} : vI (uL σ a k x) b j = vI σ b j := rfl
/-! the reference's half -/
def rT (A : aS) (σ : sS) : Prop := aT A ≤ 400 ∧ vI σ 90 4 = nI (aT A) ∧ ∀ j, j < 400 → vI σ 103 j = aB A j
def rA (A : aS) (σ : sS) : Prop := vI σ 90 7 = aF A ∧ vI σ 90 1 = aU A ∧ vI σ 90 2 = aW A ∧ vI σ 90 70 = aTh A
def rMa (G : Nat) (M : aM) (σ : sS) (a : Nat) : Prop := mOk G M ∧ vI σ 114 a = nI (mN M) ∧ vI σ 115 a = nI (mB M) ∧ vI σ 116 a = nI (mF M) ∧ ∀ s f, s < 4 → f < 4 → vI σ 117 (16 * a + 4 * s + f) = nI (mE M s f)
def rM (A : aS) (σ : sS) : Prop := aC A ≤ 3 ∧ aG A ≤ 3 ∧ vI σ 90 20 = nI (aC A) ∧ vI σ 90 19 = nI (aG A) ∧ ∀ a, a < aC A → rMa (aG A) (aMa A a) σ a
def rS (A : aS) (σ : sS) : Prop := match aSh A with
  | none => vI σ 90 71 = 0
  | some w => vI σ 90 71 = 1 ∧ w.1.length ≤ 1000 ∧ w.2.length ≤ 1001 ∧ vI σ 90 68 = nI w.1.length ∧ vI σ 90 69 = nI w.2.length ∧ (∀ j, j < w.1.length → vI σ 166 j = nI (w.1.getD j 0)) ∧ ∀ j, j < w.2.length → vI σ 167 j = nI (w.2.getD j 0)
def R0 (A : aS) (σ : sS) : Prop := rT A σ ∧ rA A σ ∧ rM A σ ∧ rS A σ
def uM : List Nat := [103, 114, 115, 116, 117, 166, 167]
def uK : List Nat := [1, 2, 4, 7, 19, 20, 68, 69, 70, 71]
theorem fm.f {M K : List Nat} {σ τ : sS} (f : fm M K σ τ) {k : Nat} (h : k ∉ K) (h9 : 90 ∉ M) : vI τ 90 k = vI σ 90 k := f.1 90 k h9 (fun _ => h)
theorem fm.r {M K : List Nat} {σ τ : sS} (f : fm M K σ τ) {a j : Nat} (h : a ∉ M) (h9 : a ≠ 90) : vI τ a j = vI σ a j := f.1 a j h (fun e => absurd e h9)
/-- what only other rows and fields see leaves the picture alone -/
theorem R0.keep {A : aS} {M K : List Nat} {σ τ : sS} (h : R0 A σ) (f : fm M K σ τ) (hM : ∀ x ∈ uM, x ∉ M) (h9 : 90 ∉ M) (hK : ∀ k ∈ uK, k ∉ K) : R0 A τ := by
  obtain ⟨⟨t1, t2, t3⟩, ⟨a1, a2, a3, a4⟩, ⟨m1, m2, m3, m4, m5⟩, hs⟩ := h
  have k : ∀ {i : Nat}, i ∈ uK → vI τ 90 i = vI σ 90 i := fun hi => f.f (hK _ hi) h9
  have r : ∀ {a j : Nat}, a ∈ uM → a ≠ 90 → vI τ a j = vI σ a j := fun ha h => f.r (hM _ ha) h
  refine ⟨⟨t1, (k (by decide)).trans t2, fun j hj => (r (by decide) (by decide)).trans (t3 j hj)⟩, ⟨(k (by decide)).trans a1, (k (by decide)).trans a2, (k (by decide)).trans a3, (k (by decide)).trans a4⟩, ⟨m1, m2, (k (by decide)).trans m3, (k (by decide)).trans m4, fun a ha => ?_⟩, ?_⟩
  · obtain ⟨n0, n1, n2, n3, n4⟩ := m5 a ha
    exact ⟨n0, (r (by decide) (by decide)).trans n1, (r (by decide) (by decide)).trans n2, (r (by decide) (by decide)).trans n3, fun s f hs hf => (r (by decide) (by decide)).trans (n4 s f hs hf)⟩
  · unfold rS at hs ⊢
    cases hq : aSh A with
    | none =>
      rw [hq] at hs
      exact (k (by decide)).trans hs
    | some w =>
      rw [hq] at hs
      obtain ⟨s1, s2, s3, s4, s5, s6, s7⟩ := hs
      exact ⟨(k (by decide)).trans s1, s2, s3, (k (by decide)).trans s4, (k (by decide)).trans s5, fun j hj => (r (by decide) (by decide)).trans (s6 j hj), fun j hj => (r (by decide) (by decide)).trans (s7 j hj)⟩
theorem R0.set {A : aS} {σ : sS} (h : R0 A σ) {k : Nat} {x : Int32} (hk : ∀ i ∈ uK, i ≠ k) : R0 A (uI σ 90 k x) :=
  h.keep (M := []) (K := [k]) (fm.uI (Or.inr ⟨rfl, List.mem_singleton.mpr rfl⟩)) (fun _ _ h => nomatch h) (fun h => nomatch h) (fun i hi h => hk i hi (List.mem_singleton.mp h))
/-- trouble and where are set -/
theorem R0.ans {A : aS} {σ : sS} (h : R0 A σ) (u w : Int32) : R0 (sAns A u w) (uI (uI σ 90 1 u) 90 2 w) := by
  obtain ⟨⟨t1, t2, t3⟩, ⟨a1, a2, a3, a4⟩, ⟨m1, m2, m3, m4, m5⟩, hs⟩ := h
  refine ⟨⟨t1, t2, t3⟩, ⟨a1, rfl, rfl, a4⟩, ⟨m1, m2, m3, m4, m5⟩, ?_⟩
  unfold rS at hs ⊢
  show match aSh A with
    | none => vI σ 90 71 = 0
    | some w => _
  cases hq : aSh A with
  | none => rw [hq] at hs; exact hs
  | some w => rw [hq] at hs; exact hs
theorem x_good {A : aS} {σ : sS} (h : R0 A σ) (v : Int32) : L_X12_good v σ = some (v, uI (uI σ 90 1 0) 90 2 (-1)) ∧ R0 (sAns A 0 (-1)) (uI (uI σ 90 1 0) 90 2 (-1)) := ⟨rfl, h.ans 0 (-1)⟩
theorem x_refused {A : aS} {σ : sS} (h : R0 A σ) (w : Int32) : L_X12_refused w σ = some (-1, uI (uI σ 90 1 w) 90 2 (-1)) ∧ R0 (sAns A w (-1)) (uI (uI σ 90 1 w) 90 2 (-1)) := ⟨rfl, h.ans w (-1)⟩
/-! numbers -/
theorem i_lt {x y : Int32} : x < y ↔ x.toInt < y.toInt := Int32.lt_iff_toInt_lt
theorem i_le {x y : Int32} : x ≤ y ↔ x.toInt ≤ y.toInt := Int32.le_iff_toInt_le
theorem i_ex {x : Int32} {n : Nat} (hn : n < 2 ^ 31) : (∃ i, i < n ∧ x = nI i) ↔ ¬ x < 0 ∧ x < nI n := by
  constructor
  · rintro ⟨i, hi, rfl⟩
    exact ⟨nI_pos (by omega), nI_lt hi hn⟩
  · rintro ⟨h1, h2⟩
    obtain ⟨j, hj, rfl⟩ := nI_of h1
    exact ⟨j, (nI_ltI hj hn).mp h2, rfl⟩
theorem i_pre {x : Int32} {n : Nat} (hn : n < 2 ^ 31) (hx : ¬ x < 0) : nI n - 1 < x ↔ ¬ x < nI n := by
  obtain ⟨j, hj, rfl⟩ := nI_of hx
  cases n with
  | zero =>
    have e : nI 0 - 1 = (-1 : Int32) := by decide
    rw [e]
    constructor
    · intro _ h
      have := (nI_ltI hj (by omega)).mp h
      omega
    · intro _
      rw [i_lt, nI_toInt hj]
      have e1 : (-1 : Int32).toInt = -1 := by decide
      rw [e1]
      omega
  | succ n => rw [nI_pred, nI_ltI (by omega) hj, nI_ltI hj hn]; omega
/-- 'in' over 0 .. n - 1 -/
theorem x_in {x : Int32} {n : Nat} (hn : n < 2 ^ 31) : L_X12_in x 0 (nI n - 1) = if x < 0 then 0 else if x < nI n then 1 else 0 := by
  unfold L_X12_in
  by_cases h : x < 0
  · rw [if_pos h, if_pos h]
  · rw [if_neg h, if_neg h]
    by_cases h2 : x < nI n
    · rw [if_neg (fun q => (i_pre hn h).mp q h2), if_pos h2]
    · rw [if_pos ((i_pre hn h).mpr h2), if_neg h2]
def aOk (n : Nat) (x : Int32) : Bool := decide (0 ≤ x) && decide (x < nI n)
theorem aOk_t {n : Nat} {x : Int32} (h : aOk n x = true) (hn : n < 2 ^ 31) : ∃ i, i < n ∧ x = nI i := by
  obtain ⟨h1, h2⟩ := Bool.and_eq_true_iff.mp h
  exact (i_ex hn).mpr ⟨Int32.not_lt.mpr (of_decide_eq_true h1), of_decide_eq_true h2⟩
theorem x_inA {x : Int32} {n : Nat} (hn : n < 2 ^ 31) : L_X12_in x 0 (nI n - 1) = if aOk n x = true then 1 else 0 := by
  rw [x_in hn]
  by_cases h : x < 0
  · rw [if_pos h, if_neg]
    intro q
    exact absurd (of_decide_eq_true (Bool.and_eq_true_iff.mp q).1) (Int32.not_le.mpr h)
  · rw [if_neg h]
    by_cases h2 : x < nI n
    · rw [if_pos h2, if_pos (by simp [aOk, Int32.not_lt.mp h, h2])]
    · rw [if_neg h2, if_neg (by simp [aOk, h2])]
theorem x_isAuto {A : aS} {σ : sS} (h : R0 A σ) (x : Int32) : L_X12_isAuto x σ = some (if aOk (aC A) x = true then 1 else 0) := by
  obtain ⟨-, -, ⟨m1, m2, m3, m4, m5⟩, -⟩ := h
  unfold L_X12_isAuto
  rw [m3, x_inA (by omega)]
  split <;> rfl
theorem x_isLetter {A : aS} {σ : sS} (h : R0 A σ) (x : Int32) : L_X12_isLetter x σ = some (if aOk (aG A) x = true then 1 else 0) := by
  obtain ⟨-, -, ⟨m1, m2, m3, m4, m5⟩, -⟩ := h
  unfold L_X12_isLetter
  rw [m4, x_inA (by omega)]
  split <;> rfl
theorem inb_n {i n : Nat} (h : i < n) (hn : i < 2 ^ 31) : inb (nI i) n = true := by simp [inb, nI_pos' hn, nI_clamp hn, h]
/-- is x a state of automaton i? -/
theorem x_isState {A : aS} {σ : sS} (h : R0 A σ) (x s : Int32) : L_X12_isState x s σ = some (if aOk (aC A) x = true ∧ aOk (mN (aMa A x.toNatClampNeg)) s = true then 1 else 0) := by
  unfold L_X12_isState
  rw [x_isAuto h]
  obtain ⟨-, -, ⟨m1, m2, m3, m4, m5⟩, -⟩ := h
  show (if (if aOk (aC A) x = true then (1 : Int32) else 0) = 0 then _ else _) = _
  by_cases hx : aOk (aC A) x = true
  · rw [if_pos hx, if_neg (by decide)]
    obtain ⟨i, hi, rfl⟩ := aOk_t hx (by omega)
    obtain ⟨n0, n1, n2, n3, n4⟩ := m5 i hi
    have h4 := n0.2.1
    rw [inb_n (by omega) (by omega), nI_clamp (by omega), n1, x_inA (by omega)]
    show (if (if aOk (mN (aMa A i)) s = true then (1 : Int32) else 0) = 0 then _ else _) = _
    by_cases hs : aOk (mN (aMa A i)) s = true
    · rw [if_pos hs, if_neg (by decide), if_pos ⟨hx, hs⟩]
    · rw [if_neg hs, if_pos rfl, if_neg (fun q => hs q.2)]
  · rw [if_neg hx, if_pos rfl, if_neg (fun q => hx q.1)]
