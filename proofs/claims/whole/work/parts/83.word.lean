/-! words: their numbers tell them apart -/
theorem scn_all {P : Nat → Bool} {e : Nat} : ∀ (n p : Nat), p + n = e → ∀ j, p ≤ j → j < scn P e p → P j = true := by
  intro n
  induction n with
  | zero =>
    intro p hp j h1 h2
    rw [scn_stop (by omega)] at h2
    omega
  | succ n ih =>
    intro p hp j h1 h2
    by_cases h : P p = true
    · rw [scn_go (by omega) h] at h2
      by_cases hj : j = p
      · rw [hj]; exact h
      · exact ih (p + 1) (by omega) j (by omega) h2
    · rw [scn_stop (fun q => h q.2)] at h2
      omega
/-- n small letters from q on -/
def smA (b : Nat → Int32) (q n : Nat) : Prop := ∀ j, j < n → kSm b (q + j) = true
def wN (b : Nat → Int32) (q : Nat) : Nat → Nat
  | 0 => 0
  | k + 1 => wN b q k * 32 + ((b (q + k)).toNatClampNeg - 96)
theorem kSm_n {b : Nat → Int32} {q : Nat} (h : kSm b q = true) : ∃ x, b q = nI x ∧ 97 ≤ x ∧ x ≤ 122 := by
  have h1 : ¬ b q < 97 := by
    intro c
    simp [kSm, c] at h
  have h2 : ¬ 122 < b q := by
    intro c
    simp [kSm, c] at h
  obtain ⟨x, hx, e⟩ := nI_of (x := b q) (fun c => h1 (Int32.lt_trans c (by decide)))
  rw [e] at h1 h2
  refine ⟨x, e, ?_, ?_⟩
  · refine Classical.byContradiction (fun c => h1 ?_)
    exact nI_lt (b := 97) (by omega) (by omega)
  · refine Classical.byContradiction (fun c => h2 ?_)
    exact nI_lt (a := 122) (by omega) (by omega)
theorem wN_lt {b : Nat → Int32} {q : Nat} : ∀ n, smA b q n → wN b q n < 32 ^ n := by
  intro n
  induction n with
  | zero => intro _; exact Nat.one_pos
  | succ n ih =>
    intro h
    have h1 := ih (fun j hj => h j (by omega))
    obtain ⟨x, e, h2, h3⟩ := kSm_n (h n (by omega))
    unfold wN
    rw [e, nI_clamp (by omega), Nat.pow_succ]
    omega
theorem dg_64 : ∀ x, x < 123 → 97 ≤ x → (nI x).toInt64 - 97 + 1 = Int64.ofNat (x - 96) := by decide +kernel
theorem wdv_N {b : Nat → Int32} {q : Nat} : ∀ n, n ≤ 7 → smA b q n → wdv b q n = Int64.ofNat (wN b q n) := by
  intro n
  induction n with
  | zero => intro _ _; rfl
  | succ n ih =>
    intro hn h
    obtain ⟨x, e, h2, h3⟩ := kSm_n (h n (by omega))
    rw [wdv, if_pos (by omega), wN, ih (by omega) (fun j hj => h j (by omega)), e, nI_clamp (by omega), Int64.ofNat_add, Int64.ofNat_mul, ← dg_64 x (by omega) h2]
    rw [Int64.sub_eq_add_neg, Int64.sub_eq_add_neg, Int64.add_assoc, Int64.add_assoc, Int64.add_assoc]
    rfl
theorem wN_inj {b c : Nat → Int32} {q r : Nat} : ∀ n m, smA b q n → smA c r m → wN b q n = wN c r m → n = m ∧ ∀ j, j < n → b (q + j) = c (r + j) := by
  intro n
  induction n with
  | zero =>
    intro m hb hc h
    cases m with
    | zero => exact ⟨rfl, fun j hj => absurd hj (by omega)⟩
    | succ m =>
      obtain ⟨x, e, h2, h3⟩ := kSm_n (hc m (by omega))
      unfold wN at h
      rw [e, nI_clamp (by omega)] at h
      omega
  | succ n ih =>
    intro m hb hc h
    obtain ⟨x, e, h2, h3⟩ := kSm_n (hb n (by omega))
    cases m with
    | zero =>
      unfold wN at h
      rw [e, nI_clamp (by omega)] at h
      omega
    | succ m =>
      obtain ⟨y, e', h2', h3'⟩ := kSm_n (hc m (by omega))
      unfold wN at h
      rw [e, e', nI_clamp (by omega), nI_clamp (by omega)] at h
      obtain ⟨i1, i2⟩ := ih m (fun j hj => hb j (by omega)) (fun j hj => hc j (by omega)) (by omega)
      refine ⟨by omega, fun j hj => ?_⟩
      by_cases hj' : j < n
      · exact i2 j hj'
      · have ej : j = n := by omega
        rw [ej, e, i1, e']
        congr 1
        omega
theorem wN_ext {b c : Nat → Int32} {q r : Nat} : ∀ n, (∀ j, j < n → b (q + j) = c (r + j)) → wN b q n = wN c r n := by
  intro n
  induction n with
  | zero => intro _; rfl
  | succ n ih =>
    intro h
    rw [wN, wN, ih (fun j hj => h j (by omega)), h n (by omega)]
theorem o64_ij {x y : Nat} (hx : x < 2 ^ 63) (hy : y < 2 ^ 63) (h : Int64.ofNat x = Int64.ofNat y) : x = y := by
  have h2 := congrArg Int64.toInt h
  rw [Int64.toInt_ofNat_of_lt hx, Int64.toInt_ofNat_of_lt hy] at h2
  omega
theorem wN_63 {b : Nat → Int32} {q n : Nat} (hn : n ≤ 7) (h : smA b q n) : wN b q n < 2 ^ 63 := by
  refine Nat.lt_of_lt_of_le (wN_lt n h) ?_
  calc 32 ^ n ≤ 32 ^ 7 := Nat.pow_le_pow_right (by decide) hn
    _ ≤ 2 ^ 63 := by decide
theorem wdv_iff {b c : Nat → Int32} {q r n m : Nat} (hn : n ≤ 7) (hm : m ≤ 7) (hb : smA b q n) (hc : smA c r m) : wdv b q n = wdv c r m ↔ (n = m ∧ ∀ j, j < n → b (q + j) = c (r + j)) := by
  rw [wdv_N n hn hb, wdv_N m hm hc]
  constructor
  · intro h
    exact wN_inj n m hb hc (o64_ij (wN_63 hn hb) (wN_63 hm hc) h)
  · rintro ⟨rfl, h⟩
    rw [wN_ext n h]
/-! the words of the document -/
def kwb (i : Nat) : Nat → Int32 := fun j => (ab_byt.getD i []).getD j 0
def kwl (i : Nat) : Nat := ab_len.getD i 0
theorem kw_sm : ∀ i, i < 6 → ∀ j, j < kwl i → kSm (kwb i) (0 + j) = true := by decide +kernel
theorem kw_7 : ∀ i, i < 6 → kwl i ≤ 7 ∧ 1 ≤ kwl i := by decide +kernel
theorem kw_wo : ∀ i, i < 6 → L_X12_wordOf 8 i = some (wdv (kwb i) 0 (kwl i)) := by decide +kernel
