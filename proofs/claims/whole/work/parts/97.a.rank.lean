/-! rankings: what they are; in which order they come -/
/-- the rank of a state in a row of ranks (a number of four digits, the first state's first) -/
def dg (P s : Nat) : Nat := P / 8 ^ (3 - s) % 8
def okS (t f : Nat) (cap : Nat → Nat) (P s : Nat) : Bool := !t.testBit s || (decide (dg P s ≤ cap s) && (!f.testBit s || decide (dg P s % 2 = 0)))
def cvS (t P k : Nat) : Bool := (t.testBit 0 && decide (dg P 0 = k)) || (t.testBit 1 && decide (dg P 1 = k)) || (t.testBit 2 && decide (dg P 2 = k)) || (t.testBit 3 && decide (dg P 3 = k))
/-- a tight one under a cap, final states even, each odd rank up to g there -/
def tgB (t f g : Nat) (cap : Nat → Nat) (P : Nat) : Bool := (okS t f cap P 0 && okS t f cap P 1 && okS t f cap P 2 && okS t f cap P 3) && ((decide (g < 1) || cvS t P 1) && (decide (g < 3) || cvS t P 3) && (decide (g < 5) || cvS t P 5) && (decide (g < 7) || cvS t P 7))
/-- all rows of ranks up to g of the set t, in their order; the last n states are still free -/
def vs (t g : Nat) : Nat → Nat → List Nat
  | 0, P => [P]
  | n + 1, P => if t.testBit (3 - n) then (List.range (g + 1)).flatMap (fun d => vs t g n (P + d * 8 ^ n)) else vs t g n P
def rkS (t f g : Nat) (cap : Nat → Nat) : List Nat := (vs t g 4 0).filter (tgB t f g cap)
/-- the next row: the first k states are looked at, from the last on -/
def nxD (t g : Nat) : Nat → Nat → Nat × Nat
  | 0, P => (0, P)
  | s + 1, P => if t.testBit s then (if g ≤ dg P s then nxD t g s (P - dg P s * 8 ^ (3 - s)) else (1, P + 8 ^ (3 - s))) else nxD t g s P
/-- these rows follow each other, and then it goes on with C -/
def Wk (t g : Nat) : List Nat → Nat × Nat → Prop
  | [], _ => False
  | [P], C => nxD t g 4 P = C
  | P :: Q :: l, C => nxD t g 4 P = (1, Q) ∧ Wk t g (Q :: l) C
theorem Wk.app {t g Q : Nat} {l2 : List Nat} {C : Nat × Nat} : ∀ {l1 : List Nat}, Wk t g l1 (1, Q) → Wk t g (Q :: l2) C → Wk t g (l1 ++ Q :: l2) C
  | [], h, _ => h.elim
  | [_], h, k => ⟨h, k⟩
  | _ :: _ :: _, h, k => ⟨h.1, Wk.app h.2 k⟩
theorem dg_n {P d n : Nat} (hn : n < 4) (hd : d < 8) (hP : P % 8 ^ (n + 1) = 0) : dg (P + d * 8 ^ n) (3 - n) = d := by
  unfold dg
  rw [show 3 - (3 - n) = n by omega, Nat.add_mul_div_right _ _ (Nat.pow_pos (by decide))]
  have h8 : 8 ^ (n + 1) = 8 ^ n * 8 := Nat.pow_succ _ _
  obtain ⟨q, hq⟩ := Nat.dvd_of_mod_eq_zero hP
  rw [hq, h8, Nat.mul_assoc, Nat.mul_div_cancel_left _ (Nat.pow_pos (by decide)), Nat.mul_add_mod]
  exact Nat.mod_eq_of_lt hd
theorem vs_W {t g : Nat} (hg : g < 8) : ∀ (n P : Nat), n ≤ 4 → P % 8 ^ n = 0 → ∃ l, vs t g n P = P :: l ∧ Wk t g (P :: l) (nxD t g (4 - n) P) := by
  intro n
  induction n with
  | zero => intro P _ _; exact ⟨[], rfl, rfl⟩
  | succ n ih =>
    intro P hn hP
    have h8 : 8 ^ (n + 1) = 8 ^ n * 8 := Nat.pow_succ _ _
    have hPn : ∀ d, (P + d * 8 ^ n) % 8 ^ n = 0 := by
      intro d
      rw [Nat.add_mul_mod_self_right]
      obtain ⟨q, hq⟩ := Nat.dvd_of_mod_eq_zero hP
      rw [hq, h8, Nat.mul_assoc]
      exact Nat.mul_mod_right _ _
    have e4 : 4 - n = (3 - n) + 1 := by omega
    have e5 : 4 - (n + 1) = 3 - n := by omega
    rw [vs]
    by_cases ht : t.testBit (3 - n) = true
    · rw [if_pos ht]
      have key : ∀ d, d ≤ g → nxD t g (4 - n) (P + d * 8 ^ n) = if g ≤ d then nxD t g (3 - n) P else (1, P + (d + 1) * 8 ^ n) := by
        intro d hd
        rw [e4, nxD, if_pos ht, dg_n (by omega) (by omega) hP, show 3 - (3 - n) = n by omega, Nat.add_sub_cancel, Nat.add_mul, Nat.one_mul, Nat.add_assoc]
      have main : ∀ k d, d + k = g → ∃ l, (List.range' d (k + 1)).flatMap (fun d => vs t g n (P + d * 8 ^ n)) = (P + d * 8 ^ n) :: l ∧ Wk t g ((P + d * 8 ^ n) :: l) (nxD t g (3 - n) P) := by
        intro k
        induction k with
        | zero =>
          intro d hd
          obtain ⟨l, h1, h2⟩ := ih (P + d * 8 ^ n) (by omega) (hPn d)
          refine ⟨l, ?_, ?_⟩
          · show vs t g n (P + d * 8 ^ n) ++ [] = _
            rw [List.append_nil, h1]
          · rw [key d (by omega), if_pos (by omega)] at h2
            exact h2
        | succ k ik =>
          intro d hd
          obtain ⟨l, h1, h2⟩ := ih (P + d * 8 ^ n) (by omega) (hPn d)
          obtain ⟨l2, k1, k2⟩ := ik (d + 1) (by omega)
          rw [key d (by omega), if_neg (by omega)] at h2
          refine ⟨l ++ (P + (d + 1) * 8 ^ n) :: l2, ?_, Wk.app h2 k2⟩
          rw [List.range'_succ, List.flatMap_cons, k1, h1]
          rfl
      obtain ⟨l, h1, h2⟩ := main g 0 (by omega)
      rw [Nat.zero_mul, Nat.add_zero] at h1 h2
      rw [List.range_eq_range', e5]
      exact ⟨l, h1, h2⟩
    · rw [if_neg ht]
      obtain ⟨l, h1, h2⟩ := ih P (by omega) (by have := hPn 0; rw [Nat.zero_mul, Nat.add_zero] at this; exact this)
      rw [e4, nxD, if_neg ht] at h2
      rw [e5]
      exact ⟨l, h1, h2⟩
/-- rows of ranks of the set t up to g -/
def dOK (t g P : Nat) : Prop := P < 4096 ∧ ∀ s, s < 4 → (t.testBit s = true → dg P s ≤ g) ∧ (t.testBit s = false → dg P s = 0)
theorem dg_0 {P : Nat} : dg P 0 = P / 512 % 8 := rfl
theorem dg_1 {P : Nat} : dg P 1 = P / 64 % 8 := rfl
theorem dg_2 {P : Nat} : dg P 2 = P / 8 % 8 := rfl
theorem dg_3 {P : Nat} : dg P 3 = P % 8 := by show P / 1 % 8 = _; rw [Nat.div_one]
theorem s4 {s : Nat} (h : s < 4) : s = 0 ∨ s = 1 ∨ s = 2 ∨ s = 3 := by omega
/-- a digit is set to 0, or is one greater -/
theorem dg_z {P s : Nat} (hP : P < 4096) (hs : s < 4) : P - dg P s * 8 ^ (3 - s) < 4096 ∧ ∀ r, r < 4 → dg (P - dg P s * 8 ^ (3 - s)) r = if r = s then 0 else dg P r := by
  refine ⟨by omega, fun r hr => ?_⟩
  rcases s4 hs with rfl | rfl | rfl | rfl
  · rcases s4 hr with rfl | rfl | rfl | rfl
    · show (P - P / 512 % 8 * 512) / 512 % 8 = 0; omega
    · show (P - P / 512 % 8 * 512) / 64 % 8 = P / 64 % 8; omega
    · show (P - P / 512 % 8 * 512) / 8 % 8 = P / 8 % 8; omega
    · show (P - P / 512 % 8 * 512) / 1 % 8 = P / 1 % 8; omega
  · rcases s4 hr with rfl | rfl | rfl | rfl
    · show (P - P / 64 % 8 * 64) / 512 % 8 = P / 512 % 8; omega
    · show (P - P / 64 % 8 * 64) / 64 % 8 = 0; omega
    · show (P - P / 64 % 8 * 64) / 8 % 8 = P / 8 % 8; omega
    · show (P - P / 64 % 8 * 64) / 1 % 8 = P / 1 % 8; omega
  · rcases s4 hr with rfl | rfl | rfl | rfl
    · show (P - P / 8 % 8 * 8) / 512 % 8 = P / 512 % 8; omega
    · show (P - P / 8 % 8 * 8) / 64 % 8 = P / 64 % 8; omega
    · show (P - P / 8 % 8 * 8) / 8 % 8 = 0; omega
    · show (P - P / 8 % 8 * 8) / 1 % 8 = P / 1 % 8; omega
  · rcases s4 hr with rfl | rfl | rfl | rfl
    · show (P - P / 1 % 8 * 1) / 512 % 8 = P / 512 % 8; omega
    · show (P - P / 1 % 8 * 1) / 64 % 8 = P / 64 % 8; omega
    · show (P - P / 1 % 8 * 1) / 8 % 8 = P / 8 % 8; omega
    · show (P - P / 1 % 8 * 1) / 1 % 8 = 0; omega
theorem dg_i {P s : Nat} (hP : P < 4096) (hs : s < 4) (h7 : dg P s < 7) : P + 8 ^ (3 - s) < 4096 ∧ ∀ r, r < 4 → dg (P + 8 ^ (3 - s)) r = if r = s then dg P r + 1 else dg P r := by
  rcases s4 hs with rfl | rfl | rfl | rfl
  · have h7 : P / 512 % 8 < 7 := h7
    refine ⟨by show P + 512 < 4096; omega, fun r hr => ?_⟩
    rcases s4 hr with rfl | rfl | rfl | rfl
    · show (P + 512) / 512 % 8 = P / 512 % 8 + 1; omega
    · show (P + 512) / 64 % 8 = P / 64 % 8; omega
    · show (P + 512) / 8 % 8 = P / 8 % 8; omega
    · show (P + 512) / 1 % 8 = P / 1 % 8; omega
  · have h7 : P / 64 % 8 < 7 := h7
    refine ⟨by show P + 64 < 4096; omega, fun r hr => ?_⟩
    rcases s4 hr with rfl | rfl | rfl | rfl
    · show (P + 64) / 512 % 8 = P / 512 % 8; omega
    · show (P + 64) / 64 % 8 = P / 64 % 8 + 1; omega
    · show (P + 64) / 8 % 8 = P / 8 % 8; omega
    · show (P + 64) / 1 % 8 = P / 1 % 8; omega
  · have h7 : P / 8 % 8 < 7 := h7
    refine ⟨by show P + 8 < 4096; omega, fun r hr => ?_⟩
    rcases s4 hr with rfl | rfl | rfl | rfl
    · show (P + 8) / 512 % 8 = P / 512 % 8; omega
    · show (P + 8) / 64 % 8 = P / 64 % 8; omega
    · show (P + 8) / 8 % 8 = P / 8 % 8 + 1; omega
    · show (P + 8) / 1 % 8 = P / 1 % 8; omega
  · have h7 : P / 1 % 8 < 7 := h7
    refine ⟨by show P + 1 < 4096; omega, fun r hr => ?_⟩
    rcases s4 hr with rfl | rfl | rfl | rfl
    · show (P + 1) / 512 % 8 = P / 512 % 8; omega
    · show (P + 1) / 64 % 8 = P / 64 % 8; omega
    · show (P + 1) / 8 % 8 = P / 8 % 8; omega
    · show (P + 1) / 1 % 8 = P / 1 % 8 + 1; omega
theorem nxD_ok {t g : Nat} (hg : g < 8) : ∀ (s P : Nat), s ≤ 4 → dOK t g P → (nxD t g s P).1 < 2 ∧ dOK t g (nxD t g s P).2 := by
  intro s
  induction s with
  | zero => intro P _ h; exact ⟨by show 0 < 2; decide, h⟩
  | succ s ih =>
    intro P hs h
    rw [nxD]
    by_cases ht : t.testBit s = true
    · rw [if_pos ht]
      have hd := (h.2 s (by omega)).1 ht
      by_cases hc : g ≤ dg P s
      · rw [if_pos hc]
        obtain ⟨z1, z2⟩ := dg_z h.1 (show s < 4 by omega)
        refine ih _ (by omega) ⟨z1, fun r hr => ?_⟩
        rw [z2 r hr]
        by_cases e : r = s
        · rw [if_pos e]; exact ⟨fun _ => by omega, fun _ => rfl⟩
        · rw [if_neg e]; exact h.2 r hr
      · rw [if_neg hc]
        obtain ⟨z1, z2⟩ := dg_i h.1 (show s < 4 by omega) (by omega)
        refine ⟨by show 1 < 2; decide, z1, fun r hr => ?_⟩
        show (t.testBit r = true → dg (P + 8 ^ (3 - s)) r ≤ g) ∧ (t.testBit r = false → dg (P + 8 ^ (3 - s)) r = 0)
        rw [z2 r hr]
        by_cases e : r = s
        · rw [if_pos e, e]
          exact ⟨fun _ => by omega, fun c => absurd ht (by rw [c]; decide)⟩
        · rw [if_neg e]; exact h.2 r hr
    · rw [if_neg ht]
      exact ih P (by omega) h
