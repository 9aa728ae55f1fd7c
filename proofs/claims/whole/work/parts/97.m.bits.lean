/-! bits of numbers -/
theorem nI_and (a b : Nat) : nI a &&& nI b = nI (a &&& b) := Int32.toBitVec_inj.1 (by
  show BitVec.ofNat 32 a &&& BitVec.ofNat 32 b = BitVec.ofNat 32 (a &&& b)
  rw [BitVec.ofNat_and])
theorem nI_or (a b : Nat) : nI a ||| nI b = nI (a ||| b) := Int32.toBitVec_inj.1 (by
  show BitVec.ofNat 32 a ||| BitVec.ofNat 32 b = BitVec.ofNat 32 (a ||| b)
  rw [BitVec.ofNat_or])
theorem smod32 : ∀ s, s < 32 → ((BitVec.ofNat 32 s).smod 32).toNat = s := by decide +kernel
theorem nI_shr {a s : Nat} (ha : a < 2 ^ 31) (hs : s < 32) : nI a >>> nI s = nI (a / 2 ^ s) := by
  refine Int32.toBitVec_inj.1 ?_
  show (BitVec.ofNat 32 a).sshiftRight' ((BitVec.ofNat 32 s).smod 32) = BitVec.ofNat 32 (a / 2 ^ s)
  rw [BitVec.sshiftRight', smod32 s hs, BitVec.sshiftRight_eq_of_msb_false]
  · apply BitVec.eq_of_toNat_eq
    rw [BitVec.toNat_ushiftRight, BitVec.toNat_ofNat, BitVec.toNat_ofNat, Nat.mod_eq_of_lt (by omega), Nat.shiftRight_eq_div_pow, Nat.mod_eq_of_lt]
    exact Nat.lt_of_le_of_lt (Nat.div_le_self _ _) (by omega)
  · rw [BitVec.msb_eq_decide, BitVec.toNat_ofNat, Nat.mod_eq_of_lt (by omega)]
    exact decide_eq_false (by omega)
theorem nI_shl {a s : Nat} (hs : s < 32) : nI a <<< nI s = nI (a * 2 ^ s) := by
  refine Int32.toBitVec_inj.1 ?_
  show (BitVec.ofNat 32 a) <<< ((BitVec.ofNat 32 s).smod 32) = BitVec.ofNat 32 (a * 2 ^ s)
  rw [BitVec.shiftLeft_eq', smod32 s hs]
  apply BitVec.eq_of_toNat_eq
  rw [BitVec.toNat_shiftLeft, BitVec.toNat_ofNat, BitVec.toNat_ofNat, Nat.shiftLeft_eq, Nat.mod_mul_mod]
/-! keys -/
def kyN (x : nd) : Nat := if x.2.1 = 0 then x.1 else 1048576 + rv x.2.2.1 * 256 + x.2.2.2 * 16 + x.1
theorem rv_inj {P Q : Nat} (hP : P < 4096) (hQ : Q < 4096) (h : rv P = rv Q) : P = Q := by
  have p0 := dg_lt (P := P) (s := 0)
  have p1 := dg_lt (P := P) (s := 1)
  have p2 := dg_lt (P := P) (s := 2)
  have p3 := dg_lt (P := P) (s := 3)
  have q0 := dg_lt (P := Q) (s := 0)
  have q1 := dg_lt (P := Q) (s := 1)
  have q2 := dg_lt (P := Q) (s := 2)
  have q3 := dg_lt (P := Q) (s := 3)
  have dP : P = 512 * dg P 0 + 64 * dg P 1 + 8 * dg P 2 + dg P 3 := by rw [dg_0, dg_1, dg_2, dg_3]; omega
  have dQ : Q = 512 * dg Q 0 + 64 * dg Q 1 + 8 * dg Q 2 + dg Q 3 := by rw [dg_0, dg_1, dg_2, dg_3]; omega
  unfold rv at h
  generalize dg P 0 = a0 at *
  generalize dg P 1 = a1 at *
  generalize dg P 2 = a2 at *
  generalize dg P 3 = a3 at *
  generalize dg Q 0 = b0 at *
  generalize dg Q 1 = b1 at *
  generalize dg Q 2 = b2 at *
  generalize dg Q 3 = b3 at *
  have e0 : a0 = b0 := by omega
  subst e0
  have e1 : a1 = b1 := by omega
  subst e1
  have e2 : a2 = b2 := by omega
  subst e2
  omega
theorem gmx {t g g' P : Nat} (h1 : dOK t g P) (h2 : cvS t P g' = true) : g' ≤ g := by
  obtain ⟨r, r1, r2, r3⟩ := cvS_g h2
  rw [← r3]
  exact (h1.2 r r1).1 r2
theorem kyN_lt {x : nd} (h : ndO x) : kyN x < 2 ^ 21 := by
  have h1 := h.1
  have h2 := h.2.1
  have h3 := rv_lt (P := x.2.2.1)
  unfold kyN
  split <;> omega
theorem kyN_inj {x y : nd} (hx : ndO x) (hy : ndO y) (h : kyN x = kyN y) : x = y := by
  have x1 := hx.1
  have x2 := hx.2.1
  have y1 := hy.1
  have y2 := hy.2.1
  have x3 := rv_lt (P := x.2.2.1)
  have y3 := rv_lt (P := y.2.2.1)
  unfold kyN at h
  rcases hx.2.2 with ⟨c1, c2, c3⟩ | ⟨c1, c2, c3⟩
  · rcases hy.2.2 with ⟨d1, d2, d3⟩ | ⟨d1, d2, d3⟩
    · rw [if_pos c1, if_pos d1] at h
      exact Prod.ext h (Prod.ext (c1.trans d1.symm) (Prod.ext (c2.trans d2.symm) (c3.trans d3.symm)))
    · rw [if_pos c1, if_neg (by rcases d1 with h | h | h | h <;> omega)] at h
      omega
  · rcases hy.2.2 with ⟨d1, d2, d3⟩ | ⟨d1, d2, d3⟩
    · rw [if_pos d1, if_neg (by rcases c1 with h | h | h | h <;> omega)] at h
      omega
    · rw [if_neg (by rcases c1 with h | h | h | h <;> omega), if_neg (by rcases d1 with h | h | h | h <;> omega)] at h
      have e1 : x.1 = y.1 := by omega
      have e2 : x.2.2.2 = y.2.2.2 := by omega
      have e3 : rv x.2.2.1 = rv y.2.2.1 := by omega
      have e4 := rv_inj c2.1 d2.1 e3
      have e5 : x.2.1 = y.2.1 := by
        have l1 := gmx (g' := y.2.1) c2 (by rw [e1, e4]; exact d3)
        have l2 := gmx (g' := x.2.1) d2 (by rw [← e1, ← e4]; exact c3)
        omega
      exact Prod.ext e1 (Prod.ext e5 (Prod.ext e4 e2))
theorem ky_and {x : nd} (h : ndO x) : (nI (kyN x) &&& 1048576 = 0 ↔ x.2.1 = 0) ∧ nI (kyN x) &&& 15 = nI x.1 := by
  have h1 := h.1
  have h2 := h.2.1
  have h3 := rv_lt (P := x.2.2.1)
  have hk := kyN_lt h
  have a1 : nI (kyN x) &&& 1048576 = nI (((kyN x).testBit 20).toNat * 2 ^ 20) := by
    rw [show (1048576 : Int32) = nI (2 ^ 20) from rfl, nI_and]
    refine congrArg nI (Nat.eq_of_testBit_eq (fun i => ?_))
    rw [Nat.testBit_and, Nat.testBit_two_pow]
    by_cases e : 20 = i
    · rw [← e]
      cases (kyN x).testBit 20 <;> rfl
    · rw [decide_eq_false e, Bool.and_false]
      cases (kyN x).testBit 20 with
      | false => exact (Nat.zero_testBit i).symm
      | true =>
        show false = (1 * 2 ^ 20).testBit i
        rw [Nat.one_mul, Nat.testBit_two_pow, decide_eq_false e]
  have a2 : nI (kyN x) &&& 15 = nI (kyN x % 16) := by
    rw [show (15 : Int32) = nI (2 ^ 4 - 1) from rfl, nI_and, Nat.and_two_pow_sub_one_eq_mod]
  have tb : (kyN x).testBit 20 = decide (kyN x / 2 ^ 20 % 2 = 1) := Nat.testBit_eq_decide_div_mod_eq
  rw [a1, a2, tb]
  unfold kyN at hk ⊢
  by_cases c : x.2.1 = 0
  · rw [if_pos c] at hk ⊢
    refine ⟨⟨fun _ => c, fun _ => ?_⟩, by rw [Nat.mod_eq_of_lt h1]⟩
    rw [decide_eq_false (by omega)]
    rfl
  · rw [if_neg c] at hk ⊢
    refine ⟨⟨fun q => ?_, fun q => absurd q c⟩, congrArg nI (by omega)⟩
    rw [decide_eq_true (by omega)] at q
    exact absurd q (by decide)
theorem ky_ow {x : nd} (h : ndO x) : (nI (kyN x) >>> ((4 : Int32) &&& 31)) &&& 15 = nI x.2.2.2 := by
  have h1 := h.1
  have h2 := h.2.1
  have h3 := rv_lt (P := x.2.2.1)
  have hk := kyN_lt h
  rw [show ((4 : Int32) &&& 31) = nI 4 from rfl, nI_shr (by omega) (by decide), show (15 : Int32) = nI (2 ^ 4 - 1) from rfl, nI_and, Nat.and_two_pow_sub_one_eq_mod]
  unfold kyN
  by_cases c : x.2.1 = 0
  · rw [if_pos c]
    rcases h.2.2 with d | d
    · rw [d.2.2]
      exact congrArg nI (by omega)
    · rcases d.1 with e | e | e | e <;> omega
  · rw [if_neg c]
    exact congrArg nI (by omega)
theorem ky_lw {x : nd} (h : ndO x) : p_lw (nI (kyN x)) = nI (rv x.2.2.1) := by
  have h1 := h.1
  have h2 := h.2.1
  have h3 := rv_lt (P := x.2.2.1)
  have hk := kyN_lt h
  unfold p_lw
  rw [show ((8 : Int32) &&& 31) = nI 8 from rfl, nI_shr (by omega) (by decide), show (4095 : Int32) = nI (2 ^ 12 - 1) from rfl, nI_and, Nat.and_two_pow_sub_one_eq_mod]
  unfold kyN
  by_cases c : x.2.1 = 0
  · rw [if_pos c]
    rcases h.2.2 with d | d
    · rw [d.2.1]
      exact congrArg nI (by show x.1 / 2 ^ 8 % 2 ^ 12 = 0; omega)
    · rcases d.1 with e | e | e | e <;> omega
  · rw [if_neg c]
    exact congrArg nI (by omega)
theorem k3s : ∀ s, s < 4 → ((3 : Int32) * nI s) &&& 31 = nI (3 * s) := by decide +kernel
theorem k_roN {y s : Nat} (hy : y < 2 ^ 31) (hs : s < 4) : k_ro (nI y) (nI s) = nI (y / 2 ^ (3 * s) % 8) := by
  unfold k_ro
  rw [k3s s hs, nI_shr hy (by omega), show (7 : Int32) = nI (2 ^ 3 - 1) from rfl, nI_and, Nat.and_two_pow_sub_one_eq_mod]
theorem ky_ro {x : nd} {s : Nat} (h : ndO x) (hg : x.2.1 ≠ 0) (hs : s < 4) : k_ro (nI (kyN x) >>> ((8 : Int32) &&& 31)) (nI s) = nI (dg x.2.2.1 s) := by
  have h1 := h.1
  have h2 := h.2.1
  have h3 := rv_lt (P := x.2.2.1)
  have hk := kyN_lt h
  rw [show ((8 : Int32) &&& 31) = nI 8 from rfl, nI_shr (by omega) (by decide)]
  have e : kyN x / 2 ^ 8 = 4096 + rv x.2.2.1 := by
    unfold kyN
    rw [if_neg hg]
    omega
  rw [e, k_roN (by omega) hs, ← k_rov hs, k_roN (by omega) hs]
  rcases s4 hs with rfl | rfl | rfl | rfl
  · exact congrArg nI (by show (4096 + rv x.2.2.1) / 1 % 8 = rv x.2.2.1 / 1 % 8; omega)
  · exact congrArg nI (by show (4096 + rv x.2.2.1) / 8 % 8 = rv x.2.2.1 / 8 % 8; omega)
  · exact congrArg nI (by show (4096 + rv x.2.2.1) / 64 % 8 = rv x.2.2.1 / 64 % 8; omega)
  · exact congrArg nI (by show (4096 + rv x.2.2.1) / 512 % 8 = rv x.2.2.1 / 512 % 8; omega)
theorem mxI_n {a b : Nat} (ha : a < 8) (hb : b < 8) : mxI (nI a) (nI b) = nI (max a b) := by
  unfold mxI
  by_cases c : a < b
  · rw [if_pos (nI_lt c (by omega)), Nat.max_eq_right (by omega)]
  · rw [if_neg (fun q => c ((nI_ltI (by omega) (by omega)).mp q)), Nat.max_eq_left (by omega)]
theorem k_goN {P : Nat} : k_go (nI (rv P)) = nI (max (max (max (max 0 (dg P 0)) (dg P 1)) (dg P 2)) (dg P 3)) := by
  have p0 := dg_lt (P := P) (s := 0)
  have p1 := dg_lt (P := P) (s := 1)
  have p2 := dg_lt (P := P) (s := 2)
  have p3 := dg_lt (P := P) (s := 3)
  unfold k_go
  rw [show (0 : Int32) = nI 0 from rfl, show (1 : Int32) = nI 1 from rfl, show (2 : Int32) = nI 2 from rfl, show (3 : Int32) = nI 3 from rfl, k_rov (by decide), k_rov (by decide), k_rov (by decide), k_rov (by decide)]
  rw [mxI_n (by omega) p0, mxI_n (by omega) p1, mxI_n (by omega) p2, mxI_n (by omega) p3]
theorem ky_go {x : nd} (h : ndO x) (hg : x.2.1 ≠ 0) : k_go (p_lw (nI (kyN x))) = nI x.2.1 := by
  rw [ky_lw h, k_goN]
  rcases h.2.2 with c | ⟨c1, c2, c3⟩
  · exact absurd c.1 hg
  · have l : ∀ s, s < 4 → dg x.2.2.1 s ≤ x.2.1 := fun s hs => by
      by_cases b : x.1.testBit s = true
      · exact (c2.2 s hs).1 b
      · rw [(c2.2 s hs).2 ((Bool.not_eq_true _).mp b)]; exact Nat.zero_le _
    obtain ⟨r, r1, -, r3⟩ := cvS_g c3
    have l0 := l 0 (by decide)
    have l1 := l 1 (by decide)
    have l2 := l 2 (by decide)
    have l3 := l 3 (by decide)
    refine congrArg nI ?_
    rcases s4 r1 with rfl | rfl | rfl | rfl <;> omega
theorem ky_mk {t g P o : Nat} (ht : t < 16) (ho : o < 16) (hg : g ≠ 0) : p_ky (nI t) (nI (rv P)) (nI o) = nI (kyN (t, g, P, o)) := by
  have h3 := rv_lt (P := P)
  unfold p_ky kyN
  rw [if_neg hg, show ((8 : Int32) &&& 31) = nI 8 from rfl, show ((4 : Int32) &&& 31) = nI 4 from rfl, show (1048576 : Int32) = nI (2 ^ 20 * 1) from rfl, nI_shl (by decide), nI_shl (by decide), nI_or, nI_or, nI_or]
  refine congrArg nI ?_
  rw [← Nat.two_pow_add_eq_or_of_lt (show rv P * 2 ^ 8 < 2 ^ 20 by omega), show 2 ^ 20 * 1 + rv P * 2 ^ 8 = 2 ^ 8 * (4096 + rv P) by omega, ← Nat.two_pow_add_eq_or_of_lt (show o * 2 ^ 4 < 2 ^ 8 by omega), show 2 ^ 8 * (4096 + rv P) + o * 2 ^ 4 = 2 ^ 4 * (16 * (4096 + rv P) + o) by omega, ← Nat.two_pow_add_eq_or_of_lt (show t < 2 ^ 4 by omega)]
