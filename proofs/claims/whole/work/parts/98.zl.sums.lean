/-! sums; bits counted -/
def sg (g : Nat) (f : Nat → Nat) : Nat := match g with
  | 0 => 0
  | n + 1 => sg n f + f n
theorem sg_c {g : Nat} {f h : Nat → Nat} (e : ∀ s, s < g → f s = h s) : sg g f = sg g h := by
  induction g with
  | zero => rfl
  | succ n ih =>
    rw [sg, sg, ih (fun s hs => e s (by omega)), e n (by omega)]
theorem sg_add {f h : Nat → Nat} (g : Nat) : sg g (fun s => f s + h s) = sg g f + sg g h := by
  induction g with
  | zero => rfl
  | succ n ih =>
    rw [sg, sg, sg, ih]
    omega
theorem sg_0 (g : Nat) : sg g (fun _ => 0) = 0 := by
  induction g with
  | zero => rfl
  | succ n ih => rw [sg, ih]
theorem sg_sw {f : Nat → Nat → Nat} (a b : Nat) : sg a (fun i => sg b (fun j => f i j)) = sg b (fun j => sg a (fun i => f i j)) := by
  induction a with
  | zero => rw [sg]; exact (sg_0 b).symm
  | succ n ih =>
    rw [sg, ih, ← sg_add]
    rfl
theorem sg_sp {f : Nat → Nat} (m n : Nat) : sg (m + n) f = sg m f + sg n (fun k => f (m + k)) := by
  induction n with
  | zero => rw [Nat.add_zero, sg]; omega
  | succ n ih =>
    rw [show m + (n + 1) = (m + n) + 1 by omega, sg, ih, sg]
    omega
theorem sg_mul {f : Nat → Nat} (A g : Nat) : sg (A * g) f = sg A (fun q => sg g (fun s => f (q * g + s))) := by
  induction A with
  | zero => rw [Nat.zero_mul]; rfl
  | succ n ih =>
    rw [Nat.succ_mul, sg_sp, ih]
    rfl
theorem sg_le {f : Nat → Nat} {B : Nat} (g : Nat) (h : ∀ s, s < g → f s ≤ B) : sg g f ≤ g * B := by
  induction g with
  | zero => rw [sg]; exact Nat.zero_le _
  | succ n ih =>
    rw [sg, Nat.succ_mul]
    have := ih (fun s hs => h s (by omega))
    have := h n (by omega)
    omega
/-! words of a length -/
def cnW (g : Nat) : Nat → (List Nat → Nat) → Nat
  | 0, P => P []
  | n + 1, P => sg g (fun s => cnW g n (fun l => P (s :: l)))
theorem cnW_c {g : Nat} : ∀ {n : Nat} {P Q : List Nat → Nat}, (∀ l, l.length = n → (∀ s, s ∈ l → s < g) → P l = Q l) → cnW g n P = cnW g n Q
  | 0, P, Q, h => h [] rfl (fun s hs => nomatch hs)
  | n + 1, P, Q, h => by
    rw [cnW, cnW]
    refine sg_c (fun s hs => cnW_c (fun l hl hls => h (s :: l) (by rw [List.length_cons, hl]) (fun x hx => ?_)))
    rcases List.mem_cons.mp hx with q | q
    · rw [q]; exact hs
    · exact hls x q
theorem cnW_sg {g : Nat} : ∀ (n m : Nat) (f : Nat → List Nat → Nat), cnW g n (fun l => sg m (fun s => f s l)) = sg m (fun s => cnW g n (fun l => f s l))
  | 0, m, f => rfl
  | n + 1, m, f => by
    rw [cnW]
    have e : (fun s => cnW g n (fun l => sg m (fun t => f t (s :: l)))) = fun s => sg m (fun t => cnW g n (fun l => f t (s :: l))) := funext fun s => cnW_sg n m (fun t l => f t (s :: l))
    rw [e, sg_sw]
    rfl
theorem cnW_sw {g : Nat} : ∀ (n m : Nat) (f : List Nat → List Nat → Nat), cnW g n (fun a => cnW g m (fun b => f a b)) = cnW g m (fun b => cnW g n (fun a => f a b))
  | 0, m, f => rfl
  | n + 1, m, f => by
    rw [cnW]
    have e : (fun s => cnW g n (fun l => cnW g m (fun b => f (s :: l) b))) = fun s => cnW g m (fun b => cnW g n (fun l => f (s :: l) b)) := funext fun s => cnW_sw n m (fun l b => f (s :: l) b)
    rw [e, ← cnW_sg]
    rfl
/-- a letter behind -/
theorem cnW_s {g : Nat} : ∀ (n : Nat) (P : List Nat → Nat), cnW g (n + 1) P = cnW g n (fun l => sg g (fun t => P (l ++ [t])))
  | 0, P => rfl
  | n + 1, P => by
    rw [cnW]
    have e : (fun s => cnW g (n + 1) (fun l => P (s :: l))) = fun s => cnW g n (fun l => sg g (fun t => P (s :: (l ++ [t])))) := funext fun s => cnW_s n (fun l => P (s :: l))
    rw [e]
    rfl
/-- stems by their numbers -/
theorem cnW_be {g : Nat} : ∀ (n : Nat) (F : Nat → Nat), sg (g ^ n) F = cnW g n (fun l => F (be g l))
  | 0, F => by
    show sg 1 F = F 0
    rw [sg, sg]; omega
  | n + 1, F => by
    rw [Nat.pow_succ, sg_mul, cnW_be n, cnW_s]
    refine congrArg (cnW g n) (funext fun l => congrArg (sg g) (funext fun t => ?_))
    rw [be_s]
/-- the letters of a number, the lowest first -/
def le' (g : Nat) : Nat → Nat → List Nat
  | 0, _ => []
  | n + 1, v => (v % g) :: le' g n (v / g)
theorem le'_len {g : Nat} : ∀ (n v : Nat), (le' g n v).length = n
  | 0, _ => rfl
  | n + 1, v => by rw [le', List.length_cons, le'_len n]
theorem le'_lt {g : Nat} (hg : 0 < g) : ∀ (n v : Nat), ∀ s, s ∈ le' g n v → s < g
  | 0, _, s, h => nomatch h
  | n + 1, v, s, h => by
    rw [le'] at h
    rcases List.mem_cons.mp h with q | q
    · rw [q]; exact Nat.mod_lt _ hg
    · exact le'_lt hg n _ s q
theorem cnW_le {g : Nat} (hg : 0 < g) : ∀ (n : Nat) (F : List Nat → Nat), sg (g ^ n) (fun v => F (le' g n v)) = cnW g n F
  | 0, F => by
    show sg 1 (fun v => F []) = F []
    rw [sg, sg]; omega
  | n + 1, F => by
    rw [Nat.pow_succ, sg_mul, cnW]
    have e : (fun q => sg g (fun s => F (le' g (n + 1) (q * g + s)))) = fun q => sg g (fun s => F (s :: le' g n q)) := funext fun q => sg_c (fun s hs => by
      rw [le', Nat.mul_comm q g, Nat.mul_add_mod, Nat.mod_eq_of_lt hs, Nat.mul_add_div hg, Nat.div_eq_of_lt hs, Nat.add_zero])
    rw [e, sg_sw]
    exact sg_c (fun s hs => cnW_le hg n (fun l => F (s :: l)))
theorem cnW_2 {g : Nat} : ∀ (n m : Nat) (f : List Nat → List Nat → Nat), cnW g (n + m) (fun l => f (l.take n) (l.drop n)) = cnW g n (fun a => cnW g m (fun b => f a b))
  | 0, m, f => by rw [Nat.zero_add]; rfl
  | n + 1, m, f => by
    rw [show n + 1 + m = (n + m) + 1 by omega, cnW, cnW]
    exact sg_c (fun s _ => cnW_2 n m (fun a b => f (s :: a) b))
/-! bits counted -/
def bt (X k : Nat) : Nat := if X.testBit k = true then 1 else 0
theorem bq_n {X k : Nat} (hX : X < 2 ^ 31) (hk : k = 1 ∨ k = 2 ∨ k = 4 ∨ k = 8 ∨ k = 16) : bq (nI X) (nI k) = nI (X / 2 ^ k) := by
  have key : ∀ k, k < 32 → (BitVec.ofNat 32 X) >>> k = BitVec.ofNat 32 (X / 2 ^ k) := fun k _ => by
    apply BitVec.eq_of_toNat_eq
    rw [BitVec.toNat_ushiftRight, BitVec.toNat_ofNat, BitVec.toNat_ofNat, Nat.mod_eq_of_lt (by omega), Nat.shiftRight_eq_div_pow, Nat.mod_eq_of_lt]
    exact Nat.lt_of_le_of_lt (Nat.div_le_self _ _) (by omega)
  refine Int32.toBitVec_inj.1 ?_
  rcases hk with rfl | rfl | rfl | rfl | rfl
  · exact (BitVec.ushiftRight_eq' _ _).trans (key 1 (by decide))
  · exact (BitVec.ushiftRight_eq' _ _).trans (key 2 (by decide))
  · exact (BitVec.ushiftRight_eq' _ _).trans (key 4 (by decide))
  · exact (BitVec.ushiftRight_eq' _ _).trans (key 8 (by decide))
  · exact (BitVec.ushiftRight_eq' _ _).trans (key 16 (by decide))
theorem and_b {a Y k m : Nat} (ha : a < 256) (hk : k < 256) : (a + 256 * Y) &&& (k + 256 * m) = (a &&& k) + 256 * (Y &&& m) := by
  have h1 : ((a + 256 * Y) &&& (k + 256 * m)) / 2 ^ 8 = (a + 256 * Y) / 2 ^ 8 &&& (k + 256 * m) / 2 ^ 8 := Nat.and_div_two_pow
  have h2 : ((a + 256 * Y) &&& (k + 256 * m)) % 2 ^ 8 = (a + 256 * Y) % 2 ^ 8 &&& (k + 256 * m) % 2 ^ 8 := Nat.and_mod_two_pow
  rw [show (a + 256 * Y) / 2 ^ 8 = Y by omega, show (k + 256 * m) / 2 ^ 8 = m by omega] at h1
  rw [show (a + 256 * Y) % 2 ^ 8 = a by omega, show (k + 256 * m) % 2 ^ 8 = k by omega] at h2
  generalize (a + 256 * Y) &&& (k + 256 * m) = z at h1 h2
  rw [← h1, ← h2]
  omega
def n1 (a : Nat) : Nat := a - ((a / 2) &&& 85)
def n2 (a : Nat) : Nat := (a &&& 51) + ((a / 4) &&& 51)
def n3 (a : Nat) : Nat := (a + a / 16) &&& 15
theorem f1_b : ∀ a, a < 256 → ∀ b, b < 2 → (a / 2 + 128 * b) &&& 85 = (a / 2) &&& 85 := by decide +kernel
theorem f2_b : ∀ a, a < 256 → ∀ b, b < 4 → (a / 4 + 64 * b) &&& 51 = (a / 4) &&& 51 := by decide +kernel
theorem f3_b : ∀ a, a < 256 → n2 (n1 a) ≤ 68 ∧ n2 (n1 a) % 16 ≤ 4 ∧ n1 a < 256 ∧ n3 (n2 (n1 a)) = sg 8 (bt a) ∧ sg 8 (bt a) ≤ 8 := by decide +kernel
theorem f4_b : ∀ a, a < 69 → ∀ b, b < 5 → (a + a / 16 + 16 * b) &&& 15 = (a + a / 16) &&& 15 := by decide +kernel
theorem s1_b {a Y M : Nat} (ha : a < 256) : (a + 256 * Y) - (((a + 256 * Y) / 2) &&& (85 + 256 * M)) = n1 a + 256 * (Y - ((Y / 2) &&& M)) := by
  have e : (a + 256 * Y) / 2 = (a / 2 + 128 * (Y % 2)) + 256 * (Y / 2) := by omega
  have l1 : (a / 2) &&& 85 ≤ a / 2 := Nat.and_le_left
  have l2 : (Y / 2) &&& M ≤ Y / 2 := Nat.and_le_left
  rw [e, and_b (by omega) (by decide), f1_b a ha _ (Nat.mod_lt _ (by decide))]
  unfold n1
  omega
theorem s2_b {a Y M : Nat} (ha : a < 256) : ((a + 256 * Y) &&& (51 + 256 * M)) + (((a + 256 * Y) / 4) &&& (51 + 256 * M)) = n2 a + 256 * ((Y &&& M) + ((Y / 4) &&& M)) := by
  have e : (a + 256 * Y) / 4 = (a / 4 + 64 * (Y % 4)) + 256 * (Y / 4) := by omega
  rw [e, and_b ha (by decide), and_b (by omega) (by decide), f2_b a ha _ (Nat.mod_lt _ (by decide))]
  unfold n2
  omega
theorem s3_b {a Y M : Nat} (ha : a ≤ 68) (hY : Y % 16 ≤ 4) : ((a + 256 * Y) + (a + 256 * Y) / 16) &&& (15 + 256 * M) = n3 a + 256 * ((Y + Y / 16) &&& M) := by
  have e : (a + 256 * Y) + (a + 256 * Y) / 16 = (a + a / 16 + 16 * (Y % 16)) + 256 * (Y + Y / 16) := by omega
  rw [e, and_b (by omega) (by decide), f4_b a (by omega) _ (by omega)]
  rfl
theorem z_b {M : Nat} : (0 : Nat) - ((0 / 2) &&& M) = 0 ∧ ((0 : Nat) &&& M) + ((0 / 4) &&& M) = 0 ∧ (0 + 0 / 16) &&& M = 0 := by
  exact ⟨by show 0 - (0 &&& M) = 0; rw [Nat.zero_and], by show (0 &&& M) + (0 &&& M) = 0; rw [Nat.zero_and], by show (0 &&& M) = 0; rw [Nat.zero_and]⟩
theorem fin_b {w1 w2 w3 w4 : Nat} (h1 : w1 ≤ 8) (h2 : w2 ≤ 8) (h3 : w3 ≤ 8) (h4 : w4 ≤ 8) : (w1 + 256 * (w2 + 256 * (w3 + 256 * (w4 + 256 * 0))) + (w1 + 256 * (w2 + 256 * (w3 + 256 * (w4 + 256 * 0)))) / 2 ^ 8 + (w1 + 256 * (w2 + 256 * (w3 + 256 * (w4 + 256 * 0))) + (w1 + 256 * (w2 + 256 * (w3 + 256 * (w4 + 256 * 0)))) / 2 ^ 8) / 2 ^ 16) % 2 ^ 6 = w1 + (w2 + (w3 + w4)) := by
  have e1 : (w1 + 256 * (w2 + 256 * (w3 + 256 * (w4 + 256 * 0)))) / 2 ^ 8 = w2 + 256 * (w3 + 256 * w4) := by omega
  rw [e1]
  have e2 : (w1 + 256 * (w2 + 256 * (w3 + 256 * (w4 + 256 * 0))) + (w2 + 256 * (w3 + 256 * w4))) / 2 ^ 16 = (w3 + w4) + 256 * w4 := by omega
  rw [e2]
  omega
theorem bc_n {X : Nat} (hX : X < 2 ^ 31) : bc (nI X) = nI (sg 32 (bt X)) := by
  obtain ⟨a, b, c, d, ha, hb, hc, hd, eX⟩ : ∃ a b c d, a < 256 ∧ b < 256 ∧ c < 256 ∧ d < 256 ∧ X = a + 256 * (b + 256 * (c + 256 * (d + 256 * 0))) := ⟨X % 256, X / 256 % 256, X / 65536 % 256, X / 16777216, by omega, by omega, by omega, by omega, by omega⟩
  obtain ⟨a1, a2, a3, a4, a5⟩ := f3_b a ha
  obtain ⟨b1, b2, b3, b4, b5⟩ := f3_b b hb
  obtain ⟨c1, c2, c3, c4, c5⟩ := f3_b c hc
  obtain ⟨d1, d2, d3, d4, d5⟩ := f3_b d hd
  have pc : sg 32 (bt X) = sg 8 (bt a) + (sg 8 (bt b) + (sg 8 (bt c) + sg 8 (bt d))) := by
    have sp : ∀ (n a Y : Nat), a < 256 → sg (8 + n) (bt (a + 256 * Y)) = sg 8 (bt a) + sg n (bt Y) := by
      intro n a Y ha
      rw [sg_sp]
      have e1 : sg 8 (bt (a + 256 * Y)) = sg 8 (bt a) := sg_c (fun k hk => by
        unfold bt
        have : (a + 256 * Y).testBit k = ((a + 256 * Y) % 2 ^ 8).testBit k := by
          rw [Nat.testBit_mod_two_pow, decide_eq_true hk, Bool.true_and]
        rw [this, show (a + 256 * Y) % 2 ^ 8 = a by omega])
      have e2 : (fun k => bt (a + 256 * Y) (8 + k)) = bt Y := funext fun k => by
        unfold bt
        rw [Nat.add_comm 8 k, Nat.testBit_add, show (a + 256 * Y) / 2 ^ 8 = Y by omega]
      rw [e1, e2]
    rw [eX, show (32 : Nat) = 8 + (8 + (8 + 8)) from rfl, sp _ a _ ha, sp _ b _ hb, sp _ c _ hc]
    congr 3
  have q1 : X - ((X / 2) &&& 1431655765) = n1 a + 256 * (n1 b + 256 * (n1 c + 256 * (n1 d + 256 * 0))) := by
    rw [eX, show (1431655765 : Nat) = 85 + 256 * (85 + 256 * (85 + 256 * (85 + 256 * 0))) from rfl, s1_b ha, s1_b hb, s1_b hc, s1_b hd, z_b.1]
  have q2 : ∀ Y, Y = n1 a + 256 * (n1 b + 256 * (n1 c + 256 * (n1 d + 256 * 0))) → (Y &&& 858993459) + ((Y / 4) &&& 858993459) = n2 (n1 a) + 256 * (n2 (n1 b) + 256 * (n2 (n1 c) + 256 * (n2 (n1 d) + 256 * 0))) := fun Y e => by
    rw [e, show (858993459 : Nat) = 51 + 256 * (51 + 256 * (51 + 256 * (51 + 256 * 0))) from rfl, s2_b a3, s2_b b3, s2_b c3, s2_b d3, z_b.2.1]
  have q3 : ∀ Y, Y = n2 (n1 a) + 256 * (n2 (n1 b) + 256 * (n2 (n1 c) + 256 * (n2 (n1 d) + 256 * 0))) → (Y + Y / 16) &&& 252645135 = sg 8 (bt a) + 256 * (sg 8 (bt b) + 256 * (sg 8 (bt c) + 256 * (sg 8 (bt d) + 256 * 0))) := fun Y e => by
    rw [e, show (252645135 : Nat) = 15 + 256 * (15 + 256 * (15 + 256 * (15 + 256 * 0))) from rfl, s3_b a1 (by omega), s3_b b1 (by omega), s3_b c1 (by omega), s3_b d1 (by omega), z_b.2.2, a4, b4, c4, d4]
  have r1 : bc1 (nI X) = nI (X - ((X / 2) &&& 1431655765)) := by
    unfold bc1
    have l1 : (X / 2) &&& 1431655765 ≤ X / 2 := Nat.and_le_left
    rw [show (1 : Int32) = nI 1 from rfl, bq_n hX (Or.inl rfl), show (1431655765 : Int32) = nI 1431655765 from rfl, nI_and, nI_sb (by show X / 2 ^ 1 &&& 1431655765 ≤ X; rw [Nat.pow_one]; omega), Nat.pow_one]
  have r2 : ∀ Y, Y < 2 ^ 31 → bc2 (nI Y) = nI ((Y &&& 858993459) + ((Y / 4) &&& 858993459)) := fun Y hY => by
    unfold bc2
    rw [show (2 : Int32) = nI 2 from rfl, bq_n hY (Or.inr (Or.inl rfl)), show (858993459 : Int32) = nI 858993459 from rfl, nI_and, nI_and, nI_add]
  have r3 : ∀ Y, Y < 2 ^ 31 → bc3 (nI Y) = nI ((Y + Y / 16) &&& 252645135) := fun Y hY => by
    unfold bc3
    rw [show (4 : Int32) = nI 4 from rfl, bq_n hY (Or.inr (Or.inr (Or.inl rfl))), show (252645135 : Int32) = nI 252645135 from rfl, nI_add, nI_and]
  unfold bc
  rw [r1, q1, r2 _ (by omega), q2 _ rfl, r3 _ (by omega), q3 _ rfl, pc]
  generalize sg 8 (bt a) = w1 at a5
  generalize sg 8 (bt b) = w2 at b5
  generalize sg 8 (bt c) = w3 at c5
  generalize sg 8 (bt d) = w4 at d5
  unfold bc4 bc5
  rw [show (8 : Int32) = nI 8 from rfl, bq_n (by omega) (Or.inr (Or.inr (Or.inr (Or.inl rfl)))), nI_add, show (16 : Int32) = nI 16 from rfl, bq_n (by omega) (Or.inr (Or.inr (Or.inr (Or.inr rfl)))), nI_add, show (63 : Int32) = nI 63 from rfl, nI_and, show (63 : Nat) = 2 ^ 6 - 1 from rfl, Nat.and_two_pow_sub_one_eq_mod, fin_b a5 b5 c5 d5]
