/-! the reference's small calls, by what the state stands for -/
/-! bits of small sets -/
def pc4 (x : Nat) : Nat := (if x.testBit 0 then 1 else 0) + (if x.testBit 1 then 1 else 0) + (if x.testBit 2 then 1 else 0) + (if x.testBit 3 then 1 else 0)
theorem b_tb : ∀ x, x < 16 → ∀ s, s < 4 → ((nI x >>> (nI s &&& 31)) &&& 1) = (if x.testBit s then 1 else 0) := by decide +kernel
theorem b_or : ∀ x, x < 16 → ∀ y, y < 16 → nI x ||| nI y = nI (x ||| y) := by decide +kernel
theorem b_xr : ∀ x, x < 16 → ∀ s, s < 4 → nI x ^^^ ((1 : Int32) <<< (nI s &&& 31)) = nI (x ^^^ 2 ^ s) := by decide +kernel
theorem b_pc : ∀ x, x < 16 → bc (nI x) = nI (pc4 x) := by decide +kernel
theorem b_sh : ∀ n, n ≤ 4 → (1 : Int32) <<< (nI n &&& 31) = nI (2 ^ n) := by decide +kernel
theorem b_or16 : ∀ x, x < 16 → ∀ y, y < 16 → x ||| y < 16 := by decide +kernel
theorem b_orN : ∀ n, n ≤ 4 → ∀ x, x < 16 → ∀ y, y < 16 → x < 2 ^ n → y < 2 ^ n → x ||| y < 2 ^ n := by decide +kernel
theorem b_xN : ∀ n, n ≤ 4 → ∀ x, x < 16 → ∀ s, s < 4 → x < 2 ^ n → s < n → x ^^^ 2 ^ s < 2 ^ n := by decide +kernel
theorem b_pw : ∀ n, n ≤ 4 → 2 ^ n ≤ 16 := by decide +kernel
theorem mOk.b {G : Nat} {M : aM} (h : mOk G M) : mB M < 16 ∧ mF M < 16 ∧ ∀ s f, mE M s f < 16 := by
  have h1 := b_pw _ h.2.1
  exact ⟨by have := h.2.2.1; omega, by have := h.2.2.2.1; omega, fun s f => by have := h.2.2.2.2.1 s f; omega⟩
theorem nI_mul (a b : Nat) : nI a * nI b = nI (a * b) := (Int32.ofNat_mul a b).symm
/-! where a set goes by a letter; how many edges there are; how many states of a set aren't final -/
def aftN (M : aM) (t c : Nat) : Nat → Nat
  | 0 => 0
  | s + 1 => if t.testBit s then aftN M t c s ||| mE M c s else aftN M t c s
def aft (M : aM) (t c : Nat) : Nat := aftN M t c 4
def ecn (M : aM) : Nat → Nat
  | 0 => 0
  | k + 1 => ecn M k + pc4 (mE M (k / 4) (k % 4))
def nfb (t f : Nat) : Nat := pc4 (t &&& (15 ^^^ f))
theorem b_nf : ∀ t, t < 16 → ∀ f, f < 16 → bc (nI t &&& (nI f ^^^ (-1))) = nI (nfb t f) := by decide +kernel
theorem b_pc4 (x : Nat) : pc4 x ≤ 4 := by unfold pc4; repeat' split
                                          all_goals omega
theorem aftN_lt {G : Nat} {M : aM} (h : mOk G M) (t c : Nat) : ∀ n, aftN M t c n < 2 ^ mN M := by
  intro n
  induction n with
  | zero => show 0 < _; exact Nat.pow_pos (by decide)
  | succ n ih =>
    unfold aftN
    split
    · have h1 := b_pw _ h.2.1
      have h2 := h.2.2.2.2.1 c n
      exact b_orN _ h.2.1 _ (by omega) _ (by omega) ih h2
    · exact ih
theorem aft_lt {G : Nat} {M : aM} (h : mOk G M) (t c : Nat) : aft M t c < 2 ^ mN M := aftN_lt h t c 4
theorem R0.m {A : aS} {σ : sS} (h : R0 A σ) {i : Nat} (hi : i < aC A) : rMa (aG A) (aMa A i) σ i := h.2.2.1.2.2.2.2 i hi
theorem R0.c {A : aS} {σ : sS} (h : R0 A σ) : aC A ≤ 3 ∧ aG A ≤ 3 := ⟨h.2.2.1.1, h.2.2.1.2.1⟩
theorem x_edgesOf {A : aS} {σ : sS} (h : R0 A σ) {i c s : Nat} (hi : i < aC A) (hc : c < 4) (hs : s < 4) : L_X12_edgesOf (nI i) (nI c) (nI s) σ = some (nI (mE (aMa A i) c s)) := by
  have h3 := h.c.1
  have e : (((16 : Int32) * nI i) + ((4 : Int32) * nI c)) + nI s = nI (16 * i + 4 * c + s) := by
    rw [show (16 : Int32) = nI 16 from rfl, show (4 : Int32) = nI 4 from rfl, nI_mul, nI_mul, nI_add, nI_add]
  unfold L_X12_edgesOf
  rw [e, inb_n (by omega) (by omega), nI_clamp (by omega), (h.m hi).2.2.2.2 c s hc hs]
  rfl
theorem x_aftL {A : aS} {σ : sS} {F : Nat} (h : R0 A σ) {i t c : Nat} (hi : i < aC A) (ht : t < 16) (hc : c < 4) (kx : Int32 → Option Int32) : ∀ (n s f : Nat), s + n = 4 → n < f → L_X12_afterOf_6 F (nI i) (nI t) (nI c) σ kx f (nI (aftN (aMa A i) t c s)) (nI s) = kx (nI (aft (aMa A i) t c)) := by
  have hm := (h.m hi).1
  have hb := b_pw _ hm.2.1
  intro n
  induction n with
  | zero =>
    intro s f hs hf
    obtain ⟨f, rfl⟩ : ∃ g, f = g + 1 := ⟨f - 1, by omega⟩
    have hs : s = 4 := by omega
    subst hs
    rw [L_X12_afterOf_6, if_pos (by decide)]
    rfl
  | succ n ih =>
    intro s f hs hf
    obtain ⟨f, rfl⟩ : ∃ g, f = g + 1 := ⟨f - 1, by omega⟩
    have h1 : aftN (aMa A i) t c s < 16 := by have := aftN_lt hm t c s; omega
    have h2 : mE (aMa A i) c s < 16 := by have := hm.2.2.2.2.1 c s; omega
    rw [L_X12_afterOf_6, if_neg (by rw [show (4 : Int32) = nI 4 from rfl]; exact nI_ge (by omega) (by omega)), b_tb t ht s (by omega)]
    have hN := ih (s + 1) f (by omega) (by omega)
    unfold aftN at hN
    by_cases hb : t.testBit s = true
    · rw [if_pos hb, if_pos rfl, x_edgesOf h hi hc (by omega)]
      rw [if_pos hb] at hN
      show L_X12_afterOf_6 F (nI i) (nI t) (nI c) σ kx f (nI _ ||| nI _) (nI s + 1) = _
      rw [b_or _ h1 _ h2, nI_1]
      exact hN
    · rw [if_neg hb, if_neg (by decide)]
      rw [if_neg hb] at hN
      rw [nI_1]
      exact hN
theorem x_afterOf {A : aS} {σ : sS} {F : Nat} (hF : 4 < F) (h : R0 A σ) {i t c : Nat} (hi : i < aC A) (ht : t < 16) (hc : c < 4) : L_X12_afterOf F (nI i) (nI t) (nI c) σ = some (nI (aft (aMa A i) t c)) := x_aftL h hi ht hc _ 4 0 F rfl hF
theorem x_ecnL {A : aS} {σ : sS} {F : Nat} (h : R0 A σ) {i : Nat} (hi : i < aC A) (kx : Int32 → Option Int32) : ∀ (n s f : Nat), s + n = 16 → n < f → L_X12_edgeMany_4 F (nI i) σ kx f (nI (ecn (aMa A i) s)) (nI s) = kx (nI (ecn (aMa A i) 16)) := by
  have hm := (h.m hi).1
  have h3 := h.c.1
  have hb := b_pw _ hm.2.1
  intro n
  induction n with
  | zero =>
    intro s f hs hf
    obtain ⟨f, rfl⟩ : ∃ g, f = g + 1 := ⟨f - 1, by omega⟩
    have hs : s = 16 := by omega
    subst hs
    rw [L_X12_edgeMany_4, if_pos (by decide)]
  | succ n ih =>
    intro s f hs hf
    obtain ⟨f, rfl⟩ : ∃ g, f = g + 1 := ⟨f - 1, by omega⟩
    have e : ((16 : Int32) * nI i) + nI s = nI (16 * i + 4 * (s / 4) + s % 4) := by
      rw [show (16 : Int32) = nI 16 from rfl, nI_mul, nI_add]
      congr 1
      omega
    have h2 : mE (aMa A i) (s / 4) (s % 4) < 16 := by have := hm.2.2.2.2.1 (s / 4) (s % 4); omega
    rw [L_X12_edgeMany_4, if_neg (by rw [show (16 : Int32) = nI 16 from rfl]; exact nI_ge (by omega) (by omega)), e, inb_n (by omega) (by omega), nI_clamp (by omega), (h.m hi).2.2.2.2 (s / 4) (s % 4) (by omega) (by omega)]
    show L_X12_edgeMany_4 F (nI i) σ kx f (nI _ + bc (nI _)) (nI s + 1) = _
    rw [b_pc _ h2, nI_add, nI_1]
    exact ih (s + 1) f (by omega) (by omega)
theorem x_edgeMany {A : aS} {σ : sS} {F : Nat} (hF : 16 < F) (h : R0 A σ) {i : Nat} (hi : i < aC A) : L_X12_edgeMany F (nI i) σ = some (nI (ecn (aMa A i) 16)) := x_ecnL h hi _ 16 0 F rfl hF
theorem x_isSet {A : aS} {σ : sS} (h : R0 A σ) {i : Nat} (hi : i < aC A) (t : Int32) : L_X12_isSet (nI i) t σ = some (if aOk (2 ^ mN (aMa A i)) t = true then 1 else 0) := by
  have hm := (h.m hi).1
  have h3 := h.c.1
  have hb := b_pw _ hm.2.1
  unfold L_X12_isSet
  rw [inb_n (by omega) (by omega), nI_clamp (by omega), (h.m hi).2.1, b_sh _ hm.2.1, x_inA (by omega)]
  split <;> rfl
theorem x_boundOf {A : aS} {σ : sS} (h : R0 A σ) {i t : Nat} (hi : i < aC A) (ht : t < 16) : L_X12_boundOf (nI i) (nI t) σ = some (2 * nI (nfb t (mF (aMa A i))) - 1) := by
  have hm := (h.m hi).1
  have h3 := h.c.1
  unfold L_X12_boundOf
  rw [inb_n (by omega) (by omega), nI_clamp (by omega), (h.m hi).2.2.2.1, b_nf t ht _ hm.b.2.1]
  rfl
/-! what the calls answer -/
def sp_automaton (A : aS) (a w : Int32) : Int32 × aS := if aOk (aC A) a = true then (if w = 0 then aGood A (nI (mN (aMa A a.toNatClampNeg))) else if w = 1 then aGood A (nI (mB (aMa A a.toNatClampNeg))) else if w = 2 then aGood A (nI (mF (aMa A a.toNatClampNeg))) else if w = 3 then aGood A (nI (ecn (aMa A a.toNatClampNeg) 16)) else if w = 4 then aGood A (nI (aG A)) else aRef A 1) else aRef A 1
def aSt (A : aS) (a s : Int32) : Prop := aOk (aC A) a = true ∧ aOk (mN (aMa A a.toNatClampNeg)) s = true
def sp_after (A : aS) (a t c : Int32) : Int32 × aS := if aOk (aC A) a = true then (if aOk (aG A) c = true then (if aOk (2 ^ mN (aMa A a.toNatClampNeg)) t = true then aGood A (nI (aft (aMa A a.toNatClampNeg) t.toNatClampNeg c.toNatClampNeg)) else aRef A 2) else aRef A 1) else aRef A 1
def sp_bound (A : aS) (a t : Int32) : Int32 × aS := if aOk (aC A) a = true then (if aOk (2 ^ mN (aMa A a.toNatClampNeg)) t = true then aGood A (if nfb t.toNatClampNeg (mF (aMa A a.toNatClampNeg)) = 0 then -2 else nI (2 * nfb t.toNatClampNeg (mF (aMa A a.toNatClampNeg)) - 1)) else aRef A 2) else aRef A 1
theorem R0.z {A : aS} {σ : sS} (h : R0 A σ) (x : Int32) : R0 A (uI σ 90 0 x) := h.set (by decide)
theorem x_fault {A : aS} {σ : sS} (h : R0 A σ) : ∃ τ, L_X12_fault σ = some (aF A, τ) ∧ R0 A τ := ⟨uI σ 90 0 0, by rw [← h.2.1.1]; rfl, h.z 0⟩
theorem x_where {A : aS} {σ : sS} (h : R0 A σ) : ∃ τ, L_X12_where σ = some (aW A, τ) ∧ R0 A τ := ⟨uI σ 90 0 0, by rw [← h.2.1.2.2.1]; rfl, h.z 0⟩
theorem x_size {A : aS} {σ : sS} (h : R0 A σ) : ∃ τ, L_X12_size σ = some (nI (aT A), τ) ∧ R0 A τ := ⟨uI σ 90 0 0, by rw [← h.1.2.1]; rfl, h.z 0⟩
theorem x_trouble {A : aS} {σ : sS} (h : R0 A σ) : ∃ τ, L_X12_trouble σ = some (aU A, τ) ∧ R0 A τ := ⟨uI σ 90 0 0, by rw [← h.2.1.2.1]; rfl, h.z 0⟩
theorem x_met {A : aS} {σ : sS} (h : R0 A σ) : ∃ τ, L_X12_met σ = some (aTh A, τ) ∧ R0 A τ := ⟨uI σ 90 0 0, by rw [← h.2.1.2.2.2]; rfl, h.z 0⟩
theorem x_refR {A : aS} {σ : sS} (h : R0 A σ) (w : Int32) : ∃ τ, (bd2 (L_X12_refused w σ) (fun r t => some (r, t))) = some ((aRef A w).1, τ) ∧ R0 (aRef A w).2 τ := ⟨_, rfl, h.ans w (-1)⟩
theorem x_goodR {A : aS} {σ : sS} (h : R0 A σ) (v : Int32) : ∃ τ, (bd2 (L_X12_good v σ) (fun r t => some (r, t))) = some ((aGood A v).1, τ) ∧ R0 (aGood A v).2 τ := ⟨_, rfl, h.ans 0 (-1)⟩
theorem bd_s {α β : Type} {x : α} {f : α → Option β} : bd (some x) f = f x := rfl
theorem bnd_s {α β : Type} {x : α} {f : α → β} : bnd x f = f x := rfl
theorem i1n0 : ¬ (1 : Int32) = 0 := by decide
theorem x_automaton {A : aS} {σ : sS} {F : Nat} (hF : 16 < F) (h : R0 A σ) (a w : Int32) : ∃ τ, L_X12_automaton F a w σ = some ((sp_automaton A a w).1, τ) ∧ R0 (sp_automaton A a w).2 τ := by
  have h := h.z 0
  unfold L_X12_automaton sp_automaton
  simp only [bnd_s]
  rw [x_isAuto h]
  simp only [bd_s]
  have h3 := h.c.1
  generalize uI σ 90 0 0 = ρ at h ⊢
  by_cases ha : aOk (aC A) a = true
  · obtain ⟨i, hi, rfl⟩ := aOk_t ha (by omega)
    rw [if_pos ha, if_pos ha, nI_clamp (by omega)]
    rw [if_neg i1n0, inb_n (by omega) (by omega), (h.m hi).2.1, (h.m hi).2.2.1, (h.m hi).2.2.2.1, x_edgeMany hF h hi, h.2.2.1.2.2.2.1]
    by_cases w0 : w = 0
    · rw [if_pos w0, if_pos w0]; exact x_goodR h _
    · rw [if_neg w0, if_neg w0]
      by_cases w1 : w = 1
      · rw [if_pos w1, if_pos w1]; exact x_goodR h _
      · rw [if_neg w1, if_neg w1]
        by_cases w2 : w = 2
        · rw [if_pos w2, if_pos w2]; exact x_goodR h _
        · rw [if_neg w2, if_neg w2]
          by_cases w3 : w = 3
          · rw [if_pos w3, if_pos w3]; exact x_goodR h _
          · rw [if_neg w3, if_neg w3]
            by_cases w4 : w = 4
            · rw [if_pos w4, if_pos w4]; exact x_goodR h _
            · rw [if_neg w4, if_neg w4]; exact x_refR h _
  · rw [if_neg ha, if_neg ha]
    exact x_refR h 1
theorem x_after {A : aS} {σ : sS} {F : Nat} (hF : 4 < F) (h : R0 A σ) (a t c : Int32) : ∃ τ, L_X12_after F a t c σ = some ((sp_after A a t c).1, τ) ∧ R0 (sp_after A a t c).2 τ := by
  have h := h.z 0
  unfold L_X12_after sp_after
  simp only [bnd_s]
  rw [x_isAuto h]
  simp only [bd_s]
  have h3 := h.c
  generalize uI σ 90 0 0 = ρ at h ⊢
  by_cases ha : aOk (aC A) a = true
  · obtain ⟨i, hi, rfl⟩ := aOk_t ha (by omega)
    have hm := (h.m hi).1
    have hb := b_pw _ hm.2.1
    rw [if_pos ha, if_pos ha, nI_clamp (by omega)]
    rw [if_neg i1n0, x_isLetter h]
    simp only [bd_s]
    by_cases hc : aOk (aG A) c = true
    · rw [if_pos hc, if_pos hc]
      rw [if_neg i1n0, x_isSet h hi]
      simp only [bd_s]
      by_cases ht : aOk (2 ^ mN (aMa A i)) t = true
      · obtain ⟨k, hk, rfl⟩ := aOk_t ht (by omega)
        obtain ⟨j, hj, rfl⟩ := aOk_t hc (by omega)
        rw [if_pos ht, if_pos ht, nI_clamp (by omega), nI_clamp (by omega)]
        rw [if_neg i1n0, x_afterOf hF h hi (by omega) (by omega)]
        exact x_goodR h _
      · rw [if_neg ht, if_neg ht]
        exact x_refR h 2
    · rw [if_neg hc, if_neg hc]
      exact x_refR h 1
  · rw [if_neg ha, if_neg ha]
    exact x_refR h 1
