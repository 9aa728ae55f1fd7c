/-! lifted methods: what a method does, as a function that may fail (none: fuel is out, an index is out of its row ..) -/
def bnd {α β : Type} (x : α) (f : α → β) : β := f x
theorem bnd_at {α β : Type} {x y : α} {f : α → β} {z : β} (h : bnd x f = z) (e : y = x) : f y = z := by rw [e]; exact h
def bd {α β : Type} (o : Option α) (f : α → Option β) : Option β := match o with
  | none => none
  | some y => f y
theorem bd_at {α β : Type} {o : Option α} {f : α → Option β} {z : β} (h : bd o f = some z) : ∃ y, o = some y ∧ f y = some z := by
  cases o with
  | none => cases h
  | some y => exact ⟨y, rfl, h⟩
def bd2 {α β : Type} (o : Option (α × sS)) (f : α → sS → Option β) : Option β := match o with
  | none => none
  | some y => f y.1 y.2
theorem bd2_at {α β : Type} {o : Option (α × sS)} {f : α → sS → Option β} {z : β} (h : bd2 o f = some z) : ∃ r τ, o = some (r, τ) ∧ f r τ = some z := by
  cases o with
  | none => cases h
  | some y => exact ⟨y.1, y.2, rfl, h⟩
def grd {β : Type} (b : Bool) (a : Option β) : Option β := match b with
  | true => a
  | false => none
theorem grd_at {β : Type} {b : Bool} {a : Option β} {z : β} (h : grd b a = some z) : b = true ∧ a = some z := by
  cases b with
  | false => cases h
  | true => exact ⟨rfl, h⟩
theorem ifp {α : Type} {c : Prop} [Decidable c] {a b z : α} (h : (if c then a else b) = z) (hc : c) : a = z := by rw [if_pos hc] at h; exact h
theorem ifn {α : Type} {c : Prop} [Decidable c] {a b z : α} (h : (if c then a else b) = z) (hc : ¬ c) : b = z := by rw [if_neg hc] at h; exact h
theorem lfI {v : Int32} {σ : sS} {z : Int32 × sS} (h : some (v, σ) = some z) : some (Value.int v) = some (Value.int z.1) ∧ σ = z.2 := by cases h; exact ⟨rfl, rfl⟩
theorem lfV {σ z : sS} (h : some σ = some z) : (none : Option Value) = none ∧ σ = z := by cases h; exact ⟨rfl, rfl⟩
theorem lfP {v z : Int32} {σ : sS} (h : some v = some z) : some (Value.int v) = some (Value.int z) ∧ σ = σ := by cases h; exact ⟨rfl, rfl⟩
theorem lfPL {v z : Int64} {σ : sS} (h : some v = some z) : some (Value.long v) = some (Value.long z) ∧ σ = σ := by cases h; exact ⟨rfl, rfl⟩
theorem lfT {v z : Int32} {σ : sS} (h : v = z) : some (Value.int v) = some (Value.int z) ∧ σ = σ := by cases h; exact ⟨rfl, rfl⟩
def is01 (x : Int32) : Bool := decide (x = 0) || decide (x = 1)
theorem is01_of {x : Int32} (h : is01 x = true) : x = 0 ∨ x = 1 := by simpa [is01] using h
theorem nar01 {x : Int32} (h : is01 x = true) : narrow .boolean (.int x) = .int x := by rcases is01_of h with rfl | rfl <;> decide
theorem fit01 {x : Int32} (h : is01 x = true) : fits .boolean (.int x) = true := by rcases is01_of h with rfl | rfl <;> decide
theorem vnar01 {x : Int32} (h : is01 x = true) : vp_nar .boolean x = x := by rcases is01_of h with rfl | rfl <;> decide
def inb (i : Int32) (n : Nat) : Bool := decide (0 ≤ i) && decide (i.toNatClampNeg < n)
theorem inb_sp {i : Int32} {n : Nat} (h : inb i n = true) : 0 ≤ i ∧ i.toNatClampNeg < n := by simpa [inb] using h
theorem inb_of {i : Int32} {n : Nat} (h : inb i n = true) : vp_in i n := by
  obtain ⟨h1, h2⟩ := inb_sp h
  rintro (h3 | h3)
  · exact absurd h3 (Int32.not_lt.mpr h1)
  · omega
def inl (k a : Nat) (i : Int32) : Bool := decide ((la a).1 = k) && inb i (la a).2
theorem inl_la {k a : Nat} {i : Int32} (h : inl k a i = true) : la a = (k, (la a).2) := by
  have h1 : (la a).1 = k := of_decide_eq_true (Bool.and_eq_true_iff.mp h).1
  rw [← h1]
theorem inl_in {k a : Nat} {i : Int32} (h : inl k a i = true) : vp_in i (la a).2 := inb_of (Bool.and_eq_true_iff.mp h).2
theorem nz_of {x : Int32} (h : (!decide (x = (0 : Int32))) = true) : ¬ x = 0 := by simpa using h
theorem r_topl {S : Type} {Rp : S → ab_S → Prop} {X : ab_M} {d pc : Nat} {lo : List (Nat × Value)} {st : List Value} {σ : S} {Q : Option Value → S → Prop} {e : Int64} (K : ∀ x, x = e → ab_E Rp X d pc lo (.long x :: st) σ Q) : ab_E Rp X d pc lo (.long e :: st) σ Q := K e rfl
theorem toI_ne {w : Int32} {k : Int32} (h : ¬ w = k) : ¬ w.toInt = k.toInt := fun e => h (Int32.toInt_inj.mp e)
theorem tb_o4 {w : Int32} (w0 : ¬ w = 0) (w1 : ¬ w = 1) (w2 : ¬ w = 2) (w3 : ¬ w = 3) : w.toInt < 0 ∨ 3 < w.toInt := by
  have e0 : ¬ w.toInt = 0 := toI_ne w0
  have e1 : ¬ w.toInt = 1 := toI_ne w1
  have e2 : ¬ w.toInt = 2 := toI_ne w2
  have e3 : ¬ w.toInt = 3 := toI_ne w3
  omega
theorem tb_o5 {w : Int32} (w0 : ¬ w = 0) (w1 : ¬ w = 1) (w2 : ¬ w = 2) (w3 : ¬ w = 3) (w4 : ¬ w = 4) : w.toInt < 0 ∨ 4 < w.toInt := tb_out w0 w1 w2 w3 w4
theorem c_charAtI {ad : Nat → Nat} (σ : sS) {i : Nat} {j : Int32} (hi : i < 6) (h : inb j (ab_len.getD i 0) = true) : ab_X (sR ad) 4 mJ0_charAt_5068e [.ref (ad (200 + i)), .int j] σ (some (.int ((ab_byt.getD i []).getD j.toNatClampNeg 0))) σ := by
  obtain ⟨h1, h2⟩ := inb_sp h
  have e : nI j.toNatClampNeg = j := nI_cl (Int32.not_lt.mpr h1)
  have h3 := c_charAt (ad := ad) σ hi h2
  rw [e] at h3
  exact h3
