def la_tab : List (Nat × Nat) := [(1, 10), (1, 8), (7, 0), (1, 4), (7, 0), (7, 0), (7, 0), (7, 0), (5, 3), (1, 0), (1, 0), (1, 0), (7, 0), (7, 0), (7, 0), (1, 3), (7, 0), (5, 3), (6, 3), (1, 2), (7, 0), (7, 0), (7, 0), (7, 0), (7, 0), (7, 0), (7, 0), (1, 0), (1, 0), (1, 0), (7, 0), (7, 0), (7, 0), (1, 1), (1, 1), (1, 1), (7, 0), (7, 0), (7, 0), (7, 0), (7, 0), (7, 0), (7, 0), (7, 0), (7, 0), (1, 5), (7, 0), (7, 0), (7, 0), (7, 0), (1, 9), (7, 0), (7, 0), (7, 0), (7, 0), (7, 0), (1, 7), (7, 0), (7, 0), (7, 0), (7, 0), (7, 0), (0, 0), (0, 0), (0, 0), (0, 0), (0, 0), (0, 0), (0, 0), (0, 0), (0, 0), (0, 0), (0, 0), (0, 0), (0, 0), (0, 0), (0, 0), (0, 0), (0, 0), (0, 0), (3, 1), (0, 0), (0, 0), (0, 0), (0, 0), (0, 0), (0, 0), (0, 0), (0, 0), (0, 0), (1, 11), (0, 0), (0, 0), (0, 0), (0, 0), (0, 0), (0, 0), (0, 0), (0, 0), (0, 0), (0, 0), (0, 0), (0, 0), (2, 400), (0, 0), (0, 0), (0, 0), (0, 0), (0, 0), (0, 0), (0, 0), (0, 0), (0, 0), (0, 0), (2, 6), (2, 6), (2, 6), (2, 96), (3, 3), (0, 0), (0, 0), (0, 0), (0, 0), (2, 4), (2, 300), (2, 300), (2, 300), (2, 300), (2, 300), (2, 1024), (2, 901), (2, 270300), (0, 0), (0, 0), (0, 0), (0, 0), (2, 4), (0, 0), (0, 0), (2, 10), (2, 10), (0, 0), (0, 0), (2, 1000), (2, 1000), (2, 1000), (2, 2400), (0, 0), (0, 0), (2, 3000), (2, 3000), (2, 3000), (4, 3000), (0, 0), (2, 3000), (2, 3000), (2, 3000), (2, 3000), (2, 3000), (4, 3000), (4, 3000), (0, 0), (0, 0), (0, 0), (4, 300), (4, 300), (2, 1000), (2, 1001)]
/-- what an id is: (1, class), (2, n) ints, (3, n) longs, (4, n) booleans, (5, n) and (6, n) rows of objects, (7, 0) a Row with its cells -/
def la (a : Nat) : Nat × Nat := la_tab.getD a (0, 0)
def sr_tab : List (List (Option Nat)) := [[some 1, some 3, some 15, some 17, some 18, some 19, some 45, some 50, some 56], [some 2], [], [some 1, some 4, some 5, some 8, some 6, some 7], [], [], [], [], [some 9, some 10, some 11], [some 12], [some 13], [some 14], [], [], [], [some 16], [], [some 27, some 28, some 29], [some 33, some 34, some 35], [some 20, some 21, some 22, some 23, some 24, some 25], [], [], [], [], [], [], [], [some 30], [some 31], [some 32], [], [], [], [some 27, some 15, some 26, some 36, some 39, some 42], [some 28, some 15, some 26, some 37, some 40, some 43], [some 29, some 15, some 26, some 38, some 41, some 44], [], [], [], [], [], [], [], [], [], [some 19, none, none, some 48, some 49], [], [], [], [], [some 51, some 52, some 53, some 54, some 55], [], [], [], [], [], [some 19, some 57, some 58, some 59, some 60, some 61], [], [], [], [], [], [], [], [], [], [], [], [], [], [], [], [], [], [], [], [], [], [], [], [], [], [], [], [], [], [], [], [], [], [none, none, none, some 103, none, none, none, none, none, none, none, none, none, none, some 114, some 115, some 116, some 117, some 118, none, none, none, none, some 123, some 124, some 125, some 126, some 127, some 128, some 129, some 130, some 131, none, none, none, none, some 136, none, none, some 139, some 140, none, none, some 143, some 144, some 145, some 146, none, none, some 149, some 150, some 151, some 152, none, some 154, some 155, some 156, some 157, some 158, some 159, some 160, none, none, none, some 164, some 165, some 166, some 167, none, none, none, none]]
/-- references that never change -/
def sr (a k : Nat) : Option Nat := (sr_tab.getD a []).getD k none
def kd_tab : List (List Nat) := [[2, 0, 0, 0, 0], [2, 2, 2, 2, 2, 2, 0, 0], [2, 2, 2, 2, 2, 2, 0, 0, 0], [2, 0, 0, 0, 0], [2, 2, 2, 2, 2, 2, 0, 0], [2, 3, 3, 2, 2, 3, 3, 0], [2, 0], [2, 2, 2, 2, 2, 2, 0, 0, 0], [2, 0, 0, 0, 0, 0, 0, 0, 0], [2, 2, 2, 2, 2, 3, 3, 0, 0], [2, 2, 2, 2, 2, 2, 2, 2, 2, 0, 0, 0], [0, 0, 0, 2, 0, 0, 0, 0, 0, 0, 0, 0, 0, 1, 2, 2, 2, 2, 2, 0, 0, 0, 0, 2, 2, 2, 2, 2, 2, 2, 2, 2, 0, 0, 0, 0, 2, 0, 0, 2, 2, 0, 0, 2, 2, 2, 2, 0, 0, 2, 2, 2, 2, 0, 2, 2, 2, 2, 2, 2, 2, 0, 0, 0, 2, 2, 2, 2, 0, 0, 0, 0]]
/-- the kinds of a class's fields: 0 int, 1 long, 2 a reference that never changes, 3 one that may -/
def kd (ci : Nat) : List Nat := kd_tab.getD ci []
abbrev sS : Type := (Nat → Nat → Int32) × (Nat → Nat → Int64) × (Nat → Nat → Option Nat) × (Nat → Int32) × (Nat → Nat) × Nat × Nat
def vI (σ : sS) (a k : Nat) : Int32 := σ.1 a k
def vL (σ : sS) (a k : Nat) : Int64 := σ.2.1 a k
def vR (σ : sS) (a k : Nat) : Option Nat := σ.2.2.1 a k
def vU (σ : sS) (a : Nat) : Int32 := σ.2.2.2.1 a
def vC (σ : sS) (a : Nat) : Nat := σ.2.2.2.2.1 a
def vk (σ : sS) : Nat × Nat := σ.2.2.2.2.2
def u2 {α : Type} (f : Nat → Nat → α) (a k : Nat) (x : α) : Nat → Nat → α := fun b j => if b = a ∧ j = k then x else f b j
def u1 {α : Type} (f : Nat → α) (a : Nat) (x : α) : Nat → α := fun b => if b = a then x else f b
def uI (σ : sS) (a k : Nat) (x : Int32) : sS := (u2 σ.1 a k x, σ.2)
def uL (σ : sS) (a k : Nat) (x : Int64) : sS := (σ.1, u2 σ.2.1 a k x, σ.2.2)
def uR (σ : sS) (a k : Nat) (x : Option Nat) : sS := (σ.1, σ.2.1, u2 σ.2.2.1 a k x, σ.2.2.2)
def uU (σ : sS) (a : Nat) (x : Int32) : sS := (σ.1, σ.2.1, σ.2.2.1, u1 σ.2.2.2.1 a x, σ.2.2.2.2)
theorem u2_s {α : Type} (f : Nat → Nat → α) (a k : Nat) (x : α) : u2 f a k x a k = x := by simp [u2]
theorem u2_n {α : Type} {f : Nat → Nat → α} {a k b j : Nat} {x : α} (h : b ≠ a ∨ j ≠ k) : u2 f a k x b j = f b j := by
  unfold u2
  rw [if_neg]
  rintro ⟨h1, h2⟩
  rcases h with h | h
  · exact h h1
  · exact h h2
theorem u2_r {α : Type} {f : Nat → Nat → α} {a k b : Nat} {x : α} (h : b ≠ a) : u2 f a k x b = f b := funext fun j => u2_n (Or.inl h)
def fw (ad : Nat → Nat) (σ : sS) (a : Nat) (q : Nat × Nat) : Value := if q.1 = 0 then .int (vI σ a q.2) else if q.1 = 1 then .long (vL σ a q.2) else if q.1 = 2 then va_rf ((sr a q.2).map ad) else va_rf ((vR σ a q.2).map ad)
def fv (ad : Nat → Nat) (σ : sS) (a ci : Nat) : List Value := (kd ci).zipIdx.map (fw ad σ a)
theorem fv_at {ad : Nat → Nat} {σ : sS} {a ci k t : Nat} (h : (kd ci)[k]? = some t) : (fv ad σ a ci)[k]? = some (fw ad σ a (t, k)) := by
  unfold fv
  rw [List.getElem?_map, List.getElem?_zipIdx, h]
  simp
theorem fv_len {ad : Nat → Nat} {σ : sS} {a ci : Nat} : (fv ad σ a ci).length = (kd ci).length := by simp [fv]
theorem fv_ext {ad : Nat → Nat} {σ σ' : sS} {a ci : Nat} (h : ∀ k t, (kd ci)[k]? = some t → fw ad σ a (t, k) = fw ad σ' a (t, k)) : fv ad σ a ci = fv ad σ' a ci := by
  apply List.ext_getElem?
  intro k
  cases hk : (kd ci)[k]? with
  | none =>
    have h1 : (kd ci).length ≤ k := List.getElem?_eq_none_iff.mp hk
    rw [List.getElem?_eq_none_iff.mpr (by rw [fv_len]; exact h1), List.getElem?_eq_none_iff.mpr (by rw [fv_len]; exact h1)]
  | some t => rw [fv_at hk, fv_at hk, h k t hk]
theorem fv_set {ad : Nat → Nat} {σ σ' : sS} {a ci k t : Nat} {v : Value} (hk : (kd ci)[k]? = some t) (hv : fw ad σ' a (t, k) = v) (h : ∀ j u, j ≠ k → fw ad σ a (u, j) = fw ad σ' a (u, j)) : (fv ad σ a ci).set k v = fv ad σ' a ci := by
  apply List.ext_getElem?
  intro j
  have hl : k < (fv ad σ a ci).length := by rw [fv_len]; exact (List.getElem?_eq_some_iff.mp hk).1
  by_cases hj : j = k
  · subst hj
    rw [List.getElem?_set_self hl, fv_at hk, hv]
  · rw [List.getElem?_set_ne (Ne.symm hj)]
    cases hu : (kd ci)[j]? with
    | none =>
      have h1 : (kd ci).length ≤ j := List.getElem?_eq_none_iff.mp hu
      rw [List.getElem?_eq_none_iff.mpr (by rw [fv_len]; exact h1), List.getElem?_eq_none_iff.mpr (by rw [fv_len]; exact h1)]
    | some u => rw [fv_at hu, fv_at hu, h j u hj]
/-- the cell of an id -/
def ce (ad ar : Nat → Nat) (σ : sS) (a : Nat) : va_E := match (la a).1 with
  | 1 => .inr ((la a).2, fv ad σ a (la a).2)
  | 2 => .inl (0, (la a).2, .inl (vI σ a))
  | 3 => .inl (1, (la a).2, .inr (.inl (vL σ a)))
  | 4 => .inl (2, (la a).2, .inl (vI σ a))
  | 5 => .inl (3, (la a).2, .inr (.inr (.inr (.inr (fun i => (sr a i).map ad)))))
  | 6 => .inl (4, (la a).2, .inr (.inr (.inr (.inr (fun i => (sr a i).map ad)))))
  | _ => .inr (6, [.ref (ar a), .int (vU σ a)])
/-- the heap holds the state, the Rows' cells at ar -/
def sA (ad ar : Nat → Nat) (σ : sS) (g : ab_S) : Prop :=
  (∀ a, (la a).1 ≠ 0 → g.1 (ad a) = some (ce ad ar σ a)) ∧
  (∀ a, (la a).1 = 7 → ∃ f : Nat → Int32, g.1 (ar a) = some (.inl (0, vC σ a, .inl f)) ∧ (∀ i, i < vC σ a → f i = vI σ a i) ∧ (∀ i, vC σ a ≤ i → vI σ a i = 0) ∧ vC σ a ≤ 270000) ∧
  (∀ a b, (la a).1 = 7 → (la b).1 = 7 → ar a = ar b → a = b) ∧ (∀ a b, (la a).1 = 7 → (la b).1 ≠ 0 → ar a ≠ ad b) ∧
  (∀ a b, (la a).1 ≠ 0 → (la b).1 ≠ 0 → ad a = ad b → a = b) ∧ (∀ q, (g.1 q).isSome = true → q < g.2.1) ∧ ((g.2.2.1, g.2.2.2.1) = vk σ ∧ g.2.2.2.2 = fun i => ad (200 + i))
def sR (ad : Nat → Nat) (σ : sS) (g : ab_S) : Prop := ∃ ar, sA ad ar σ g
theorem ab_up_s {h : ab_H} {a : Nat} {e : va_E} : ab_up h a e a = some e := by simp [ab_up]
theorem ab_up_n {h : ab_H} {a b : Nat} {e : va_E} (hb : b ≠ a) : ab_up h a e b = h b := by simp [ab_up, hb]
theorem ab_up_some {h : ab_H} {a q : Nat} {e : va_E} (hq : (ab_up h a e q).isSome = true) : q = a ∨ (h q).isSome = true := by
  by_cases hqa : q = a
  · exact Or.inl hqa
  · rw [ab_up_n hqa] at hq
    exact Or.inr hq
/-- one cell changes, of a place with an id -/
theorem sA.upd {ad ar : Nat → Nat} {σ σ' : sS} {g : ab_S} {a : Nat} {e : va_E} (h : sA ad ar σ g) (ha : (la a).1 ≠ 0) (he : e = ce ad ar σ' a) (hs : ∀ b, b ≠ a → ce ad ar σ' b = ce ad ar σ b) (hr : ∀ b, (la b).1 = 7 → vC σ' b = vC σ b ∧ vI σ' b = vI σ b) (hc : vk σ' = vk σ) : sA ad ar σ' (ab_up g.1 (ad a) e, g.2) := by
  obtain ⟨h1, h2, h3, h4, h5, h6, h7⟩ := h
  refine ⟨fun b hb => ?_, fun b hb => ?_, h3, h4, h5, fun q hq => ?_, h7.1.trans hc.symm, h7.2⟩
  · by_cases hba : b = a
    · subst hba
      show ab_up g.1 (ad b) e (ad b) = _
      rw [ab_up_s, he]
    · show ab_up g.1 (ad a) e (ad b) = _
      rw [ab_up_n (fun q => hba (h5 b a hb ha q)), h1 b hb, hs b hba]
  · obtain ⟨f, f1, f2, f3, f4⟩ := h2 b hb
    refine ⟨f, ?_, ?_, ?_, ?_⟩
    · show ab_up g.1 (ad a) e (ar b) = _
      rw [ab_up_n (h4 b a hb ha), f1, (hr b hb).1]
    · rw [(hr b hb).1, (hr b hb).2]; exact f2
    · rw [(hr b hb).1, (hr b hb).2]; exact f3
    · rw [(hr b hb).1]; exact f4
  · rcases ab_up_some hq with rfl | h8
    · exact h6 _ (by rw [h1 a ha]; rfl)
    · exact h6 q h8
theorem ce_obj {ad ar : Nat → Nat} {σ : sS} {a ci : Nat} (h : la a = (1, ci)) : ce ad ar σ a = .inr (ci, fv ad σ a ci) := by simp [ce, h]
theorem ce_I {ad ar : Nat → Nat} {σ : sS} {a n : Nat} (h : la a = (2, n)) : ce ad ar σ a = .inl (0, n, .inl (vI σ a)) := by simp [ce, h]
theorem ce_L {ad ar : Nat → Nat} {σ : sS} {a n : Nat} (h : la a = (3, n)) : ce ad ar σ a = .inl (1, n, .inr (.inl (vL σ a))) := by simp [ce, h]
theorem ce_Z {ad ar : Nat → Nat} {σ : sS} {a n : Nat} (h : la a = (4, n)) : ce ad ar σ a = .inl (2, n, .inl (vI σ a)) := by simp [ce, h]
theorem ce_M {ad ar : Nat → Nat} {σ : sS} {a n : Nat} (h : la a = (5, n)) : ce ad ar σ a = .inl (3, n, .inr (.inr (.inr (.inr (fun i => (sr a i).map ad))))) := by simp [ce, h]
theorem ce_O {ad ar : Nat → Nat} {σ : sS} {a n : Nat} (h : la a = (6, n)) : ce ad ar σ a = .inl (4, n, .inr (.inr (.inr (.inr (fun i => (sr a i).map ad))))) := by simp [ce, h]
theorem ce_R {ad ar : Nat → Nat} {σ : sS} {a : Nat} (h : la a = (7, 0)) : ce ad ar σ a = .inr (6, [.ref (ar a), .int (vU σ a)]) := by simp [ce, h]
theorem la_7 {a : Nat} (h : (la a).1 = 7) : la a = (7, 0) := by
  have h0 : ∀ q ∈ la_tab, q.1 = 7 → q = (7, 0) := by decide +kernel
  by_cases hl : a < la_tab.length
  · have h2 : la a = la_tab[a] := by simp [la, hl]
    rw [h2] at h ⊢
    exact h0 _ (List.getElem_mem hl) h
  · have h2 : la a = (0, 0) := by simp [la, Nat.not_lt.mp hl]
    rw [h2] at h
    cases h
/-- the cells of other ids don't see a change of one id's numbers -/
theorem ce_other {ad ar : Nat → Nat} {σ σ' : sS} {b : Nat} (h1 : vI σ' b = vI σ b) (h2 : vL σ' b = vL σ b) (h3 : vR σ' b = vR σ b) (h4 : vU σ' b = vU σ b) : ce ad ar σ' b = ce ad ar σ b := by
  have hf : ∀ ci, fv ad σ' b ci = fv ad σ b ci := fun ci => fv_ext (fun k t _ => by simp only [fw, h1, h2, h3])
  simp only [ce, hf, h1, h2, h4]

