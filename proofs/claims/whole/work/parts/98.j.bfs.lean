/-! going wide, in the abstract; how the reference does it -/
abbrev bS : Type := List Nat × (Nat → Option (Nat × Nat))
def bm (x : Nat) (w : Option (Nat × Nat)) (S : bS) : bS := if x ∈ S.1 then S else (S.1 ++ [x], pu S.2 x w)
def bE (v : Nat) : List (Nat × Nat) → bS → bS
  | [], S => S
  | e :: l, S => bE v l (bm e.2 (some (v, e.1 / 2048)) S)
def bA (el : Nat → List (Nat × Nat)) : Nat → Nat → bS → bS
  | 0, _, S => S
  | n + 1, k, S => if k < S.1.length then bA el n (k + 1) (bE (S.1.getD k 0) (el (S.1.getD k 0)) S) else S
/-- where edges go -/
def esc (el : Nat → List (Nat × Nat)) (v : Nat) : List Nat := (el v).map (fun e => e.2)
theorem esc_mem {el : Nat → List (Nat × Nat)} {v t : Nat} : t ∈ esc el v ↔ ∃ e, e ∈ el v ∧ e.2 = t := List.mem_map
def bO (V : Nat → Prop) (el : Nat → List (Nat × Nat)) : Prop := (∀ p, V p → p < 3000) ∧ ∀ p, V p → (el p).Pairwise (fun a b => a.1 < b.1) ∧ ∀ e, e ∈ el p → e.1 < 6144 ∧ V e.2
theorem bm_in {x : Nat} {w : Option (Nat × Nat)} {S : bS} : x ∈ (bm x w S).1 ∧ ∃ l, (bm x w S).1 = S.1 ++ l := by
  unfold bm
  by_cases h : x ∈ S.1
  · rw [if_pos h]; exact ⟨h, [], (List.append_nil _).symm⟩
  · rw [if_neg h]; exact ⟨by simp, [x], rfl⟩
theorem bm_nd {x : Nat} {w : Option (Nat × Nat)} {S : bS} (h : S.1.Nodup) : (bm x w S).1.Nodup := by
  unfold bm
  by_cases c : x ∈ S.1
  · rw [if_pos c]; exact h
  · rw [if_neg c]
    exact List.nodup_append.mpr ⟨h, List.nodup_cons.mpr ⟨fun q => (nomatch q), List.nodup_nil⟩, fun a ha b hb e => c (by rw [List.mem_singleton.mp hb] at e; rw [← e]; exact ha)⟩
theorem bm_m {x y : Nat} {w : Option (Nat × Nat)} {S : bS} (h : y ∈ (bm x w S).1) : y ∈ S.1 ∨ y = x := by
  unfold bm at h
  by_cases c : x ∈ S.1
  · rw [if_pos c] at h; exact Or.inl h
  · rw [if_neg c] at h
    rcases List.mem_append.mp h with q | q
    · exact Or.inl q
    · exact Or.inr (List.mem_singleton.mp q)
theorem bE_ok {v : Nat} : ∀ (l : List (Nat × Nat)) (S : bS), (∃ m, (bE v l S).1 = S.1 ++ m) ∧ (S.1.Nodup → (bE v l S).1.Nodup) ∧ (∀ e, e ∈ l → e.2 ∈ (bE v l S).1) ∧ ∀ y, y ∈ (bE v l S).1 → y ∈ S.1 ∨ ∃ e, e ∈ l ∧ e.2 = y := by
  intro l
  induction l with
  | nil => intro S; exact ⟨⟨[], (List.append_nil _).symm⟩, id, fun e he => (nomatch he), fun y h => Or.inl h⟩
  | cons e l ih =>
    intro S
    rw [bE]
    obtain ⟨⟨m, i1⟩, i2, i3, i4⟩ := ih (bm e.2 (some (v, e.1 / 2048)) S)
    obtain ⟨b1, m', b2⟩ := bm_in (x := e.2) (w := some (v, e.1 / 2048)) (S := S)
    refine ⟨⟨m' ++ m, by rw [i1, b2, List.append_assoc]⟩, fun h => i2 (bm_nd h), fun e' he => ?_, fun y h => ?_⟩
    · rcases List.mem_cons.mp he with q | q
      · rw [q, i1]; exact List.mem_append.mpr (Or.inl b1)
      · exact i3 e' q
    · rcases i4 y h with q | ⟨e', q1, q2⟩
      · rcases bm_m q with z | z
        · exact Or.inl z
        · exact Or.inr ⟨e, List.mem_cons_self, z.symm⟩
      · exact Or.inr ⟨e', List.mem_cons_of_mem _ q1, q2⟩
theorem getD_app {l m : List Nat} {k : Nat} (h : k < l.length) : (l ++ m).getD k 0 = l.getD k 0 := by
  rw [List.getD_eq_getElem?_getD, List.getD_eq_getElem?_getD, List.getElem?_append_left h]
theorem getD_mem {l : List Nat} {k : Nat} (h : k < l.length) : l.getD k 0 ∈ l := by
  rw [List.getD_eq_getElem?_getD, List.getElem?_eq_getElem h]
  exact List.getElem_mem h
theorem mem_getD {l : List Nat} {x : Nat} (h : x ∈ l) : ∃ k, k < l.length ∧ l.getD k 0 = x := by
  obtain ⟨k, hk, e⟩ := List.getElem_of_mem h
  refine ⟨k, hk, ?_⟩
  rw [List.getD_eq_getElem?_getD, List.getElem?_eq_getElem hk]
  exact e
/-- all that can be come to is met -/
theorem bA_ok {V : Nat → Prop} {el : Nat → List (Nat × Nat)} (hO : bO V el) : ∀ (n k : Nat) (S : bS), 3000 < n + k → S.1.Nodup → (∀ x, x ∈ S.1 → V x) → k ≤ S.1.length → (∀ i, i < k → ∀ e, e ∈ el (S.1.getD i 0) → e.2 ∈ S.1) → (∃ m, (bA el n k S).1 = S.1 ++ m) ∧ (bA el n k S).1.Nodup ∧ (∀ x, x ∈ (bA el n k S).1 → V x) ∧ (∀ x, x ∈ (bA el n k S).1 → ∀ e, e ∈ el x → e.2 ∈ (bA el n k S).1) ∧ ∀ x, x ∈ (bA el n k S).1 → ∃ f, f ∈ S.1 ∧ rch (esc el) f x := by
  intro n
  induction n with
  | zero =>
    intro k S hk hn hV hl hc
    have := nodup_len hn (fun x hx => hO.1 x (hV x hx))
    omega
  | succ n ih =>
    intro k S hk hn hV hl hc
    rw [bA]
    by_cases c : k < S.1.length
    · rw [if_pos c]
      have vV := hV _ (getD_mem c)
      obtain ⟨⟨m, e1⟩, e2, e3, e4⟩ := bE_ok (v := S.1.getD k 0) (el (S.1.getD k 0)) S
      have hV' : ∀ x, x ∈ (bE (S.1.getD k 0) (el (S.1.getD k 0)) S).1 → V x := by
        intro x hx
        rcases e4 x hx with q | ⟨e, q1, q2⟩
        · exact hV x q
        · rw [← q2]; exact ((hO.2 _ vV).2 e q1).2
      obtain ⟨⟨m2, r1⟩, r2, r3, r4, r5⟩ := ih (k + 1) _ (by omega) (e2 hn) hV' (by rw [e1, List.length_append]; omega) (fun i hi e he => by
        by_cases q : i = k
        · rw [q, e1, getD_app c] at he
          exact e3 e he
        · rw [e1, getD_app (by omega)] at he
          rw [e1]
          exact List.mem_append.mpr (Or.inl (hc i (by omega) e he)))
      refine ⟨⟨m ++ m2, by rw [r1, e1, List.append_assoc]⟩, r2, r3, r4, fun x hx => ?_⟩
      obtain ⟨f, f1, f2⟩ := r5 x hx
      rcases e4 f f1 with q | ⟨e, q1, q2⟩
      · exact ⟨f, q, f2⟩
      · exact ⟨_, getD_mem c, (rch.e (esc_mem.mpr ⟨e, q1, q2⟩)).tr f2⟩
    · rw [if_neg c]
      refine ⟨⟨[], (List.append_nil _).symm⟩, hn, hV, fun x hx e he => ?_, fun x hx => ⟨x, hx, rch.rf⟩⟩
      obtain ⟨i, i1, i2⟩ := mem_getD hx
      exact hc i (by omega) e (by rw [i2]; exact he)
/-! the reference -/
def wM : List Nat := [149, 150, 151, 152, 154, 155, 156, 157, 158, 159, 160]
def wK : List Nat := [53, 61, 62, 63]
def fEd (c : Nat) : List (Nat × Nat) → Int32
  | [] => -1
  | e :: l => if c ≤ e.1 then nI e.1 else fEd c l
def hEd : List (Nat × Nat) → Int32
  | [] => -1
  | e :: _ => nI e.1
theorem fEd_a {c : Nat} : ∀ {l b : List (Nat × Nat)}, (∀ e, e ∈ l → e.1 < c) → fEd c (l ++ b) = fEd c b
  | [], _, _ => rfl
  | x :: l, b, h => by
    show (if c ≤ x.1 then nI x.1 else fEd c (l ++ b)) = _
    have := h x List.mem_cons_self
    rw [if_neg (by omega)]
    exact fEd_a (fun e he => h e (List.mem_cons_of_mem _ he))
theorem fEd_b {c : Nat} : ∀ {b : List (Nat × Nat)}, (∀ e, e ∈ b → c ≤ e.1) → fEd c b = hEd b
  | [], _ => rfl
  | x :: l, h => if_pos (h x List.mem_cons_self)
/-- the edges of a point, told by the reference -/
def rEd (el : Nat → List (Nat × Nat)) (p : Nat) (τ : sS) : Prop := ∀ F c, 20 < F → c ≤ 6144 → L_X12_edgeFrom F (nI p) (nI c) τ = some (fEd c (el p))
def wv (w : Option (Nat × Nat)) : Int32 := match w with
  | none => -1
  | some x => nI x.1
def wc (w : Option (Nat × Nat)) : Int32 := match w with
  | none => -1
  | some x => nI x.2
def rBf (S : bS) (τ : sS) : Prop := vI τ 90 53 = nI S.1.length ∧ (∀ i, i < S.1.length → vI τ 149 i = nI (S.1.getD i 0)) ∧ (∀ p, p < 3000 → vI τ 152 p = if p ∈ S.1 then 1 else 0) ∧ (∀ x, x ∈ S.1 → vI τ 150 x = wv (S.2 x) ∧ vI τ 151 x = wc (S.2 x)) ∧ S.1.Nodup ∧ ∀ x, x ∈ S.1 → x < 3000
theorem x_meets {S : bS} {τ : sS} {x : Nat} (h : rBf S τ) (hx : x < 3000) (w : Option (Nat × Nat)) : ∃ υ, L_X12_meets (nI x) (wv w) (wc w) τ = some υ ∧ rBf (bm x w S) υ ∧ fm wM wK τ υ := by
  obtain ⟨a1, a2, a3, a4, a5, a6⟩ := h
  unfold L_X12_meets bm
  simp only [inb_n hx (by omega : x < 2 ^ 31), nI_clamp (by omega : x < 2 ^ 31), grd_s, bnd_s]
  rw [a3 x hx]
  by_cases c : x ∈ S.1
  · simp only [if_pos c]
    rw [if_neg (by decide)]
    exact ⟨τ, rfl, ⟨a1, a2, a3, a4, a5, a6⟩, fm.rf⟩
  · simp only [if_neg c]
    rw [if_pos trivial]
    have hl : S.1.length < 3000 := by
      have := nodup_len (n := 3000) (l := x :: S.1) (List.nodup_cons.mpr ⟨c, a5⟩) (fun y hy => by
        rcases List.mem_cons.mp hy with q | q
        · rw [q]; exact hx
        · exact a6 y q)
      rw [List.length_cons] at this
      omega
    have e53 : vI (uI (uI (uI τ 152 x 1) 150 x (wv w)) 151 x (wc w)) 90 53 = nI S.1.length := a1
    have e53' : vI (uI (uI (uI (uI τ 152 x 1) 150 x (wv w)) 151 x (wc w)) 149 S.1.length (nI x)) 90 53 = nI S.1.length := a1
    rw [e53, inb_n hl (by omega), grd_s, nI_clamp (by omega), e53', nI_1]
    refine ⟨_, rfl, ⟨?_, fun i hi => ?_, fun p hp => ?_, fun y hy => ?_, ?_, fun y hy => ?_⟩, ?_⟩
    · show nI (S.1.length + 1) = nI (S.1 ++ [x]).length
      rw [List.length_append]; rfl
    · rw [List.length_append] at hi
      have hi : i < S.1.length + 1 := hi
      show vI (uI (uI (uI (uI τ 152 x 1) 150 x (wv w)) 151 x (wc w)) 149 S.1.length (nI x)) 149 i = nI ((S.1 ++ [x]).getD i 0)
      by_cases q : i = S.1.length
      · rw [q, vI_e, List.getD_eq_getElem?_getD, List.getElem?_append_right (Nat.le_refl _), Nat.sub_self]
        rfl
      · rw [vI_q (fun z => q z.2), getD_app (by omega)]
        exact a2 i (by omega)
    · show vI (uI τ 152 x 1) 152 p = if p ∈ S.1 ++ [x] then 1 else 0
      by_cases q : p = x
      · rw [q, vI_e, if_pos (by simp)]
      · rw [vI_q (fun z => q z.2), a3 p hp]
        have : p ∈ S.1 ++ [x] ↔ p ∈ S.1 := by rw [List.mem_append, List.mem_singleton]; exact ⟨fun z => z.resolve_right q, Or.inl⟩
        simp only [this]
    · show vI (uI (uI τ 152 x 1) 150 x (wv w)) 150 y = wv (pu S.2 x w y) ∧ vI (uI (uI (uI τ 152 x 1) 150 x (wv w)) 151 x (wc w)) 151 y = wc (pu S.2 x w y)
      by_cases q : y = x
      · rw [q, vI_e, vI_e, pu_s]; exact ⟨rfl, rfl⟩
      · rw [pu_n q]
        have yS : y ∈ S.1 := by
          rcases List.mem_append.mp hy with z | z
          · exact z
          · exact absurd (List.mem_singleton.mp z) q
        exact ⟨(vI_q (fun z => q z.2)).trans (a4 y yS).1, (vI_q (fun z => q z.2)).trans (a4 y yS).2⟩
    · have := bm_nd (x := x) (w := w) a5
      unfold bm at this
      rw [if_neg c] at this
      exact this
    · rcases List.mem_append.mp hy with z | z
      · exact a6 y z
      · rw [List.mem_singleton.mp z]; exact hx
    · exact ((((fm.uI (by first | exact Or.inl (by decide) | exact Or.inr ⟨rfl, by decide⟩)).tr (fm.uI (by first | exact Or.inl (by decide) | exact Or.inr ⟨rfl, by decide⟩))).tr (fm.uI (by first | exact Or.inl (by decide) | exact Or.inr ⟨rfl, by decide⟩))).tr (fm.uI (by first | exact Or.inl (by decide) | exact Or.inr ⟨rfl, by decide⟩))).tr (fm.uI (by first | exact Or.inl (by decide) | exact Or.inr ⟨rfl, by decide⟩))
