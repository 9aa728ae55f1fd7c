/-! ways along which points were met -/
def wy (f : Nat → Option (Nat × Nat)) : Nat → Nat → List Nat
  | 0, _ => []
  | n + 1, x => match f x with
    | none => []
    | some w => wy f n w.1 ++ [w.2]
def wyO (S : bS) (x : Nat) : List Nat := wy S.2 3001 x
/-- each was met from one that was met ahead of it -/
def bK (S : bS) : Prop := S.1.Nodup ∧ (∀ x, x ∈ S.1 → x < 3000) ∧ ∀ i w, i < S.1.length → S.2 (S.1.getD i 0) = some w → w.2 < 3 ∧ ∃ j, j < i ∧ S.1.getD j 0 = w.1
theorem bK.len {S : bS} (h : bK S) : S.1.length ≤ 3000 := nodup_len h.1 h.2.1
theorem wy_st {S : bS} (h : bK S) : ∀ (i n m : Nat), i < S.1.length → i < n → i < m → wy S.2 n (S.1.getD i 0) = wy S.2 m (S.1.getD i 0) := by
  intro i
  induction i using Nat.strongRecOn with
  | _ i ih =>
    intro n m hi hn hm
    obtain ⟨n', rfl⟩ : ∃ n', n = n' + 1 := ⟨n - 1, by omega⟩
    obtain ⟨m', rfl⟩ : ∃ m', m = m' + 1 := ⟨m - 1, by omega⟩
    rw [wy, wy]
    cases hq : S.2 (S.1.getD i 0) with
    | none => rfl
    | some w =>
      obtain ⟨-, j, j1, j2⟩ := h.2.2 i w hi hq
      show wy S.2 n' w.1 ++ [w.2] = wy S.2 m' w.1 ++ [w.2]
      rw [← j2, ih j j1 n' m' (by omega) (by omega) (by omega)]
theorem wy_le {S : bS} (h : bK S) : ∀ (i n : Nat), i < S.1.length → (wy S.2 n (S.1.getD i 0)).length ≤ i := by
  intro i
  induction i using Nat.strongRecOn with
  | _ i ih =>
    intro n hi
    cases n with
    | zero => rw [wy]; exact Nat.zero_le _
    | succ n =>
      rw [wy]
      cases hq : S.2 (S.1.getD i 0) with
      | none => exact Nat.zero_le _
      | some w =>
        obtain ⟨-, j, j1, j2⟩ := h.2.2 i w hi hq
        show (wy S.2 n w.1 ++ [w.2]).length ≤ i
        rw [← j2, List.length_append]
        have := ih j j1 n (by omega)
        simp only [List.length_cons, List.length_nil]
        omega
theorem wy_l3 {S : bS} (h : bK S) : ∀ (i n : Nat), i < S.1.length → ∀ s, s ∈ wy S.2 n (S.1.getD i 0) → s < 3 := by
  intro i
  induction i using Nat.strongRecOn with
  | _ i ih =>
    intro n hi s hs
    cases n with
    | zero => rw [wy] at hs; exact nomatch hs
    | succ n =>
      rw [wy] at hs
      cases hq : S.2 (S.1.getD i 0) with
      | none => rw [hq] at hs; exact nomatch hs
      | some w =>
        rw [hq] at hs
        obtain ⟨h3, j, j1, j2⟩ := h.2.2 i w hi hq
        have hs : s ∈ wy S.2 n w.1 ++ [w.2] := hs
        rcases List.mem_append.mp hs with q | q
        · rw [← j2] at q
          exact ih j j1 n (by omega) s q
        · rw [List.mem_singleton.mp q]; exact h3
theorem wyO_n {S : bS} {x : Nat} (hq : S.2 x = none) : wyO S x = [] := by
  unfold wyO
  rw [wy, hq]
theorem wyO_s {S : bS} (h : bK S) {x : Nat} {w : Nat × Nat} (hx : x ∈ S.1) (hq : S.2 x = some w) : wyO S x = wyO S w.1 ++ [w.2] ∧ w.1 ∈ S.1 ∧ w.1 < 3000 ∧ w.2 < 3 := by
  obtain ⟨i, i1, i2⟩ := mem_getD hx
  have hl := h.len
  rw [← i2] at hq
  obtain ⟨h3, j, j1, j2⟩ := h.2.2 i w i1 hq
  have m : w.1 ∈ S.1 := by rw [← j2]; exact getD_mem (by omega)
  refine ⟨?_, m, h.2.1 _ m, h3⟩
  unfold wyO
  rw [← i2, wy, hq]
  show wy S.2 3000 w.1 ++ [w.2] = _
  rw [← j2, wy_st h j 3000 3001 (by omega) (by omega) (by omega)]
theorem wyO_le {S : bS} (h : bK S) {x : Nat} (hx : x ∈ S.1) : (wyO S x).length < S.1.length := by
  obtain ⟨i, i1, i2⟩ := mem_getD hx
  have := wy_le h i 3001 i1
  unfold wyO
  rw [← i2]
  omega
theorem wyO_3 {S : bS} (h : bK S) {x : Nat} (hx : x ∈ S.1) : ∀ s, s ∈ wyO S x → s < 3 := by
  obtain ⟨i, i1, i2⟩ := mem_getD hx
  unfold wyO
  rw [← i2]
  exact wy_l3 h i 3001 i1
/-- what was met stays as it was met -/
def bX (S T : bS) : Prop := (∃ m, T.1 = S.1 ++ m) ∧ ∀ x, x ∈ S.1 → T.2 x = S.2 x
theorem bX.rf {S : bS} : bX S S := ⟨⟨[], (List.append_nil _).symm⟩, fun _ _ => rfl⟩
theorem bX.m {S T : bS} (h : bX S T) {x : Nat} (hx : x ∈ S.1) : x ∈ T.1 := by
  obtain ⟨⟨m, e⟩, -⟩ := h
  rw [e]; exact List.mem_append.mpr (Or.inl hx)
theorem bX.tr {S T U : bS} (h : bX S T) (k : bX T U) : bX S U := by
  obtain ⟨⟨m, e⟩, f⟩ := h
  obtain ⟨⟨m', e'⟩, f'⟩ := k
  exact ⟨⟨m ++ m', by rw [e', e, List.append_assoc]⟩, fun x hx => (f' x (by rw [e]; exact List.mem_append.mpr (Or.inl hx))).trans (f x hx)⟩
theorem bX_bm {S : bS} {x : Nat} {w : Option (Nat × Nat)} : bX S (bm x w S) := by
  unfold bm
  by_cases h : x ∈ S.1
  · rw [if_pos h]; exact bX.rf
  · rw [if_neg h]
    refine ⟨⟨[x], rfl⟩, fun y hy => pu_n (fun e => h (by rw [← e]; exact hy))⟩
theorem bX_bE {v : Nat} : ∀ (l : List (Nat × Nat)) (S : bS), bX S (bE v l S)
  | [], S => bX.rf
  | e :: l, S => (bX_bm).tr (bX_bE l _)
theorem bX_bA {el : Nat → List (Nat × Nat)} : ∀ (n k : Nat) (S : bS), bX S (bA el n k S)
  | 0, _, S => bX.rf
  | n + 1, k, S => by
    rw [bA]
    by_cases h : k < S.1.length
    · rw [if_pos h]; exact (bX_bE _ _).tr (bX_bA n (k + 1) _)
    · rw [if_neg h]; exact bX.rf
theorem bX_wy {S T : bS} (h : bX S T) (hS : bK S) : ∀ (i n : Nat), i < S.1.length → wy T.2 n (S.1.getD i 0) = wy S.2 n (S.1.getD i 0) := by
  intro i
  induction i using Nat.strongRecOn with
  | _ i ih =>
    intro n hi
    cases n with
    | zero => rfl
    | succ n =>
      rw [wy, wy, h.2 _ (getD_mem hi)]
      cases hq : S.2 (S.1.getD i 0) with
      | none => rfl
      | some w =>
        obtain ⟨-, j, j1, j2⟩ := hS.2.2 i w hi hq
        show wy T.2 n w.1 ++ [w.2] = wy S.2 n w.1 ++ [w.2]
        rw [← j2, ih j j1 n (by omega)]
theorem bX_wyO {S T : bS} (h : bX S T) (hS : bK S) {x : Nat} (hx : x ∈ S.1) : wyO T x = wyO S x := by
  obtain ⟨i, i1, i2⟩ := mem_getD hx
  have := bX_wy h hS i 3001 i1
  rw [i2] at this
  exact this
theorem bK_bm {S : bS} {x : Nat} {w : Option (Nat × Nat)} (h : bK S) (hx : x < 3000) (hw : ∀ q, w = some q → q.1 ∈ S.1 ∧ q.2 < 3) : bK (bm x w S) := by
  refine ⟨bm_nd h.1, fun y hy => ?_, ?_⟩
  · rcases bm_m hy with q | q
    · exact h.2.1 y q
    · rw [q]; exact hx
  · unfold bm
    by_cases c : x ∈ S.1
    · rw [if_pos c]; exact h.2.2
    · rw [if_neg c]
      intro i q hi hq
      have hi : i < (S.1 ++ [x]).length := hi
      rw [List.length_append] at hi
      simp only [List.length_cons, List.length_nil] at hi
      by_cases e : i < S.1.length
      · have e1 : (S.1 ++ [x]).getD i 0 = S.1.getD i 0 := getD_app e
        have hq : pu S.2 x w ((S.1 ++ [x]).getD i 0) = some q := hq
        rw [e1, pu_n (fun z => c (by rw [← z]; exact getD_mem e))] at hq
        obtain ⟨h3, j, j1, j2⟩ := h.2.2 i q e hq
        exact ⟨h3, j, j1, (getD_app (by omega)).trans j2⟩
      · have ei : i = S.1.length := by omega
        have e1 : (S.1 ++ [x]).getD i 0 = x := by
          rw [ei, List.getD_eq_getElem?_getD, List.getElem?_append_right (Nat.le_refl _), Nat.sub_self]
          rfl
        have hq : pu S.2 x w ((S.1 ++ [x]).getD i 0) = some q := hq
        rw [e1, pu_s] at hq
        obtain ⟨h1, h2⟩ := hw q hq
        obtain ⟨j, j1, j2⟩ := mem_getD h1
        exact ⟨h2, j, by omega, (getD_app j1).trans j2⟩
theorem bK_bE {v : Nat} : ∀ (l : List (Nat × Nat)) (S : bS), bK S → v ∈ S.1 → (∀ e, e ∈ l → e.2 < 3000 ∧ e.1 < 6144) → bK (bE v l S)
  | [], S, h, _, _ => h
  | e :: l, S, h, hv, hl => bK_bE l _ (bK_bm h (hl e List.mem_cons_self).1 (fun q hq => by
      rw [← Option.some.inj hq]
      have := (hl e List.mem_cons_self).2
      exact ⟨hv, by show e.1 / 2048 < 3; omega⟩)) ((bX_bm).m hv) (fun e' he => hl e' (List.mem_cons_of_mem _ he))
theorem bK_bA {V : Nat → Prop} {el : Nat → List (Nat × Nat)} (hO : bO V el) : ∀ (n k : Nat) (S : bS), bK S → (∀ x, x ∈ S.1 → V x) → bK (bA el n k S)
  | 0, _, S, h, _ => h
  | n + 1, k, S, h, hV => by
    rw [bA]
    by_cases c : k < S.1.length
    · rw [if_pos c]
      have pv := hV _ (getD_mem c)
      refine bK_bA hO n (k + 1) _ (bK_bE _ _ h (getD_mem c) (fun e he => ⟨hO.1 _ ((hO.2 _ pv).2 e he).2, ((hO.2 _ pv).2 e he).1⟩)) (fun x hx => ?_)
      rcases (bE_ok _ _).2.2.2 x hx with q | ⟨e, q1, q2⟩
      · exact hV x q
      · rw [← q2]; exact ((hO.2 _ pv).2 e q1).2
    · rw [if_neg c]; exact h
