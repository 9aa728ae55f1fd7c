/-! threes, in the abstract -/
def cdS (c : Nat) : Nat := c / 600
def cdN (c : Nat) : Nat := c / 2 % 300
def cdM (c : Nat) : Nat := c % 2
theorem cd_c {t n m : Nat} (hn : n < 300) (hm : m < 2) : cdS ((t * 300 + n) * 2 + m) = t ∧ cdN ((t * 300 + n) * 2 + m) = n ∧ cdM ((t * 300 + n) * 2 + m) = m := by
  unfold cdS cdN cdM
  omega
def mkA (M : aM) (v : zS × (Nat → Nat)) (c : Nat) : Nat := if cdM c = 0 then (if (mF M).testBit (cdS c) = true then 1 else 0) else (if nfin (zX v.1 (cdN c)) = true then 0 else 1)
theorem mkA_2 {M : aM} {v : zS × (Nat → Nat)} {c : Nat} : mkA M v c < 2 := by
  unfold mkA
  split
  · split <;> omega
  · split <;> omega
def bC (M : aM) (v : zS × (Nat → Nat)) (g : Nat) : gB := fun c s => (sts (mE M s (cdS c)), v.2 (cdN c * g + s + 1) - v.2 (cdN c * g + s), fun t k => (t * 300 + zT v.1 (v.2 (cdN c * g + s) + k)) * 2 + mkA M v c)
/-- a three that there is -/
def cV (M : aM) (v : zS × (Nat → Nat)) (c : Nat) : Prop := cdS c < mN M ∧ cdN c < zN v.1
theorem bC_o {M M' : aM} {v : zS × (Nat → Nat)} {g c s : Nat} (h3 : sM3 v.2 (zN v.1 * g)) (hc : cV M v c) (hs : s < g) : bkO (bC M v g c s) ∧ (bC M v g c s).2.1 ≤ 300 := by
  have := h3 (cdN c * g + s) (n_in hc.2 hs)
  refine ⟨⟨fun t ht => (sts_mem.mp ht).1, sts_so _, ?_⟩, ?_⟩
  · show v.2 (cdN c * g + s + 1) - v.2 (cdN c * g + s) ≤ 512
    omega
  · show v.2 (cdN c * g + s + 1) - v.2 (cdN c * g + s) ≤ 300
    omega
theorem bC_V {M M' : aM} {v : zS × (Nat → Nat)} {g c s t k : Nat} (hM : mOk g M) (hO : cO M' g v) (hc : cV M v c) (hs : s < g) (ht : t ∈ (bC M v g c s).1) (hk : k < (bC M v g c s).2.1) : cV M v ((bC M v g c s).2.2 t k) ∧ cdM ((bC M v g c s).2.2 t k) = mkA M v c ∧ cdS ((bC M v g c s).2.2 t k) = t ∧ cdN ((bC M v g c s).2.2 t k) = zT v.1 (v.2 (cdN c * g + s) + k) ∧ (bC M v g c s).2.2 t k < 2400 := by
  have ht2 := sts_mem.mp ht
  have t1 := tb_lt (hM.2.2.2.2.1 s (cdS c)) ht2.2
  have hk : k < v.2 (cdN c * g + s + 1) - v.2 (cdN c * g + s) := hk
  obtain ⟨o1, o2, o3, o4⟩ := hO
  have hj := n_in (N := zN v.1) hc.2 hs
  have := o3.le (a := cdN c * g + s + 1) (b := zN v.1 * g) (by omega) (Nat.le_refl _)
  have hz := o1.2.2.2.2.1 (v.2 (cdN c * g + s) + k) (by omega)
  have hN := o1.2.1
  obtain ⟨c1, c2, c3⟩ := cd_c (t := t) (n := zT v.1 (v.2 (cdN c * g + s) + k)) (m := mkA M v c) (by omega) mkA_2
  have m2 := mkA_2 (M := M) (v := v) (c := c)
  refine ⟨⟨?_, ?_⟩, c3, c1, c2, ?_⟩
  · show cdS ((t * 300 + zT v.1 (v.2 (cdN c * g + s) + k)) * 2 + mkA M v c) < mN M
    rw [c1]; exact t1
  · show cdN ((t * 300 + zT v.1 (v.2 (cdN c * g + s) + k)) * 2 + mkA M v c) < zN v.1
    rw [c2]; exact hz
  · show (t * 300 + zT v.1 (v.2 (cdN c * g + s) + k)) * 2 + mkA M v c < 2400
    have := hM.2.1
    omega
/-! numbers of threes -/
def idx (c : Nat) : List Nat → Nat
  | [] => 0
  | x :: l => if x = c then 0 else idx c l + 1
theorem idx_lt {c : Nat} : ∀ {l : List Nat}, c ∈ l → idx c l < l.length ∧ l.getD (idx c l) 0 = c
  | [], h => nomatch h
  | x :: l, h => by
    rw [idx]
    by_cases e : x = c
    · rw [if_pos e]
      exact ⟨by rw [List.length_cons]; omega, e⟩
    · rw [if_neg e]
      have h2 : c ∈ l := by
        rcases List.mem_cons.mp h with q | q
        · exact absurd q.symm e
        · exact q
      obtain ⟨i1, i2⟩ := idx_lt h2
      exact ⟨by rw [List.length_cons]; omega, i2⟩
theorem idx_a {c : Nat} : ∀ {l m : List Nat}, c ∈ l → idx c (l ++ m) = idx c l
  | [], m, h => nomatch h
  | x :: l, m, h => by
    show idx c (x :: (l ++ m)) = _
    rw [idx, idx]
    by_cases e : x = c
    · rw [if_pos e, if_pos e]
    · rw [if_neg e, if_neg e]
      have h2 : c ∈ l := by
        rcases List.mem_cons.mp h with q | q
        · exact absurd q.symm e
        · exact q
      rw [idx_a h2]
theorem idx_n {c : Nat} : ∀ {l m : List Nat}, c ∉ l → idx c (l ++ c :: m) = l.length
  | [], m, _ => by
    show idx c (c :: m) = _
    rw [idx, if_pos rfl]; rfl
  | x :: l, m, h => by
    show idx c (x :: (l ++ c :: m)) = _
    rw [idx, if_neg (fun e => h (by rw [e]; exact List.mem_cons_self)), idx_n (fun q => h (List.mem_cons_of_mem _ q))]
    rfl
theorem idx_g : ∀ {l : List Nat} {i : Nat}, l.Nodup → i < l.length → idx (l.getD i 0) l = i
  | [], i, _, h => nomatch h
  | x :: l, 0, _, _ => by
    show idx x (x :: l) = 0
    rw [idx, if_pos rfl]
  | x :: l, i + 1, hn, hi => by
    show idx (l.getD i 0) (x :: l) = i + 1
    obtain ⟨n1, n2⟩ := List.nodup_cons.mp hn
    have hi : i < l.length := by rw [List.length_cons] at hi; omega
    rw [idx, if_neg (fun e => n1 (by rw [e]; exact getD_mem hi)), idx_g n2 hi]
def tm (x : Nat) (Q : List Nat) : Option (List Nat) := if x ∈ Q then some Q else if Q.length = 1000 then none else some (Q ++ [x])
theorem tm_ok {x : Nat} {Q Q' : List Nat} (h : tm x Q = some Q') (hn : Q.Nodup) (hl : Q.length ≤ 1000) : (∃ m, Q' = Q ++ m) ∧ x ∈ Q' ∧ Q'.Nodup ∧ Q'.length ≤ 1000 ∧ ∀ y, y ∈ Q' → y ∈ Q ∨ y = x := by
  unfold tm at h
  by_cases c : x ∈ Q
  · rw [if_pos c] at h
    rw [← Option.some.inj h]
    exact ⟨⟨[], (List.append_nil _).symm⟩, c, hn, hl, fun y hy => Or.inl hy⟩
  · rw [if_neg c] at h
    by_cases d : Q.length = 1000
    · rw [if_pos d] at h; exact nomatch h
    · rw [if_neg d] at h
      rw [← Option.some.inj h]
      refine ⟨⟨[x], rfl⟩, by simp, List.nodup_append.mpr ⟨hn, List.nodup_cons.mpr ⟨fun q => (nomatch q), List.nodup_nil⟩, fun a ha b hb e => c (by rw [List.mem_singleton.mp hb] at e; rw [← e]; exact ha)⟩, by rw [List.length_append]; simp only [List.length_cons, List.length_nil]; omega, fun y hy => ?_⟩
      rcases List.mem_append.mp hy with q | q
      · exact Or.inl q
      · exact Or.inr (List.mem_singleton.mp q)
/-- threes are met, and numbered as they are met -/
def jE (p : Nat) : List (Nat × Nat) → List Nat × bS → Option (List Nat × bS)
  | [], z => some z
  | e :: l, z => match tm e.2 z.1 with
    | none => none
    | some Q => jE p l (Q, bm (idx e.2 Q) (some (p, e.1 / 2048)) z.2)
def jA (el : Nat → List (Nat × Nat)) : Nat → Nat → List Nat × bS → Option (List Nat × bS)
  | 0, _, z => some z
  | n + 1, k, z => if k < z.1.length then (match jE k (el (z.1.getD k 0)) z with
    | none => none
    | some y => jA el n (k + 1) y) else some z
def rno (Q : List Nat) (e : Nat × Nat) : Nat × Nat := (e.1, idx e.2 Q)
/-- what holds while threes are met -/
def jK (z : List Nat × bS) : Prop := z.1.Nodup ∧ z.1.length ≤ 1000 ∧ z.2.1 = List.range z.1.length
theorem bm_rng {k : Nat} {w : Option (Nat × Nat)} {S : bS} {n : Nat} (h : S.1 = List.range n) : (bm k w S).1 = if k < n then List.range n else List.range n ++ [k] := by
  by_cases c : k < n
  · rw [if_pos c, bm_old (by rw [h]; exact List.mem_range.mpr c), h]
  · rw [if_neg c, bm_new (by rw [h]; exact fun q => c (List.mem_range.mp q)), h]
theorem jK.s {z : List Nat × bS} {x : Nat} {Q : List Nat} {w : Option (Nat × Nat)} (h : jK z) (ht : tm x z.1 = some Q) : jK (Q, bm (idx x Q) w z.2) := by
  obtain ⟨h1, h2, h3⟩ := h
  obtain ⟨⟨m, t1⟩, t2, t3, t4, t5⟩ := tm_ok ht h1 h2
  refine ⟨t3, t4, ?_⟩
  show (bm (idx x Q) w z.2).1 = List.range Q.length
  rw [bm_rng h3]
  unfold tm at ht
  by_cases c : x ∈ z.1
  · rw [if_pos c] at ht
    rw [← Option.some.inj ht, if_pos (idx_lt c).1]
  · rw [if_neg c] at ht
    by_cases d : z.1.length = 1000
    · rw [if_pos d] at ht; exact nomatch ht
    · rw [if_neg d] at ht
      rw [← Option.some.inj ht, idx_n c, if_neg (Nat.lt_irrefl _), List.length_append]
      show _ = List.range (z.1.length + 1)
      rw [List.range_succ]
theorem jE_ok {p : Nat} : ∀ (l : List (Nat × Nat)) (z y : List Nat × bS), jK z → jE p l z = some y → jK y ∧ (∃ m, y.1 = z.1 ++ m) ∧ (∀ e, e ∈ l → e.2 ∈ y.1) ∧ (∀ c, c ∈ y.1 → c ∈ z.1 ∨ ∃ e, e ∈ l ∧ e.2 = c) ∧ ∀ Qf m, Qf = y.1 ++ m → y.2 = bE p (l.map (rno Qf)) z.2
  | [], z, y, h, hy => by
    have hy : z = y := Option.some.inj hy
    rw [← hy]
    exact ⟨h, ⟨[], (List.append_nil _).symm⟩, fun e he => (nomatch he), fun c hc => Or.inl hc, fun _ _ _ => rfl⟩
  | e :: l, z, y, h, hy => by
    rw [jE] at hy
    cases ht : tm e.2 z.1 with
    | none => rw [ht] at hy; exact nomatch hy
    | some Q =>
      rw [ht] at hy
      have h2 := h.s (w := some (p, e.1 / 2048)) ht
      obtain ⟨⟨m1, t1⟩, t2, t3, t4, t5⟩ := tm_ok ht h.1 h.2.1
      obtain ⟨i1, ⟨m, i2⟩, i3, i4, i5⟩ := jE_ok l _ y h2 hy
      have i2 : y.1 = Q ++ m := i2
      refine ⟨i1, ⟨m1 ++ m, by rw [i2, t1, List.append_assoc]⟩, fun e' he => ?_, fun c hc => ?_, fun Qf m' hQ => ?_⟩
      · rcases List.mem_cons.mp he with q | q
        · rw [q, i2]; exact List.mem_append.mpr (Or.inl t2)
        · exact i3 e' q
      · rcases i4 c hc with q | ⟨e', q1, q2⟩
        · rcases t5 c q with w | w
          · exact Or.inl w
          · exact Or.inr ⟨e, List.mem_cons_self, w.symm⟩
        · exact Or.inr ⟨e', List.mem_cons_of_mem _ q1, q2⟩
      · rw [i5 Qf m' hQ, List.map_cons, bE]
        have e1 : idx e.2 Qf = idx e.2 Q := by
          rw [hQ, i2, List.append_assoc, idx_a t2]
        show _ = bE p (l.map (rno Qf)) (bm (idx e.2 Qf) (some (p, e.1 / 2048)) z.2)
        rw [e1]
theorem jA_ok {el : Nat → List (Nat × Nat)} : ∀ (n k : Nat) (z y : List Nat × bS), 1000 < n + k → k ≤ z.1.length → jK z → (∀ i, i < k → ∀ e, e ∈ el (z.1.getD i 0) → e.2 ∈ z.1) → jA el n k z = some y → jK y ∧ (∃ m, y.1 = z.1 ++ m) ∧ (∀ c, c ∈ y.1 → ∀ e, e ∈ el c → e.2 ∈ y.1) ∧ (∀ P : Nat → Prop, (∀ c, P c → ∀ e, e ∈ el c → P e.2) → (∀ c, c ∈ z.1 → P c) → ∀ c, c ∈ y.1 → P c) ∧ y.2 = bA (fun i => (el (y.1.getD i 0)).map (rno y.1)) n k z.2
  | 0, k, z, y, h1, h2, h3, _, _ => by have := h3.2.1; omega
  | n + 1, k, z, y, h1, h2, h3, h4, hy => by
    rw [jA] at hy
    rw [bA]
    have hl : z.2.1.length = z.1.length := by rw [h3.2.2, List.length_range]
    by_cases c : k < z.1.length
    · rw [if_pos c] at hy
      rw [if_pos (by rw [hl]; exact c)]
      cases hj : jE k (el (z.1.getD k 0)) z with
      | none => rw [hj] at hy; exact nomatch hy
      | some u =>
        rw [hj] at hy
        obtain ⟨e1, ⟨m, e2⟩, e3, e4, e5⟩ := jE_ok _ _ _ h3 hj
        have hcl : ∀ i, i < k + 1 → ∀ e, e ∈ el (u.1.getD i 0) → e.2 ∈ u.1 := by
          intro i hi e he
          rw [e2, getD_app (by omega)] at he
          by_cases d : i = k
          · rw [d] at he; exact e3 e he
          · rw [e2]; exact List.mem_append.mpr (Or.inl (h4 i (by omega) e he))
        obtain ⟨i1, ⟨m', i2⟩, i3, i4, i5⟩ := jA_ok n (k + 1) u y (by omega) (by rw [e2, List.length_append]; omega) e1 hcl hy
        refine ⟨i1, ⟨m ++ m', by rw [i2, e2, List.append_assoc]⟩, i3, fun P p1 p2 => i4 P p1 (fun c hc => ?_), ?_⟩
        · rcases e4 c hc with q | ⟨e, q1, q2⟩
          · exact p2 c q
          · rw [← q2]; exact p1 _ (p2 _ (getD_mem (by assumption))) e q1
        · rw [i5]
          have ek : z.2.1.getD k 0 = k := by
            rw [h3.2.2, List.getD_eq_getElem?_getD, List.getElem?_range c]; rfl
          have eu : u.2 = bE k ((el (y.1.getD k 0)).map (rno y.1)) z.2 := by
            have e6 := e5 y.1 m' i2
            have e7 : y.1.getD k 0 = z.1.getD k 0 := by rw [i2, e2, List.append_assoc, getD_app c]
            rw [e7]; exact e6
          rw [ek, ← eu]
    · rw [if_neg c] at hy
      rw [if_neg (by rw [hl]; exact c)]
      rw [← Option.some.inj hy]
      refine ⟨h3, ⟨[], (List.append_nil _).symm⟩, fun c' hc e he => ?_, fun P _ p2 => p2, rfl⟩
      obtain ⟨i, i1, i2⟩ := mem_getD hc
      rw [← i2] at he
      exact h4 i (by omega) e he
/-- the first threes -/
def j0 (M : aM) : List Nat × bS := ((sts (mB M)).map (fun t => t * 600), bI (fun i => decide (i < (sts (mB M)).length)) (sts (mB M)).length 0 bS0)
theorem bI_r {p : Nat → Bool} {n : Nat} (hp : ∀ i, i < n → p i = true) : ∀ (k i : Nat) (S : bS), i + k ≤ n → S.1 = List.range i → (bI p k i S).1 = List.range (i + k)
  | 0, i, S, _, h => h
  | k + 1, i, S, hk, h => by
    rw [bI, if_pos (hp i (by omega)), bI_r hp k (i + 1) _ (by omega) (by
      rw [bm_rng h, if_neg (Nat.lt_irrefl _), List.range_succ])]
    congr 1
    omega
theorem sts_nd (X : Nat) : (sts X).Nodup := nd_fl _ List.nodup_range
theorem j0_ok {M : aM} (h : mB M < 16) : jK (j0 M) ∧ ∀ c, c ∈ (j0 M).1 → ∃ t, t < 4 ∧ (mB M).testBit t = true ∧ c = t * 600 := by
  have h4 := sts_4 _ h
  refine ⟨⟨nd_map (fun a b e => by omega) _ (sts_nd _), by show ((sts (mB M)).map (fun t => t * 600)).length ≤ 1000; rw [List.length_map]; omega, ?_⟩, fun c hc => ?_⟩
  · show (bI (fun i => decide (i < (sts (mB M)).length)) (sts (mB M)).length 0 bS0).1 = List.range ((sts (mB M)).map (fun t => t * 600)).length
    rw [bI_r (n := (sts (mB M)).length) (fun i hi => decide_eq_true hi) _ 0 bS0 (by omega) rfl, List.length_map, Nat.zero_add]
  · obtain ⟨t, t1, t2⟩ := List.mem_map.mp hc
    have := sts_mem.mp t1
    exact ⟨t, this.1, this.2, t2.symm⟩
/-- all threes, or none if there is no room -/
def thr (M : aM) (v : zS × (Nat → Nat)) (g : Nat) : Option (List Nat × bS) := jA (elB (bC M v g) g) 3001 0 (j0 M)
def bT (M : aM) (v : zS × (Nat → Nat)) (g : Nat) (Q : List Nat) : gB := fun i s => ((bC M v g (Q.getD i 0) s).1, (bC M v g (Q.getD i 0) s).2.1, fun t k => idx ((bC M v g (Q.getD i 0) s).2.2 t k) Q)
def tMk (v : zS × (Nat → Nat)) (c : Nat) : Bool := decide (cdM c = 1) && nfin (zX v.1 (cdN c))
def G2 (M : aM) (v : zS × (Nat → Nat)) (g : Nat) (Q : List Nat) : gG := (Q.length, g, gsB (bT M v g Q), fun i => tMk v (Q.getD i 0), fun i => decide (i < (sts (mB M)).length))
theorem elB_T {M : aM} {v : zS × (Nat → Nat)} {g i : Nat} {Q : List Nat} : elB (bT M v g Q) g i = (elB (bC M v g) g (Q.getD i 0)).map (rno Q) := by
  unfold elB
  have key : ∀ (k s : Nat), ell (fun s => blk s (bT M v g Q i s)) k s = (ell (fun s => blk s (bC M v g (Q.getD i 0) s)) k s).map (rno Q) := by
    intro k
    induction k with
    | zero => intro s; rfl
    | succ k ih =>
      intro s
      rw [ell, ell, List.map_append, ih (s + 1)]
      congr 1
      unfold blk
      rw [List.map_flatMap]
      congr 1
      funext t
      rw [List.map_map]
      rfl
  exact key g 0
/-- what holds of all threes -/
theorem thr_ok {M M' : aM} {v : zS × (Nat → Nat)} {g : Nat} {z : List Nat × bS} (hM : mOk g M) (hO : cO M' g v) (h3 : sM3 v.2 (zN v.1 * g)) (hg : g ≤ 3) (h : thr M v g = some z) : jK z ∧ (∀ c, c ∈ z.1 → cV M v c) ∧ (∀ c, c ∈ z.1 → ∀ e, e ∈ elB (bC M v g) g c → e.2 ∈ z.1) ∧ (sts (mB M)).length ≤ z.1.length ∧ (∀ i, i < (sts (mB M)).length → z.1.getD i 0 = (sts (mB M)).getD i 0 * 600) ∧ z.2 = bA (elB (bT M v g z.1) g) 3001 0 (bI (GF (G2 M v g z.1)) (GN (G2 M v g z.1)) 0 bS0) := by
  have p4 : 2 ^ mN M ≤ 2 ^ 4 := Nat.pow_le_pow_right (by decide) hM.2.1
  obtain ⟨k1, k2⟩ := j0_ok (M := M) (by have := hM.2.2.1; omega)
  unfold thr at h
  obtain ⟨a1, ⟨m, a2⟩, a3, a4, a5⟩ := jA_ok (el := elB (bC M v g) g) 3001 0 (j0 M) z (by omega) (Nat.zero_le _) k1 (fun i hi => absurd hi (Nat.not_lt_zero i)) h
  have hlen : z.1.length = (sts (mB M)).length + m.length := by
    rw [a2, List.length_append]
    show ((sts (mB M)).map (fun t => t * 600)).length + _ = _
    rw [List.length_map]
  refine ⟨a1, a4 (cV M v) (fun c hc e he => ?_) (fun c hc => ?_), a3, by omega, fun i hi => ?_, ?_⟩
  · obtain ⟨s, t, k, h1, h2, h3', h4⟩ := elB_mem.mp he
    rw [h4]
    exact (bC_V hM hO hc h1 h2 h3').1
  · obtain ⟨t, t1, t2, t3⟩ := k2 c hc
    have := tb_lt hM.2.2.1 t2
    have hN := hO.1.1
    rw [t3]
    exact ⟨by unfold cdS; omega, by unfold cdN; omega⟩
  · rw [a2, getD_app (by show i < ((sts (mB M)).map (fun t => t * 600)).length; rw [List.length_map]; exact hi)]
    show ((sts (mB M)).map (fun t => t * 600)).getD i 0 = _
    rw [List.getD_eq_getElem?_getD, List.getD_eq_getElem?_getD, List.getElem?_map, List.getElem?_eq_getElem hi]
    rfl
  · have e1 : (fun i => (elB (bC M v g) g (z.1.getD i 0)).map (rno z.1)) = elB (bT M v g z.1) g := funext fun i => elB_T.symm
    rw [a5, e1]
    congr 1
    show bI (fun i => decide (i < (sts (mB M)).length)) (sts (mB M)).length 0 bS0 = bI (fun i => decide (i < (sts (mB M)).length)) z.1.length 0 bS0
    rw [hlen]
    exact (bI_x (sts (mB M)).length 0 m.length bS0 (fun x hx => decide_eq_false (by omega))).symm
theorem gsB_m {b : gB} {v s t : Nat} : t ∈ gsB b v s ↔ ∃ u k, u ∈ (b v s).1 ∧ k < (b v s).2.1 ∧ t = (b v s).2.2 u k := by
  unfold gsB
  rw [List.mem_flatMap]
  constructor
  · rintro ⟨u, h1, h2⟩
    obtain ⟨k, k1, k2⟩ := List.mem_map.mp h2
    exact ⟨u, k, h1, List.mem_range.mp k1, k2.symm⟩
  · rintro ⟨u, k, h1, h2, h3⟩
    exact ⟨u, h1, List.mem_map.mpr ⟨k, List.mem_range.mpr h2, h3.symm⟩⟩
theorem G2_ok {M M' : aM} {v : zS × (Nat → Nat)} {g : Nat} {z : List Nat × bS} (hM : mOk g M) (hO : cO M' g v) (h3 : sM3 v.2 (zN v.1 * g)) (hg : g ≤ 3) (h : thr M v g = some z) : gTie (G2 M v g z.1) (elB (bT M v g z.1) g) := by
  obtain ⟨t1, t2, t3, t4, t5, t6⟩ := thr_ok hM hO h3 hg h
  have p4 : 2 ^ mN M ≤ 2 ^ 4 := Nat.pow_le_pow_right (by decide) hM.2.1
  have l10 := t1.2.1
  have hb : ∀ i s, i < z.1.length → s < g → bkO (bC M v g (z.1.getD i 0) s) ∧ (bC M v g (z.1.getD i 0) s).2.1 ≤ 300 := fun i s hi hs => bC_o (M' := M) h3 (t2 _ (getD_mem hi)) hs
  refine gTie_B ⟨by show z.1.length ≤ 3000; omega, hg, fun i hi s hs => ⟨?_, fun t ht => ?_⟩⟩ l10 rfl hg (fun i s hi hs => ?_) (fun i s _ _ => rfl)
  · show (gsB (bT M v g z.1) i s).length < 60000
    unfold gsB
    rw [fmr_len]
    have h1 := (hb i s hi hs).2
    have h2 := sts_4 (mE M s (cdS (z.1.getD i 0))) (Nat.lt_of_lt_of_le (hM.2.2.2.2.1 s _) p4)
    show (sts (mE M s (cdS (z.1.getD i 0)))).length * (bC M v g (z.1.getD i 0) s).2.1 < 60000
    have : (sts (mE M s (cdS (z.1.getD i 0)))).length * (bC M v g (z.1.getD i 0) s).2.1 ≤ 4 * 300 := Nat.mul_le_mul h2 h1
    omega
  · have ht : t ∈ gsB (bT M v g z.1) i s := ht
    obtain ⟨u, k, q1, q2, q3⟩ := gsB_m.mp ht
    rw [q3]
    exact (idx_lt (t3 _ (getD_mem hi) _ (elB_mem.mpr ⟨s, u, k, hs, q1, q2, rfl⟩))).1
  · exact ⟨(hb i s hi hs).1.1, (hb i s hi hs).1.2.1, (hb i s hi hs).1.2.2⟩
