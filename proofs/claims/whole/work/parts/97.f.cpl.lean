/-! the complement: what it is -/
/-- a node: its set; its greatest rank (0: it is a set alone), its ranks, what it owes -/
abbrev nd : Type := Nat × Nat × Nat × Nat
def evn (t Q : Nat) : Nat := (if t.testBit 0 = true ∧ dg Q 0 % 2 = 0 then 1 else 0) + (if t.testBit 1 = true ∧ dg Q 1 % 2 = 0 then 2 else 0) + (if t.testBit 2 = true ∧ dg Q 2 % 2 = 0 then 4 else 0) + (if t.testBit 3 = true ∧ dg Q 3 % 2 = 0 then 8 else 0)
/-- the greatest rank that a state may have behind a pair -/
def mst (M : aM) (t P c to : Nat) : Nat → Nat
  | 0 => 7
  | s + 1 => if t.testBit s = true ∧ (mE M c s).testBit to = true then min (mst M t P c to s) (dg P s) else mst M t P c to s
def sucS (M : aM) (t : Nat) : List nd := (t, 0, 0, 0) :: ((List.range (nfb t (mF M))).map (fun k => 2 * k + 1)).flatMap (fun g => (rkS t (mF M) g (fun _ => 7)).map (fun P => (t, g, P, 0)))
def sucP (M : aM) (x : nd) (c t : Nat) : List nd := (rkS t (mF M) x.2.1 (fun s => mst M x.1 x.2.2.1 c s 4)).map (fun Q => (t, x.2.1, Q, evn t Q &&& (if x.2.2.2 = 0 then t else aft M x.2.2.2 c)))
def suc (M : aM) (x : nd) (c : Nat) : List nd := if x.2.1 = 0 then sucS M (aft M x.1 c) else sucP M x c (aft M x.1 c)
/-- nodes met, edges laid -/
abbrev zS : Type := (Nat × (Nat → nd)) × (Nat × (Nat → Nat))
def zN (z : zS) : Nat := z.1.1
def zX (z : zS) : Nat → nd := z.1.2
def zE (z : zS) : Nat := z.2.1
def zT (z : zS) : Nat → Nat := z.2.2
def fnd (X : Nat → nd) (x : nd) : Nat → Option Nat
  | 0 => none
  | k + 1 => if X k = x then some k else fnd X x k
def pu {α : Type} (f : Nat → α) (k : Nat) (x : α) : Nat → α := fun j => if j = k then x else f j
def go1 (z : zS) (x : nd) : Option zS := match fnd (zX z) x (zN z) with
  | some k => some (z.1, (zE z + 1, pu (zT z) (zE z) k))
  | none => if zN z = 300 then none else some ((zN z + 1, pu (zX z) (zN z) x), (zE z + 1, pu (zT z) (zE z) (zN z)))
def goL : List nd → zS → Option zS
  | [], z => some z
  | x :: l, z => match go1 z x with
    | none => none
    | some y => goL l y
def lyC (M : aM) (x : nd) : Nat → Nat → Nat → zS × (Nat → Nat) → Option (zS × (Nat → Nat))
  | 0, _, _, w => some w
  | k + 1, c, i, w => match goL (suc M x c) w.1 with
    | none => none
    | some y => lyC M x k (c + 1) (i + 1) (y, pu w.2 i (zE w.1))
def lyN (M : aM) (G : Nat) : Nat → Nat → zS × (Nat → Nat) → Option (zS × (Nat → Nat))
  | 0, _, _ => none
  | f + 1, n, w => if n < zN w.1 then (match lyC M (zX w.1 n) G 0 (n * G) w with
    | none => none
    | some v => lyN M G f (n + 1) v) else some (w.1, pu w.2 (n * G) (zE w.1))
def cpl (M : aM) (G : Nat) : Option (zS × (Nat → Nat)) := lyN M G 301 0 (((1, fun _ => (mB M, 0, 0, 0)), (0, fun _ => 0)), fun _ => 0)
/-! what nodes keep to -/
def ndO (x : nd) : Prop := x.1 < 16 ∧ x.2.2.2 < 16 ∧ ((x.2.1 = 0 ∧ x.2.2.1 = 0 ∧ x.2.2.2 = 0) ∨ (odd7 x.2.1 ∧ dOK x.1 x.2.1 x.2.2.1 ∧ cvS x.1 x.2.2.1 x.2.1 = true))
theorem nfb_4 : ∀ t, t < 16 → ∀ f, f < 16 → nfb t f ≤ 4 := by decide +kernel
theorem evn_lt (t Q : Nat) : evn t Q < 16 := by
  unfold evn
  repeat' split
  all_goals decide
theorem rkS_cv {t f g Q : Nat} {cap : Nat → Nat} (hg : odd7 g) (h : Q ∈ rkS t f g cap) : cvS t Q g = true := by
  have h := (List.mem_filter.mp h).2
  unfold tgB at h
  obtain ⟨-, h⟩ := Bool.and_eq_true_iff.mp h
  obtain ⟨h, h7⟩ := Bool.and_eq_true_iff.mp h
  obtain ⟨h, h5⟩ := Bool.and_eq_true_iff.mp h
  obtain ⟨h1, h3⟩ := Bool.and_eq_true_iff.mp h
  rcases hg with rfl | rfl | rfl | rfl
  · simpa using h1
  · simpa using h3
  · simpa using h5
  · simpa using h7
theorem sucS_O {M : aM} {t : Nat} (ht : t < 16) (hf : mF M < 16) : ∀ x, x ∈ sucS M t → ndO x := by
  intro x hx
  rcases List.mem_cons.mp hx with rfl | hx
  · exact ⟨ht, (by decide : 0 < 16), Or.inl ⟨rfl, rfl, rfl⟩⟩
  · obtain ⟨g, hg, hx⟩ := List.mem_flatMap.mp hx
    obtain ⟨k, hk, rfl⟩ := List.mem_map.mp hg
    obtain ⟨P, hP, rfl⟩ := List.mem_map.mp hx
    have hk := List.mem_range.mp hk
    have h4 := nfb_4 t ht _ hf
    have ho : odd7 (2 * k + 1) := by unfold odd7; omega
    exact ⟨ht, (by decide : 0 < 16), Or.inr ⟨ho, rkS_ok ho hP, rkS_cv ho hP⟩⟩
theorem sucP_O {M : aM} {x : nd} {c t : Nat} (ht : t < 16) (hg : odd7 x.2.1) : ∀ y, y ∈ sucP M x c t → ndO y := by
  intro y hy
  obtain ⟨Q, hQ, rfl⟩ := List.mem_map.mp hy
  refine ⟨ht, ?_, Or.inr ⟨hg, rkS_ok hg hQ, rkS_cv hg hQ⟩⟩
  exact Nat.lt_of_le_of_lt Nat.and_le_left (evn_lt t Q)
theorem aft_16 {G : Nat} {M : aM} (h : mOk G M) (t c : Nat) : aft M t c < 16 := by
  have h1 := aft_lt h t c
  have h2 := b_pw _ h.2.1
  omega
theorem suc_O {G : Nat} {M : aM} {x : nd} {c : Nat} (h : mOk G M) (hx : ndO x) : ∀ y, y ∈ suc M x c → ndO y := by
  unfold suc
  by_cases h0 : x.2.1 = 0
  · rw [if_pos h0]
    exact sucS_O (aft_16 h _ _) h.b.2.1
  · rw [if_neg h0]
    refine sucP_O (aft_16 h _ _) ?_
    rcases hx.2.2 with c | c
    · exact absurd c.1 h0
    · exact c.1
/-! no node twice behind a node and a letter -/
theorem nd_fm {α β : Type} {h : α → List β} {key : β → α} (h1 : ∀ a, (h a).Nodup) : ∀ (l : List α), (∀ a, a ∈ l → ∀ b, b ∈ h a → key b = a) → l.Nodup → (l.flatMap h).Nodup
  | [], _, _ => List.nodup_nil
  | a :: l, h2, h3 => by
    rw [List.flatMap_cons, List.nodup_append]
    obtain ⟨n1, n2⟩ := List.nodup_cons.mp h3
    refine ⟨h1 a, nd_fm h1 l (fun b hb => h2 b (List.mem_cons_of_mem _ hb)) n2, fun x hx y hy e => ?_⟩
    subst e
    obtain ⟨b, hb, hxb⟩ := List.mem_flatMap.mp hy
    have e1 := h2 a List.mem_cons_self x hx
    have e2 := h2 b (List.mem_cons_of_mem _ hb) x hxb
    rw [e1] at e2
    exact n1 (e2 ▸ hb)
theorem nd_map {α β : Type} {f : α → β} (hf : ∀ a b, f a = f b → a = b) : ∀ (l : List α), l.Nodup → (l.map f).Nodup
  | [], _ => List.nodup_nil
  | a :: l, h => by
    obtain ⟨n1, n2⟩ := List.nodup_cons.mp h
    rw [List.map_cons]
    refine List.nodup_cons.mpr ⟨fun c => ?_, nd_map hf l n2⟩
    obtain ⟨b, hb, e⟩ := List.mem_map.mp c
    exact n1 (hf _ _ e ▸ hb)
theorem nd_fl {α : Type} {p : α → Bool} : ∀ (l : List α), l.Nodup → (l.filter p).Nodup
  | [], _ => List.nodup_nil
  | a :: l, h => by
    obtain ⟨n1, n2⟩ := List.nodup_cons.mp h
    rw [List.filter_cons]
    split
    · exact List.nodup_cons.mpr ⟨fun c => n1 (List.mem_filter.mp c).1, nd_fl l n2⟩
    · exact nd_fl l n2
theorem vs_nd {t g : Nat} (hg : g < 8) : ∀ (n P : Nat), n ≤ 4 → P % 8 ^ n = 0 → (vs t g n P).Nodup := by
  intro n
  induction n with
  | zero => intro P _ _; exact List.nodup_cons.mpr ⟨(fun h => nomatch h), List.nodup_nil⟩
  | succ n ih =>
    intro P hn hP
    have h8 : 8 ^ (n + 1) = 8 ^ n * 8 := Nat.pow_succ _ _
    have hPn : ∀ d, (P + d * 8 ^ n) % 8 ^ n = 0 := by
      intro d
      rw [Nat.add_mul_mod_self_right]
      obtain ⟨q, hq⟩ := Nat.dvd_of_mod_eq_zero hP
      rw [hq, h8, Nat.mul_assoc]
      exact Nat.mul_mod_right _ _
    rw [vs]
    split
    · refine nd_fm (key := fun Q => dg Q (3 - n)) (fun d => ih _ (by omega) (hPn d)) _ (fun d hd Q hQ => ?_) List.nodup_range
      have hd := List.mem_range.mp hd
      exact vs_dg hg (by omega) (by omega) hP hQ
    · have := hPn 0
      rw [Nat.zero_mul, Nat.add_zero] at this
      exact ih P (by omega) this
theorem rkS_nd {t f g : Nat} {cap : Nat → Nat} (hg : g < 8) : (rkS t f g cap).Nodup := nd_fl _ (vs_nd hg 4 0 (by decide) (by decide))
theorem rkS_nd' {t f g : Nat} {cap : Nat → Nat} : (rkS t f (2 * g + 1) cap).Nodup ∨ ¬ g < 4 := by
  by_cases c : g < 4
  · exact Or.inl (rkS_nd (by omega))
  · exact Or.inr c
theorem suc_nd {G : Nat} {M : aM} {x : nd} {c : Nat} (h : mOk G M) (hx : ndO x) : (suc M x c).Nodup := by
  unfold suc
  by_cases h0 : x.2.1 = 0
  · rw [if_pos h0]
    have ht := aft_16 h x.1 c
    generalize aft M x.1 c = t at ht
    have h4 := nfb_4 t ht _ h.b.2.1
    refine List.nodup_cons.mpr ⟨fun q => ?_, ?_⟩
    · obtain ⟨g, hg, hy⟩ := List.mem_flatMap.mp q
      obtain ⟨k, hk, rfl⟩ := List.mem_map.mp hg
      obtain ⟨P, hP, e⟩ := List.mem_map.mp hy
      have e2 : 2 * k + 1 = 0 := congrArg (fun z : nd => z.2.1) e
      omega
    · have hh : ∀ l : List Nat, (∀ g, g ∈ l → g < 8) → l.Nodup → (l.flatMap (fun g => (rkS t (mF M) g (fun _ => 7)).map (fun P => ((t, g, P, 0) : nd)))).Nodup := by
        intro l hl hn
        have e : l.flatMap (fun g => (rkS t (mF M) g (fun _ => 7)).map (fun P => ((t, g, P, 0) : nd))) = l.flatMap (fun g => if g < 8 then (rkS t (mF M) g (fun _ => 7)).map (fun P => ((t, g, P, 0) : nd)) else []) := by
          have : ∀ l : List Nat, (∀ g, g ∈ l → g < 8) → l.flatMap (fun g => (rkS t (mF M) g (fun _ => 7)).map (fun P => ((t, g, P, 0) : nd))) = l.flatMap (fun g => if g < 8 then (rkS t (mF M) g (fun _ => 7)).map (fun P => ((t, g, P, 0) : nd)) else []) := by
            intro l
            induction l with
            | nil => intro _; rfl
            | cons a l il =>
              intro hl
              rw [List.flatMap_cons, List.flatMap_cons, if_pos (hl a List.mem_cons_self), il (fun g hg => hl g (List.mem_cons_of_mem _ hg))]
          exact this l hl
        rw [e]
        refine nd_fm (key := fun z : nd => z.2.1) (fun g => ?_) l (fun g _ y hy => ?_) hn
        · split
          · next hg => exact nd_map (fun a b e => congrArg (fun z : nd => z.2.2.1) e) _ (rkS_nd hg)
          · exact List.nodup_nil
        · split at hy
          · obtain ⟨P, _, rfl⟩ := List.mem_map.mp hy
            rfl
          · exact nomatch hy
      refine hh _ (fun g hg => ?_) (nd_map (fun a b e => by have e : 2 * a + 1 = 2 * b + 1 := e; omega) _ List.nodup_range)
      obtain ⟨k, hk, rfl⟩ := List.mem_map.mp hg
      have := List.mem_range.mp hk
      omega
  · rw [if_neg h0]
    have hg : odd7 x.2.1 := by
      rcases hx.2.2 with c | c
      · exact absurd c.1 h0
      · exact c.1
    have g8 : x.2.1 < 8 := by rcases hg with h | h | h | h <;> omega
    exact nd_map (fun a b e => congrArg (fun z : nd => z.2.2.1) e) _ (rkS_nd g8)
/-- a list without repetition within the first k of X is no longer than k -/
theorem nd_le {X : Nat → nd} : ∀ (k : Nat) (l : List nd), l.Nodup → (∀ x, x ∈ l → ∃ j, j < k ∧ X j = x) → l.length ≤ k := by
  intro k
  induction k with
  | zero =>
    intro l _ h
    cases l with
    | nil => exact Nat.le_refl _
    | cons x l =>
      obtain ⟨j, hj, -⟩ := h x List.mem_cons_self
      exact absurd hj (Nat.not_lt_zero j)
  | succ k ih =>
    intro l hn h
    have h1 := ih (l.filter (fun x => decide (x ≠ X k))) (nd_fl l hn) (fun x hx => by
      obtain ⟨m1, m2⟩ := List.mem_filter.mp hx
      obtain ⟨j, hj, e⟩ := h x m1
      have m2 : x ≠ X k := of_decide_eq_true m2
      refine ⟨j, ?_, e⟩
      rcases Nat.lt_succ_iff_lt_or_eq.mp hj with c | c
      · exact c
      · exact absurd (c ▸ e).symm m2)
    have h2 : ∀ (l : List nd), l.Nodup → l.length ≤ (l.filter (fun x => decide (x ≠ X k))).length + 1 := by
      intro l
      induction l with
      | nil => intro _; exact Nat.zero_le _
      | cons x l il =>
        intro hn
        obtain ⟨n1, n2⟩ := List.nodup_cons.mp hn
        rw [List.filter_cons, List.length_cons]
        by_cases c : x = X k
        · rw [if_neg (by simp [c])]
          have e : l.filter (fun x => decide (x ≠ X k)) = l := by
            have : ∀ l : List nd, x ∉ l → l.filter (fun y => decide (y ≠ X k)) = l := by
              intro l
              induction l with
              | nil => intro _; rfl
              | cons y l il2 =>
                intro hy
                rw [List.filter_cons, if_pos (by
                  refine decide_eq_true (fun e => hy ?_)
                  rw [c, ← e]
                  exact List.mem_cons_self), il2 (fun q => hy (List.mem_cons_of_mem _ q))]
            exact this l n1
          rw [e]
          exact Nat.le_refl _
        · rw [if_pos (decide_eq_true c), List.length_cons]
          have := il n2
          omega
    have := h2 l hn
    omega
