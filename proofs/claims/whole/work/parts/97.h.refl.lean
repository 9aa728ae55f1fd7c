/-! the complement: small helps of the reference -/
theorem pk_s {P s : Nat} (hP : P < 4096) (hs : s < 4) : P / 8 ^ (4 - s) * 8 + dg P s = P / 8 ^ (4 - (s + 1)) := by
  unfold dg
  rcases s4 hs with rfl | rfl | rfl | rfl
  · show P / 4096 * 8 + P / 512 % 8 = P / 512; omega
  · show P / 512 * 8 + P / 64 % 8 = P / 64; omega
  · show P / 64 * 8 + P / 8 % 8 = P / 8; omega
  · show P / 8 * 8 + P / 1 % 8 = P / 1; omega
theorem x_pkL {F t g P : Nat} {σ : sS} (ht : t < 16) (hD : dOK t g P) (hV : rV P σ) (kx : Int32 → Option Int32) : ∀ (n s f : Nat), s + n = 4 → n < f → L_X12_packed_4 F (nI t) σ kx f (nI (P / 8 ^ (4 - s))) (nI s) = kx (nI P) := by
  intro n
  induction n with
  | zero =>
    intro s f hs hf
    obtain ⟨f, rfl⟩ : ∃ k, f = k + 1 := ⟨f - 1, by omega⟩
    have hs : s = 4 := by omega
    subst hs
    rw [L_X12_packed_4, if_pos (by decide), show P / 8 ^ (4 - 4) = P from Nat.div_one P]
  | succ n ih =>
    intro s f hs hf
    obtain ⟨f, rfl⟩ : ∃ k, f = k + 1 := ⟨f - 1, by omega⟩
    rw [L_X12_packed_4, if_neg (show ¬ (4 : Int32) ≤ nI s from nI_ge (b := 4) (by omega) (by omega)), inb_n (by omega) (by omega), grd_s, nI_clamp (by omega), hV.2 s (by omega)]
    simp only [bnd_s]
    have e8 : nI (P / 8 ^ (4 - s)) * 8 = nI (P / 8 ^ (4 - s) * 8) := by rw [show (8 : Int32) = nI 8 from rfl, nI_mul]
    have key := ih (s + 1) f (by omega) (by omega)
    rw [← pk_s hV.1 (show s < 4 by omega)] at key
    rw [b_tb t ht s (by omega), e8, nI_1, nI_add]
    by_cases hb : t.testBit s = true
    · rw [if_pos hb, if_pos rfl]
      exact key
    · rw [if_neg hb, if_neg (by decide), Int32.add_zero]
      rw [(hD.2 s (by omega)).2 ((Bool.not_eq_true _).mp hb), Nat.add_zero] at key
      exact key
theorem x_packed {F t g P : Nat} {σ : sS} (hF : 4 < F) (ht : t < 16) (hD : dOK t g P) (hV : rV P σ) : L_X12_packed F (nI t) σ = some (nI P) := by
  have h := x_pkL (F := F) ht hD hV (fun y => some y) 4 0 F rfl hF
  rw [show P / 8 ^ (4 - 0) = 0 from Nat.div_eq_of_lt hV.1] at h
  exact h
def evN (t Q : Nat) : Nat → Nat
  | 0 => 0
  | s + 1 => evN t Q s + (if t.testBit s = true ∧ dg Q s % 2 = 0 then 2 ^ s else 0)
theorem evN_4 {t Q : Nat} : evN t Q 4 = evn t Q := by
  show 0 + _ + _ + _ + _ = _
  unfold evn
  rw [Nat.zero_add]
theorem evN_lt {t Q : Nat} : ∀ s, evN t Q s < 2 ^ s := by
  intro s
  induction s with
  | zero => exact Nat.one_pos
  | succ s ih =>
    rw [evN, Nat.pow_succ]
    split <;> omega
theorem b_ev : ∀ s, s < 4 → ∀ x, x < 2 ^ s → nI x ||| ((1 : Int32) <<< (nI s &&& 31)) = nI (x + 2 ^ s) := by decide +kernel
theorem b_e0 : ∀ d, d < 8 → (nI d - nI d / 2 * 2 = 0 ↔ d % 2 = 0) := by decide +kernel
theorem x_evL {F t P : Nat} {σ : sS} (ht : t < 16) (hV : rV P σ) (kx : Int32 → Option Int32) : ∀ (n s f : Nat), s + n = 4 → n < f → L_X12_evens_4 F (nI t) σ kx f (nI (evN t P s)) (nI s) = kx (nI (evn t P)) := by
  intro n
  induction n with
  | zero =>
    intro s f hs hf
    obtain ⟨f, rfl⟩ : ∃ k, f = k + 1 := ⟨f - 1, by omega⟩
    have hs : s = 4 := by omega
    subst hs
    rw [L_X12_evens_4, if_pos (by decide), evN_4]
  | succ n ih =>
    intro s f hs hf
    obtain ⟨f, rfl⟩ : ∃ k, f = k + 1 := ⟨f - 1, by omega⟩
    have d8 : dg P s < 8 := dg_lt
    have key := ih (s + 1) f (by omega) (by omega)
    rw [evN] at key
    rw [L_X12_evens_4, if_neg (show ¬ (4 : Int32) ≤ nI s from nI_ge (b := 4) (by omega) (by omega)), inb_n (by omega) (by omega), grd_s, nI_clamp (by omega), hV.2 s (by omega)]
    simp only [bnd_s]
    rw [b_tb t ht s (by omega), b_ev s (by omega) _ (evN_lt s), nI_1]
    by_cases hb : t.testBit s = true
    · rw [if_pos hb, if_pos rfl]
      by_cases he : dg P s % 2 = 0
      · rw [if_pos ((b_e0 _ d8).mpr he)]
        rw [if_pos ⟨hb, he⟩] at key
        exact key
      · rw [if_neg (fun c => he ((b_e0 _ d8).mp c))]
        rw [if_neg (fun c => he c.2), Nat.add_zero] at key
        exact key
    · rw [if_neg hb, if_neg (by decide)]
      rw [if_neg (fun c => hb c.1), Nat.add_zero] at key
      exact key
theorem x_evens {F t P : Nat} {σ : sS} (hF : 4 < F) (ht : t < 16) (hV : rV P σ) : L_X12_evens F (nI t) σ = some (nI (evn t P)) := x_evL ht hV _ 4 0 F rfl hF
/-- under a cap -/
def und (t : Nat) (cap : Nat → Nat) (P : Nat) : Nat → Nat → Bool
  | 0, _ => true
  | n + 1, s => (!t.testBit s || decide (dg P s ≤ cap s)) && und t cap P n (s + 1)
theorem x_unL {F t P : Nat} {cap : Nat → Nat} {σ : sS} (ht : t < 16) (hV : rV P σ) (hc : ∀ s, s < 4 → vI σ 136 s = nI (cap s) ∧ cap s < 8) : ∀ (n s f : Nat), s + n = 4 → n < f → L_X12_isUnder_2 F (nI t) σ (some 1) f (nI s) = some (if und t cap P n s = true then 1 else 0) := by
  intro n
  induction n with
  | zero =>
    intro s f hs hf
    obtain ⟨f, rfl⟩ : ∃ k, f = k + 1 := ⟨f - 1, by omega⟩
    have hs : s = 4 := by omega
    subst hs
    rw [L_X12_isUnder_2, if_pos (by decide)]
    rfl
  | succ n ih =>
    intro s f hs hf
    obtain ⟨f, rfl⟩ : ∃ k, f = k + 1 := ⟨f - 1, by omega⟩
    have d8 : dg P s < 8 := dg_lt
    obtain ⟨c1, c2⟩ := hc s (by omega)
    rw [L_X12_isUnder_2, if_neg (show ¬ (4 : Int32) ≤ nI s from nI_ge (b := 4) (by omega) (by omega)), inb_n (by omega) (by omega), grd_s, grd_s, nI_clamp (by omega), hV.2 s (by omega), c1, b_tb t ht s (by omega), nI_1, ih (s + 1) f (by omega) (by omega), und]
    by_cases hb : t.testBit s = true
    · rw [if_pos hb, if_pos rfl, hb]
      by_cases hd : dg P s ≤ cap s
      · rw [if_pos (nI_le hd (by omega)), decide_eq_true hd]
        rfl
      · rw [if_neg (nI_ge (by omega) (by omega)), decide_eq_false hd]
        rfl
    · rw [if_neg hb, if_neg (by decide), (Bool.not_eq_true _).mp hb]
      rfl
theorem x_under {F t P : Nat} {cap : Nat → Nat} {σ : sS} (hF : 4 < F) (ht : t < 16) (hV : rV P σ) (hc : ∀ s, s < 4 → vI σ 136 s = nI (cap s) ∧ cap s < 8) : L_X12_isUnder F (nI t) σ = some (if und t cap P 4 0 = true then 1 else 0) := x_unL ht hV hc 4 0 F rfl hF
theorem tgB_und {t f g P : Nat} {cap : Nat → Nat} : tgB t f g cap P = (und t cap P 4 0 && tgB t f g (fun _ => 7) P) := by
  have st : ∀ s, okS t f cap P s = ((!t.testBit s || decide (dg P s ≤ cap s)) && okS t f (fun _ => 7) P s) := by
    intro s
    have d8 : dg P s ≤ 7 := by have := dg_lt (P := P) (s := s); omega
    unfold okS
    rw [decide_eq_true d8]
    cases t.testBit s <;> cases decide (dg P s ≤ cap s) <;> cases f.testBit s <;> cases decide (dg P s % 2 = 0) <;> rfl
  unfold tgB
  rw [st 0, st 1, st 2, st 3]
  show _ = (((!t.testBit 0 || decide (dg P 0 ≤ cap 0)) && ((!t.testBit 1 || decide (dg P 1 ≤ cap 1)) && ((!t.testBit 2 || decide (dg P 2 ≤ cap 2)) && ((!t.testBit 3 || decide (dg P 3 ≤ cap 3)) && true)))) && _)
  generalize (!t.testBit 0 || decide (dg P 0 ≤ cap 0)) = a
  generalize (!t.testBit 1 || decide (dg P 1 ≤ cap 1)) = b
  generalize (!t.testBit 2 || decide (dg P 2 ≤ cap 2)) = c
  generalize (!t.testBit 3 || decide (dg P 3 ≤ cap 3)) = d
  generalize okS t f (fun _ => 7) P 0 = a'
  generalize okS t f (fun _ => 7) P 1 = b'
  generalize okS t f (fun _ => 7) P 2 = c'
  generalize okS t f (fun _ => 7) P 3 = d'
  cases a <;> cases b <;> cases c <;> cases d <;> cases a' <;> cases b' <;> cases c' <;> cases d' <;> rfl
theorem x_rankIn {P s : Nat} (hP : P < 4096) (hs : s < 4) : L_X12_rankIn (nI P) (nI s) = nI (dg P s) := by
  have e : ∀ s, s < 4 → (3 : Int32) - nI s = nI (3 - s) := by decide +kernel
  unfold L_X12_rankIn
  rw [e s hs]
  rcases s4 hs with rfl | rfl | rfl | rfl
  · exact k_ro3 P hP
  · exact k_ro2 P hP
  · exact k_ro1 P hP
  · have := k_ro0 P hP
    rw [dg_3]
    exact this
theorem mst_le {M : aM} {t P c to : Nat} : ∀ s, mst M t P c to s ≤ 7 := by
  intro s
  induction s with
  | zero => exact Nat.le_refl _
  | succ s ih =>
    rw [mst]
    split
    · exact Nat.le_trans (Nat.min_le_left _ _) ih
    · exact ih
theorem x_msL {A : aS} {z : zS} {σ : sS} {F i n c to : Nat} (h : R0 A σ) (hz : rZ z σ) (hi : i < aC A) (hn : n < zN z) (hc : c < 4) (hto : to < 4) (kx : Int32 → Option Int32) : ∀ (m s f : Nat), s + m = 4 → m < f → L_X12_mostOf_7 F (nI i) (nI n) (nI c) (nI to) σ kx f (nI (mst (aMa A i) (zX z n).1 (zX z n).2.2.1 c to s)) (nI s) = kx (nI (mst (aMa A i) (zX z n).1 (zX z n).2.2.1 c to 4)) := by
  have hm := (h.m hi).1
  have hN := hz.1
  obtain ⟨o, r1, r2, r3, r4⟩ := hz.2.2.2.2.1 n hn
  intro m
  induction m with
  | zero =>
    intro s f hs hf
    obtain ⟨f, rfl⟩ : ∃ k, f = k + 1 := ⟨f - 1, by omega⟩
    have hs : s = 4 := by omega
    subst hs
    rw [L_X12_mostOf_7, if_pos (by decide)]
  | succ m ih =>
    intro s f hs hf
    obtain ⟨f, rfl⟩ : ∃ k, f = k + 1 := ⟨f - 1, by omega⟩
    have d8 : dg (zX z n).2.2.1 s < 8 := dg_lt
    have m7 := mst_le (M := aMa A i) (t := (zX z n).1) (P := (zX z n).2.2.1) (c := c) (to := to) s
    have key := ih (s + 1) f (by omega) (by omega)
    rw [mst] at key
    rw [L_X12_mostOf_7, if_neg (show ¬ (4 : Int32) ≤ nI s from nI_ge (b := 4) (by omega) (by omega)), inb_n (by omega) (by omega)]
    simp only [grd_s, bnd_s]
    rw [nI_clamp (by omega), r1, r3, b_tb _ o.1 s (by omega), x_edgesOf h hi hc (by omega), bd_s, b_tb _ (hm.b.2.2 c s) to hto, x_rankIn o.P.1 (by omega), nI_1]
    by_cases hb : (zX z n).1.testBit s = true
    · rw [if_pos hb, if_pos rfl]
      by_cases he : (mE (aMa A i) c s).testBit to = true
      · rw [if_pos he, if_pos rfl]
        rw [if_pos ⟨hb, he⟩] at key
        by_cases hl : mst (aMa A i) (zX z n).1 (zX z n).2.2.1 c to s ≤ dg (zX z n).2.2.1 s
        · rw [if_pos (nI_le hl (by omega))]
          rw [Nat.min_eq_left hl] at key
          exact key
        · rw [if_neg (nI_ge (by omega) (by omega))]
          rw [Nat.min_eq_right (by omega)] at key
          exact key
      · rw [if_neg he, if_neg (by decide)]
        rw [if_neg (fun q => he q.2)] at key
        exact key
    · rw [if_neg hb, if_neg (by decide)]
      rw [if_neg (fun q => hb q.1)] at key
      exact key
theorem x_mostOf {A : aS} {z : zS} {σ : sS} {F i n c to : Nat} (hF : 4 < F) (h : R0 A σ) (hz : rZ z σ) (hi : i < aC A) (hn : n < zN z) (hc : c < 4) (hto : to < 4) : L_X12_mostOf F (nI i) (nI n) (nI c) (nI to) σ = some (nI (mst (aMa A i) (zX z n).1 (zX z n).2.2.1 c to 4)) := x_msL h hz hi hn hc hto _ 4 0 F rfl hF
/-! many nodes, one after the other -/
theorem goL_app : ∀ (l1 l2 : List nd) (z : zS), goL (l1 ++ l2) z = match goL l1 z with
    | none => none
    | some y => goL l2 y
  | [], _, _ => rfl
  | x :: l1, l2, z => by
    rw [List.cons_append, goL, goL]
    cases go1 z x with
    | none => rfl
    | some y => exact goL_app l1 l2 y
def okE : List nd → zS → Prop
  | [], _ => True
  | x :: l, z => ndO x ∧ match go1 z x with
    | none => True
    | some y => zE z < 270000 ∧ okE l y
theorem okE.app1 : ∀ {l1 l2 : List nd} {z : zS}, okE (l1 ++ l2) z → okE l1 z
  | [], _, _, _ => trivial
  | x :: l1, l2, z, h => by
    obtain ⟨h2, h3⟩ := h
    refine ⟨h2, ?_⟩
    cases hg : go1 z x with
    | none => trivial
    | some y =>
      rw [hg] at h3
      exact ⟨h3.1, okE.app1 (l1 := l1) (l2 := l2) h3.2⟩
theorem okE.app2 : ∀ {l1 l2 : List nd} {z y : zS}, okE (l1 ++ l2) z → goL l1 z = some y → okE l2 y
  | [], _, _, _, h, e => by
    injection e with e
    rw [← e]
    exact h
  | x :: l1, l2, z, y, h, e => by
    obtain ⟨h2, h3⟩ := h
    rw [goL] at e
    cases hg : go1 z x with
    | none => rw [hg] at e; exact nomatch e
    | some w =>
      rw [hg] at h3 e
      exact okE.app2 (l1 := l1) (l2 := l2) h3.2 e
theorem fnd_s {X : Nat → nd} {x : nd} {k : Nat} : ∀ n, fnd X x n = some k → k < n ∧ X k = x := by
  intro n
  induction n with
  | zero => intro h; exact nomatch h
  | succ n ih =>
    intro h
    rw [fnd] at h
    split at h
    · next hc =>
      injection h with h
      rw [← h]
      exact ⟨by omega, hc⟩
    · have := ih h
      exact ⟨by omega, this.2⟩
/-- behind a node and a letter there are at most 300 -/
theorem okE_nd {e0 : Nat} (h0 : e0 + 300 ≤ 270000) : ∀ (l pre : List nd) (z : zS), zN z ≤ 300 → (pre ++ l).Nodup → (∀ x, x ∈ pre → ∃ j, j < zN z ∧ zX z j = x) → zE z = e0 + pre.length → (∀ x, x ∈ l → ndO x) → okE l z ∧ ∀ y, goL l z = some y → zN y ≤ 300 ∧ zE y ≤ e0 + 300 := by
  intro l
  induction l with
  | nil =>
    intro pre z hN hn hp hE _
    rw [List.append_nil] at hn
    have h1 := nd_le (X := zX z) (zN z) pre hn hp
    refine ⟨trivial, fun y hy => ?_⟩
    have hy : some z = some y := hy
    injection hy with hy
    rw [← hy]
    exact ⟨hN, by omega⟩
  | cons x l ih =>
    intro pre z hN hn hp hE hO
    have hn2 : ((pre ++ [x]) ++ l).Nodup := by rw [List.append_assoc]; exact hn
    have hx1 : (pre ++ [x]).Nodup := (List.nodup_append.mp hn2).1
    have hpre : pre.Nodup := (List.nodup_append.mp hn).1
    have hO2 : ∀ y, y ∈ l → ndO y := fun y hy => hO y (List.mem_cons_of_mem _ hy)
    have hl : (pre ++ [x]).length = pre.length + 1 := by rw [List.length_append]; rfl
    show (ndO x ∧ match go1 z x with | none => True | some y => zE z < 270000 ∧ okE l y) ∧ ∀ y, (match go1 z x with | none => none | some w => goL l w) = some y → _
    unfold go1
    cases hf : fnd (zX z) x (zN z) with
    | some k =>
      obtain ⟨k1, k2⟩ := fnd_s _ hf
      have hp2 : ∀ y, y ∈ pre ++ [x] → ∃ j, j < zN z ∧ zX z j = y := by
        intro y hy
        rcases List.mem_append.mp hy with c | c
        · exact hp y c
        · rw [List.mem_singleton.mp c]
          exact ⟨k, k1, k2⟩
      have h1 := nd_le (X := zX z) (zN z) (pre ++ [x]) hx1 hp2
      obtain ⟨i1, i2⟩ := ih (pre ++ [x]) (z.1, (zE z + 1, pu (zT z) (zE z) k)) hN hn2 hp2 (by show zE z + 1 = _; rw [hl]; omega) hO2
      exact ⟨⟨hO x List.mem_cons_self, by omega, i1⟩, i2⟩
    | none =>
      have h1 := nd_le (X := zX z) (zN z) pre hpre hp
      by_cases c : zN z = 300
      · simp only [if_pos c]
        refine ⟨⟨hO x List.mem_cons_self, trivial⟩, fun y hy => nomatch hy⟩
      · simp only [if_neg c]
        obtain ⟨i1, i2⟩ := ih (pre ++ [x]) ((zN z + 1, pu (zX z) (zN z) x), (zE z + 1, pu (zT z) (zE z) (zN z))) (show zN z + 1 ≤ 300 by omega) hn2 (fun y hy => by
          show ∃ j, j < zN z + 1 ∧ pu (zX z) (zN z) x j = y
          rcases List.mem_append.mp hy with c | c
          · obtain ⟨j, j1, j2⟩ := hp y c
            exact ⟨j, by omega, by rw [pu_n (by omega)]; exact j2⟩
          · rw [List.mem_singleton.mp c]
            exact ⟨zN z, by omega, pu_s⟩) (by show zE z + 1 = _; rw [hl]; omega) hO2
        exact ⟨⟨hO x List.mem_cons_self, by omega, i1⟩, i2⟩
