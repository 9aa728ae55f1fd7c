/-! rounds: words followed; how the component holds it -/
def pth (G : gG) : List Nat → Nat → Nat → Prop
  | [], v, w => v = w
  | s :: l, v, w => ∃ u, u ∈ GS G v s ∧ pth G l u w
theorem pth_a {G : gG} : ∀ {l m : List Nat} {v w : Nat}, pth G (l ++ m) v w ↔ ∃ u, pth G l v u ∧ pth G m u w
  | [], m, v, w => ⟨fun h => ⟨v, rfl, h⟩, fun ⟨u, h1, h2⟩ => by have h1 : v = u := h1; rw [h1]; exact h2⟩
  | s :: l, m, v, w => by
    constructor
    · rintro ⟨u, h1, h2⟩
      obtain ⟨x, h3, h4⟩ := pth_a.mp h2
      exact ⟨x, ⟨u, h1, h3⟩, h4⟩
    · rintro ⟨x, ⟨u, h1, h3⟩, h4⟩
      exact ⟨u, h1, pth_a.mpr ⟨x, h3, h4⟩⟩
/-- come to by a word from a first one -/
def frm (G : gG) (l : List Nat) (v : Nat) : Prop := ∃ f, f < GN G ∧ GF G f = true ∧ pth G l f v
theorem frm_s {G : gG} {l : List Nat} {s t : Nat} : frm G (l ++ [s]) t ↔ ∃ u, frm G l u ∧ t ∈ GS G u s := by
  constructor
  · rintro ⟨f, f1, f2, f3⟩
    obtain ⟨u, u1, u2, u3, u4⟩ := pth_a.mp f3
    have u4 : u2 = t := u4
    rw [u4] at u3
    exact ⟨u, ⟨f, f1, f2, u1⟩, u3⟩
  · rintro ⟨u, ⟨f, f1, f2, f3⟩, h⟩
    exact ⟨f, f1, f2, pth_a.mpr ⟨u, f3, t, h, rfl⟩⟩
theorem frm_n {G : gG} (hG : gOk G) : ∀ {l : List Nat} {v : Nat}, (∀ s, s ∈ l → s < GL G) → frm G l v → v < GN G := by
  intro l v hl h
  obtain ⟨f, f1, f2, f3⟩ := h
  have key : ∀ (l : List Nat) (v w : Nat), (∀ s, s ∈ l → s < GL G) → v < GN G → pth G l v w → w < GN G := by
    intro l
    induction l with
    | nil => intro v w _ hv q; have q : v = w := q; rw [← q]; exact hv
    | cons s l ih =>
      rintro v w hl hv ⟨u, u1, u2⟩
      exact ih u w (fun x hx => hl x (List.mem_cons_of_mem _ hx)) ((hG.2.2 v hv s (hl s List.mem_cons_self)).2 u u1) u2
  exact key l f v hl f1 f3
/-- nothing has changed but Loops, Rounds and their rows -/
def brl (σ τ : sS) : Prop := (∀ b, (b < 19 ∨ (25 < b ∧ b < 45) ∨ 49 < b) → vI τ b = vI σ b ∧ vU τ b = vU σ b ∧ vC τ b = vC σ b) ∧ τ.2.1 = σ.2.1 ∧ ∀ b, b ≠ 45 → τ.2.2.1 b = σ.2.2.1 b
theorem brl.rf {σ : sS} : brl σ σ := ⟨fun _ _ => ⟨rfl, rfl, rfl⟩, rfl, fun _ _ => rfl⟩
theorem brl.tr {σ τ υ : sS} (h : brl σ τ) (k : brl τ υ) : brl σ υ := ⟨fun b hb => ⟨(k.1 b hb).1.trans (h.1 b hb).1, (k.1 b hb).2.1.trans (h.1 b hb).2.1, (k.1 b hb).2.2.trans (h.1 b hb).2.2⟩, k.2.1.trans h.2.1, fun b hb => (k.2.2 b hb).trans (h.2.2 b hb)⟩
theorem brl_r {σ τ : sS} (h : rrel σ τ) : brl σ τ := ⟨fun b hb => h.1 b (by omega), h.2⟩
theorem brl_l {σ τ : sS} (h : lrel σ τ) : brl σ τ := ⟨fun b hb => h.1 b (by omega), h.2.1, fun b _ => by rw [h.2.2]⟩
/-- a row of bits -/
def frw (F n : Nat) (A : Nat → Nat → Prop) (τ : sS) : Prop := n ≤ vC τ F ∧ ∀ v, v < n → ∃ X, vI τ F v = nI X ∧ X < 2 ^ 27 ∧ ∀ k, X.testBit k = true ↔ A v k
theorem frw.c {F n : Nat} {A A' : Nat → Nat → Prop} {σ τ : sS} (h : frw F n A σ) (h1 : ∀ j, j < n → vI τ F j = vI σ F j) (h2 : vC τ F = vC σ F) (hA : ∀ v k, v < n → (A v k ↔ A' v k)) : frw F n A' τ := by
  refine ⟨by rw [h2]; exact h.1, fun v hv => ?_⟩
  obtain ⟨X, x1, x2, x3⟩ := h.2 v hv
  exact ⟨X, (h1 v hv).trans x1, x2, fun k => (x3 k).trans (hA v k hv)⟩
theorem tb_0 {X : Nat} : X = 0 ↔ ∀ k, ¬ X.testBit k = true := by
  constructor
  · intro h k
    rw [h, Nat.zero_testBit]
    decide
  · intro h
    refine Nat.eq_of_testBit_eq (fun k => ?_)
    rw [Nat.zero_testBit]
    cases hb : X.testBit k with
    | false => rfl
    | true => exact absurd hb (h k)
theorem qin_g {X i : Nat} (hX : X < 2 ^ 27) (hi : i < 32) : q_in (nI i) (nI X) = 0 ↔ X.testBit i = false := by
  have e1 : nI i &&& 31 = nI i := by
    rw [show (31 : Int32) = nI 31 from rfl, nI_and]
    congr 1
    have : i &&& (2 ^ 5 - 1) = i % 2 ^ 5 := Nat.and_two_pow_sub_one_eq_mod i 5
    rw [show (31 : Nat) = 2 ^ 5 - 1 from rfl, this]
    omega
  have e2 : (nI X >>> nI i) &&& 1 = nI (X / 2 ^ i % 2) := by
    rw [nI_shr (by omega) hi, show (1 : Int32) = nI 1 from rfl, nI_and, Nat.and_one_is_mod]
  unfold q_in
  rw [e1, e2]
  have hb : X.testBit i = decide (X / 2 ^ i % 2 = 1) := Nat.testBit_eq_decide_div_mod_eq
  have h2 : X / 2 ^ i % 2 < 2 := Nat.mod_lt _ (by decide)
  rw [hb]
  by_cases c : X / 2 ^ i % 2 = 1
  · rw [c, decide_eq_true rfl]
    exact ⟨fun q => absurd q (by decide), fun q => nomatch q⟩
  · rw [show X / 2 ^ i % 2 = 0 by omega]
    exact ⟨fun _ => by decide, fun _ => by decide⟩
/-- stems with one more letter -/
def LN (b g s : Nat) (P : Nat → Prop) (k : Nat) : Prop := if b = 0 then P k else ∃ i, i < 9 ∧ P i ∧ k = i * g + s
theorem r_lgP {g s X : Nat} (hg : g ≤ 3) (hs : s < g) (hX : X < 2 ^ 27) : ∀ n, n ≤ 9 → ∃ Y, r_lg g (nI X) (nI s) n = nI Y ∧ Y < 2 ^ 27 ∧ ∀ k, Y.testBit k = true ↔ ∃ i, i < n ∧ X.testBit i = true ∧ k = i * g + s := by
  intro n
  induction n with
  | zero =>
    intro _
    refine ⟨0, rfl, by decide, fun k => ?_⟩
    rw [Nat.zero_testBit]
    exact ⟨fun q => (nomatch q), fun ⟨i, h, _⟩ => absurd h (Nat.not_lt_zero i)⟩
  | succ n ih =>
    intro hn
    obtain ⟨Y, y1, y2, y3⟩ := ih (by omega)
    rw [r_lg, y1]
    have hq := qin_g (i := n) hX (by omega)
    by_cases c : X.testBit n = true
    · rw [if_neg (fun z => by rw [hq.mp z] at c; exact nomatch c)]
      have hb : n * g + s < 27 := by
        have : n * g ≤ 8 * 3 := Nat.mul_le_mul (by omega) hg
        omega
      have e1 : (nI n * nI g + nI s) &&& 31 = nI (n * g + s) := by
        rw [nI_mul, nI_add, show (31 : Int32) = nI 31 from rfl, nI_and]
        congr 1
        have : (n * g + s) &&& (2 ^ 5 - 1) = (n * g + s) % 2 ^ 5 := Nat.and_two_pow_sub_one_eq_mod _ 5
        rw [show (31 : Nat) = 2 ^ 5 - 1 from rfl, this]
        omega
      rw [e1, show (1 : Int32) = nI 1 from rfl, nI_shl (by omega), Nat.one_mul, nI_or]
      refine ⟨Y ||| 2 ^ (n * g + s), rfl, Nat.or_lt_two_pow y2 (Nat.pow_lt_pow_right (by decide) hb), fun k => ?_⟩
      rw [Nat.testBit_or, Bool.or_eq_true, y3, Nat.testBit_two_pow]
      constructor
      · rintro (⟨i, i1, i2, i3⟩ | h)
        · exact ⟨i, by omega, i2, i3⟩
        · exact ⟨n, by omega, c, (of_decide_eq_true h).symm⟩
      · rintro ⟨i, i1, i2, i3⟩
        by_cases e : i = n
        · exact Or.inr (decide_eq_true (by rw [i3, e]))
        · exact Or.inl ⟨i, by omega, i2, i3⟩
    · have cf : X.testBit n = false := by
        cases h : X.testBit n with
        | false => rfl
        | true => exact absurd h c
      rw [if_pos (hq.mpr cf)]
      refine ⟨Y, rfl, y2, fun k => (y3 k).trans ⟨fun ⟨i, i1, i2, i3⟩ => ⟨i, by omega, i2, i3⟩, fun ⟨i, i1, i2, i3⟩ => ⟨i, ?_, i2, i3⟩⟩⟩
      refine Nat.lt_of_le_of_ne (by omega) (fun e => c (by rw [← e]; exact i2))
theorem y_ai {G : gG} {fF fN fE fM : sS → List Int32 → Int32} {σ0 : sS} {F H v s Y : Nat} (hG : gOk G) (hFH : fh F H) (hS : ∀ τ, brl σ0 τ → gSt G fF fN fE fM τ) (hv : v < GN G) (hs : s < GL G) (hY : Y < 2 ^ 27) : ∀ (k i : Nat) (A : Nat → Nat → Prop) (τ : sS), i + k = (GS G v s).length → brl σ0 τ → frw H (GN G) A τ → frw H (GN G) (fun t b => A t b ∨ (t ∈ (GS G v s).drop i ∧ Y.testBit b = true)) (r_ai fE H (nI v) (nI s) (nI Y) k i τ) ∧ lf1 [H] τ (r_ai fE H (nI v) (nI s) (nI Y) k i τ) := by
  intro k
  induction k with
  | zero =>
    intro i A τ hi hb h
    rw [List.drop_eq_nil_of_le (by omega)]
    exact ⟨h.c (fun _ _ => rfl) rfl (fun v k _ => ⟨fun q => Or.inl q, fun q => q.elim id (fun z => nomatch z.1)⟩), lf1.rf⟩
  | succ k ih =>
    intro i A τ hi hb h
    have hi' : i < (GS G v s).length := by omega
    obtain ⟨-, -, g3⟩ := hS τ hb v hv
    have eE := (g3 s hs).2 i hi'
    have tm : (GS G v s).getD i 0 ∈ GS G v s := getD_mem hi'
    have dr : (GS G v s).drop i = (GS G v s).getD i 0 :: (GS G v s).drop (i + 1) := by
      rw [List.drop_eq_getElem_cons hi', List.getD_eq_getElem?_getD, List.getElem?_eq_getElem hi']
      rfl
    have tn := (hG.2.2 v hv s hs).2 _ tm
    have n3 := hG.1
    rw [dr]
    generalize (GS G v s).getD i 0 = t at eE tm tn
    obtain ⟨X, x1, x2, x3⟩ := h.2 t tn
    rw [r_ai, eE, rg_nI (by omega), x1, nI_or, rp_n (by have := h.1; omega) (by omega)]
    have f1 : lf1 [H] τ (uI τ H t (nI (X ||| Y))) := lf1.u (List.mem_singleton.mpr rfl)
    have rr : rrel τ (uI τ H t (nI (X ||| Y))) := ⟨fun b hb => ⟨vI_r (by rcases hFH with q | q <;> omega), rfl, rfl⟩, rfl, fun _ _ => rfl⟩
    have h2 : frw H (GN G) (fun u b => A u b ∨ (u = t ∧ Y.testBit b = true)) (uI τ H t (nI (X ||| Y))) := by
      refine ⟨h.1, fun u hu => ?_⟩
      by_cases e : u = t
      · rw [e]
        refine ⟨X ||| Y, vI_e, Nat.or_lt_two_pow x2 hY, fun b => ?_⟩
        rw [Nat.testBit_or, Bool.or_eq_true, x3]
        exact ⟨fun q => q.elim Or.inl (fun z => Or.inr ⟨rfl, z⟩), fun q => q.elim Or.inl (fun z => Or.inr z.2)⟩
      · obtain ⟨X', y1, y2, y3⟩ := h.2 u hu
        exact ⟨X', (vI_q (fun q => e q.2)).trans y1, y2, fun b => (y3 b).trans ⟨Or.inl, fun q => q.elim id (fun z => absurd z.1 e)⟩⟩
    obtain ⟨r1, r2⟩ := ih (i + 1) _ _ (by omega) (hb.tr (brl_r rr)) h2
    refine ⟨r1.c (fun _ _ => rfl) rfl (fun u b _ => ?_), f1.tr r2⟩
    constructor
    · rintro ((q | ⟨q1, q2⟩) | ⟨q1, q2⟩)
      · exact Or.inl q
      · exact Or.inr ⟨by rw [q1]; exact List.mem_cons_self, q2⟩
      · exact Or.inr ⟨List.mem_cons_of_mem _ q1, q2⟩
    · rintro (q | ⟨q1, q2⟩)
      · exact Or.inl (Or.inl q)
      · rcases List.mem_cons.mp q1 with z | z
        · exact Or.inl (Or.inr ⟨z, q2⟩)
        · exact Or.inr ⟨z, q2⟩
theorem fh_ne {F H : Nat} (h : fh F H) : F ≠ H ∧ 45 ≤ F ∧ F ≤ 47 ∧ 45 ≤ H ∧ H ≤ 47 ∧ F ≠ 45 ∧ H ≠ 45 := by
  rcases h with q | q <;> omega
theorem brl_f {H : Nat} {σ τ : sS} (h : lf1 [H] σ τ) (hH : 45 ≤ H) (hH2 : H ≤ 47) : brl σ τ := ⟨fun b hb => ⟨funext fun j => h.1 b j (fun q => by have := List.mem_singleton.mp q; omega), by unfold vU; rw [h.2], by unfold vC; rw [h.2]⟩, by rw [h.2], fun b _ => by rw [h.2]⟩
theorem y_av {G : gG} {fF fN fE fM : sS → List Int32 → Int32} {σ0 : sS} {F H s b : Nat} (hG : gOk G) (hFH : fh F H) (hS : ∀ τ, brl σ0 τ → gSt G fF fN fE fM τ) (hs : s < GL G) (hb2 : b < 2) {AF : Nat → Nat → Prop} : ∀ (k v : Nat) (A : Nat → Nat → Prop) (τ : sS), v + k = GN G → brl σ0 τ → frw F (GN G) AF τ → frw H (GN G) A τ → frw H (GN G) (fun t j => A t j ∨ ∃ u, v ≤ u ∧ u < GN G ∧ t ∈ GS G u s ∧ LN b (GL G) s (AF u) j) (r_av fN fE F H (GL G) (nI s) (nI b) k v τ) ∧ lf1 [H] τ (r_av fN fE F H (GL G) (nI s) (nI b) k v τ) := by
  obtain ⟨ne, F1, F2, H1, H2, -, -⟩ := fh_ne hFH
  intro k
  induction k with
  | zero =>
    intro v A τ hv hb hF h
    exact ⟨h.c (fun _ _ => rfl) rfl (fun t j _ => ⟨Or.inl, fun q => q.elim id (fun ⟨u, h1, h2, _⟩ => by omega)⟩), lf1.rf⟩
  | succ k ih =>
    intro v A τ hv hb hF h
    have vn : v < GN G := by omega
    have n3 := hG.1
    have l3 := hG.2.1
    rw [r_av]
    obtain ⟨X, x1, x2, x3⟩ := hF.2 v vn
    obtain ⟨-, -, g3⟩ := hS τ hb v vn
    have eN := (g3 s hs).1
    have gl := (hG.2.2 v vn s hs).1
    have gf : g_F fN τ (nI v) (nI s) = (GS G v s).length := by
      unfold g_F
      rw [eN, nI_clamp (by omega)]
    have one : ∃ B : Nat → Nat → Prop, frw H (GN G) B (r_a1 fN fE F H (GL G) (nI s) (nI b) τ (nI v)) ∧ lf1 [H] τ (r_a1 fN fE F H (GL G) (nI s) (nI b) τ (nI v)) ∧ ∀ t j, B t j ↔ A t j ∨ (t ∈ GS G v s ∧ LN b (GL G) s (AF v) j) := by
      unfold r_a1
      rw [rg_nI (by omega), x1, gf]
      by_cases c : X = 0
      · rw [if_pos ((nI_k0 (by omega)).mpr c)]
        refine ⟨A, h, lf1.rf, fun t j => ⟨Or.inl, fun q => q.elim id (fun ⟨_, z⟩ => ?_)⟩⟩
        have no : ∀ i, ¬ AF v i := fun i q => tb_0.mp c i ((x3 i).mpr q)
        unfold LN at z
        by_cases b0 : b = 0
        · rw [if_pos b0] at z; exact absurd z (no j)
        · rw [if_neg b0] at z
          obtain ⟨i, -, z2, -⟩ := z
          exact absurd z2 (no i)
      · rw [if_neg (fun q => c ((nI_k0 (by omega)).mp q))]
        by_cases b0 : b = 0
        · rw [if_pos (by rw [b0]; rfl)]
          obtain ⟨r1, r2⟩ := y_ai hG hFH hS vn hs x2 (GS G v s).length 0 A τ (by omega) hb h
          rw [List.drop_zero] at r1
          refine ⟨_, r1, r2, fun t j => ?_⟩
          unfold LN
          rw [if_pos b0, x3]
        · rw [if_neg (fun q => b0 ((nI_k0 (by omega)).mp q))]
          obtain ⟨Y, y1, y2, y3⟩ := r_lgP l3 hs x2 9 (Nat.le_refl _)
          rw [y1]
          obtain ⟨r1, r2⟩ := y_ai hG hFH hS vn hs y2 (GS G v s).length 0 A τ (by omega) hb h
          rw [List.drop_zero] at r1
          refine ⟨_, r1, r2, fun t j => ?_⟩
          unfold LN
          rw [if_neg b0, y3]
          simp only [x3]
    obtain ⟨B, o1, o2, o3⟩ := one
    generalize r_a1 fN fE F H (GL G) (nI s) (nI b) τ (nI v) = τ1 at o1 o2
    have hF1 : frw F (GN G) AF τ1 := hF.c (fun j _ => o2.1 F j (fun q => ne (List.mem_singleton.mp q))) (by unfold vC; rw [o2.2]) (fun _ _ _ => Iff.rfl)
    obtain ⟨r1, r2⟩ := ih (v + 1) B τ1 (by omega) (hb.tr (brl_f o2 H1 H2)) hF1 o1
    refine ⟨r1.c (fun _ _ => rfl) rfl (fun t j _ => ?_), o2.tr r2⟩
    rw [o3]
    constructor
    · rintro ((q | ⟨q1, q2⟩) | ⟨u, u1, u2, u3⟩)
      · exact Or.inl q
      · exact Or.inr ⟨v, by omega, vn, q1, q2⟩
      · exact Or.inr ⟨u, by omega, u2, u3⟩
    · rintro (q | ⟨u, u1, u2, u3⟩)
      · exact Or.inl (Or.inl q)
      · by_cases e : u = v
        · rw [e] at u3; exact Or.inl (Or.inr u3)
        · exact Or.inr ⟨u, by omega, u2, u3⟩
