/-! rankings: the component finds them -/
def rv (P : Nat) : Nat := dg P 0 + 8 * dg P 1 + 64 * dg P 2 + 512 * dg P 3
def pc8 (m : Nat) : Nat := pc4 m + pc4 (m / 16)
def clr (m d : Nat) : Nat := m &&& (255 ^^^ 2 ^ d)
def lf (t f s : Nat) : Nat := pc4 ((t >>> s <<< s) &&& (15 ^^^ f))
theorem b_lf : ∀ t, t < 16 → ∀ f, f < 16 → ∀ s, s < 5 → bc (((nI t >>> (nI s &&& 31)) <<< (nI s &&& 31)) &&& (nI f ^^^ (-1))) = nI (lf t f s) := by decide +kernel
theorem b_p8 : ∀ m, m < 256 → bc (nI m) = nI (pc8 m) := by decide +kernel
theorem b_clr : ∀ m, m < 256 → ∀ d, d < 8 → nI m &&& (((1 : Int32) <<< (nI d &&& 31)) ^^^ (-1)) = nI (clr m d) ∧ clr m d < 256 ∧ pc8 m ≤ pc8 (clr m d) + 1 ∧ (m &&& 85 = 0 → clr m d &&& 85 = 0 ∧ (d % 2 = 0 → clr m d = m)) := by decide +kernel
theorem b_lf4z : ∀ t, t < 16 → ∀ f, f < 16 → lf t f 4 = 0 := by decide +kernel
theorem b_lf4a : ∀ t, t < 16 → ∀ f, f < 16 → ∀ s, s < 4 → t.testBit s = false → lf t f s = lf t f (s + 1) := by decide +kernel
theorem b_lf4b : ∀ t, t < 16 → ∀ f, f < 16 → ∀ s, s < 4 → (t.testBit s && f.testBit s) = true → lf t f s = lf t f (s + 1) := by decide +kernel
theorem b_lf4c : ∀ t, t < 16 → ∀ f, f < 16 → ∀ s, s < 4 → (t.testBit s && !f.testBit s) = true → lf t f s = lf t f (s + 1) + 1 := by decide +kernel
theorem b_lf4 {t : Nat} (ht : t < 16) {f : Nat} (hf : f < 16) : lf t f 4 = 0 ∧ ∀ s, s < 4 → (t.testBit s = false → lf t f s = lf t f (s + 1)) ∧ (t.testBit s = true → f.testBit s = true → lf t f s = lf t f (s + 1)) ∧ (t.testBit s = true → f.testBit s = false → lf t f s = lf t f (s + 1) + 1) := ⟨b_lf4z t ht f hf, fun s hs => ⟨b_lf4a t ht f hf s hs, fun h1 h2 => b_lf4b t ht f hf s hs (by rw [h1, h2]; rfl), fun h1 h2 => b_lf4c t ht f hf s hs (by rw [h1, h2]; rfl)⟩⟩
theorem b_p80 : ∀ m, m < 256 → (pc8 m = 0 ↔ m = 0) := by decide +kernel
theorem b_pc8 (m : Nat) : pc8 m ≤ 8 := by have h1 := b_pc4 m; have h2 := b_pc4 (m / 16); unfold pc8; omega
theorem b_w0 : ∀ d, d < 8 → nI 0 ||| (nI d <<< (((3 : Int32) * nI 0) &&& 31)) = nI (0 + d * 1) := by decide +kernel
theorem b_w1 : ∀ x, x < 8 → ∀ d, d < 8 → nI x ||| (nI d <<< (((3 : Int32) * nI 1) &&& 31)) = nI (x + d * 8) := by decide +kernel
theorem b_w2 : ∀ x, x < 64 → ∀ d, d < 8 → nI x ||| (nI d <<< (((3 : Int32) * nI 2) &&& 31)) = nI (x + d * 64) := by decide +kernel
theorem b_w3 : ∀ x, x < 512 → ∀ d, d < 8 → nI x ||| (nI d <<< (((3 : Int32) * nI 3) &&& 31)) = nI (x + d * 512) := by decide +kernel
/-- a rank is put into the component's number -/
theorem k_put {P d n : Nat} (hn : n < 4) (hd : d < 8) (hP : P < 4096) (h0 : P % 8 ^ (n + 1) = 0) : k_wr (nI (rv P)) (nI (3 - n)) (nI d) = nI (rv (P + d * 8 ^ n)) ∧ P + d * 8 ^ n < 4096 := by
  unfold k_wr rv
  rcases s4 hn with rfl | rfl | rfl | rfl
  · have h0 : P % 8 = 0 := h0
    have e : P / 512 % 8 + 8 * (P / 64 % 8) + 64 * (P / 8 % 8) + 512 * (P / 1 % 8) < 512 := by omega
    refine ⟨(b_w3 _ e d hd).trans (congrArg nI ?_), by show P + d * 1 < 4096; omega⟩
    show _ = (P + d * 1) / 512 % 8 + 8 * ((P + d * 1) / 64 % 8) + 64 * ((P + d * 1) / 8 % 8) + 512 * ((P + d * 1) / 1 % 8)
    have q1 : (P + d * 1) / 512 = P / 512 := by omega
    have q2 : (P + d * 1) / 64 = P / 64 := by omega
    have q3 : (P + d * 1) / 8 = P / 8 := by omega
    have q4 : (P + d * 1) / 1 % 8 = d := by omega
    have q5 : P / 1 % 8 = 0 := by omega
    rw [q1, q2, q3, q4, q5]
    omega
  · have h0 : P % 64 = 0 := h0
    have e : P / 512 % 8 + 8 * (P / 64 % 8) + 64 * (P / 8 % 8) + 512 * (P / 1 % 8) < 64 := by omega
    refine ⟨(b_w2 _ e d hd).trans (congrArg nI ?_), by show P + d * 8 < 4096; omega⟩
    show _ = (P + d * 8) / 512 % 8 + 8 * ((P + d * 8) / 64 % 8) + 64 * ((P + d * 8) / 8 % 8) + 512 * ((P + d * 8) / 1 % 8)
    omega
  · have h0 : P % 512 = 0 := h0
    have e : P / 512 % 8 + 8 * (P / 64 % 8) + 64 * (P / 8 % 8) + 512 * (P / 1 % 8) < 8 := by omega
    refine ⟨(b_w1 _ e d hd).trans (congrArg nI ?_), by show P + d * 64 < 4096; omega⟩
    show _ = (P + d * 64) / 512 % 8 + 8 * ((P + d * 64) / 64 % 8) + 64 * ((P + d * 64) / 8 % 8) + 512 * ((P + d * 64) / 1 % 8)
    omega
  · have h0 : P % 4096 = 0 := h0
    have e : P / 512 % 8 + 8 * (P / 64 % 8) + 64 * (P / 8 % 8) + 512 * (P / 1 % 8) = 0 := by omega
    have hP0 : P = 0 := by omega
    subst hP0
    refine ⟨(b_w0 d hd).trans (congrArg nI ?_), by show 0 + d * 512 < 4096; omega⟩
    show _ = (0 + d * 512) / 512 % 8 + 8 * ((0 + d * 512) / 64 % 8) + 64 * ((0 + d * 512) / 8 % 8) + 512 * ((0 + d * 512) / 1 % 8)
    omega
theorem vs_in {t g : Nat} (hg : g < 8) : ∀ (n P Q : Nat), Q ∈ vs t g n P → ∃ r, r < 8 ^ n ∧ Q = P + r := by
  intro n
  induction n with
  | zero =>
    intro P Q h
    rw [vs] at h
    exact ⟨0, by decide, by rw [List.mem_singleton.mp h]; rfl⟩
  | succ n ih =>
    intro P Q h
    have h8 : 8 ^ (n + 1) = 8 ^ n * 8 := Nat.pow_succ _ _
    rw [vs] at h
    by_cases ht : t.testBit (3 - n) = true
    · rw [if_pos ht, List.mem_flatMap] at h
      obtain ⟨d, hd, h⟩ := h
      have hd := List.mem_range.mp hd
      obtain ⟨r, r1, r2⟩ := ih _ _ h
      refine ⟨d * 8 ^ n + r, ?_, by omega⟩
      have : d * 8 ^ n ≤ 7 * 8 ^ n := Nat.mul_le_mul_right _ (by omega)
      omega
    · rw [if_neg ht] at h
      obtain ⟨r, r1, r2⟩ := ih _ _ h
      exact ⟨r, by omega, r2⟩
theorem vs_dg {t g n P d Q : Nat} (hg : g < 8) (hn : n < 4) (hd : d < 8) (hP : P % 8 ^ (n + 1) = 0) (h : Q ∈ vs t g n (P + d * 8 ^ n)) : dg Q (3 - n) = d := by
  obtain ⟨r, r1, rfl⟩ := vs_in hg n _ _ h
  have e := dg_n hn hd hP
  unfold dg at e ⊢
  rw [show 3 - (3 - n) = n by omega] at e ⊢
  have h8 : 8 ^ (n + 1) = 8 ^ n * 8 := Nat.pow_succ _ _
  obtain ⟨q, hq⟩ := Nat.dvd_of_mod_eq_zero hP
  have : (P + d * 8 ^ n + r) / 8 ^ n = (P + d * 8 ^ n) / 8 ^ n := by
    rw [hq, h8, show 8 ^ n * 8 * q + d * 8 ^ n = 8 ^ n * (8 * q + d) by rw [Nat.mul_add, Nat.mul_assoc, Nat.mul_comm d], Nat.mul_add_div (Nat.pow_pos (by decide)), Nat.mul_div_cancel_left _ (Nat.pow_pos (by decide)), Nat.div_eq_of_lt r1, Nat.add_zero]
  rw [this]
  exact e
def sf (t f : Nat) (cap : Nat → Nat) : Nat → Nat → Bool
  | 0, _ => true
  | n + 1, Q => okS t f cap Q (3 - n) && sf t f cap n Q
def cv (t : Nat) : Nat → Nat → Nat → Bool
  | 0, m, _ => decide (m = 0)
  | n + 1, m, Q => cv t n (if t.testBit (3 - n) = true then clr m (dg Q (3 - n)) else m) Q
def kl (t f g : Nat) (cap : Nat → Nat) (n P m : Nat) : List Nat := (vs t g n P).filter (fun Q => sf t f cap n Q && cv t n m Q)
theorem okS_t {t f : Nat} {cap : Nat → Nat} {Q s : Nat} (h : t.testBit s = true) (h2 : okS t f cap Q s = true) : dg Q s ≤ cap s ∧ (f.testBit s = true → dg Q s % 2 = 0) := by
  unfold okS at h2
  rw [h] at h2
  simp only [Bool.not_true, Bool.false_or, Bool.and_eq_true, decide_eq_true_eq, Bool.or_eq_true, Bool.not_eq_true'] at h2
  exact ⟨h2.1, fun c => h2.2.resolve_left (by rw [c]; decide)⟩
/-- more odd ranks are missing than states are left: none -/
theorem cv_le {t f : Nat} {cap : Nat → Nat} (ht : t < 16) (hf : f < 16) : ∀ (n m Q : Nat), n ≤ 4 → m < 256 → m &&& 85 = 0 → sf t f cap n Q = true → cv t n m Q = true → pc8 m ≤ lf t f (4 - n) := by
  intro n
  induction n with
  | zero =>
    intro m Q _ _ _ _ h
    have h : m = 0 := of_decide_eq_true h
    rw [h]
    exact Nat.zero_le _
  | succ n ih =>
    intro m Q hn hm h85 hs hc
    have hs : (okS t f cap Q (3 - n) && sf t f cap n Q) = true := hs
    obtain ⟨s1, s2⟩ := Bool.and_eq_true_iff.mp hs
    have d8 : dg Q (3 - n) < 8 := dg_lt
    obtain ⟨-, c2, c3, c4⟩ := b_clr m hm _ d8
    obtain ⟨c5, c6⟩ := c4 h85
    obtain ⟨l1, l2, l3⟩ := (b_lf4 ht hf).2 (3 - n) (by omega)
    rw [cv] at hc
    rw [show 4 - (n + 1) = 3 - n by omega]
    have e4 : 3 - n + 1 = 4 - n := by omega
    rw [e4] at l1 l2 l3
    by_cases hb : t.testBit (3 - n) = true
    · rw [if_pos hb] at hc
      have hi := ih _ Q (by omega) c2 c5 s2 hc
      obtain ⟨-, o2⟩ := okS_t hb s1
      by_cases hfb : f.testBit (3 - n) = true
      · rw [c6 (o2 hfb)] at hi
        rw [l2 hb hfb]
        exact hi
      · rw [l3 hb ((Bool.not_eq_true _).mp hfb)]
        omega
    · rw [if_neg hb] at hc
      rw [l1 ((Bool.not_eq_true _).mp hb)]
      exact ih m Q (by omega) hm h85 s2 hc
theorem filter_nil {α : Type} {p : α → Bool} : ∀ (l : List α), (∀ x, x ∈ l → p x = false) → l.filter p = []
  | [], _ => rfl
  | x :: l, h => by
    rw [List.filter_cons, if_neg (by rw [h x List.mem_cons_self]; decide)]
    exact filter_nil l (fun y hy => h y (List.mem_cons_of_mem _ hy))
theorem filter_cg {α : Type} {p q : α → Bool} : ∀ (l : List α), (∀ x, x ∈ l → p x = q x) → l.filter p = l.filter q
  | [], _ => rfl
  | x :: l, h => by
    rw [List.filter_cons, List.filter_cons, h x List.mem_cons_self, filter_cg l (fun y hy => h y (List.mem_cons_of_mem _ hy))]
theorem fm_if {α β : Type} {p : α → Bool} {h k : α → List β} : ∀ (l : List α), (∀ x, x ∈ l → h x = if p x = true then k x else []) → l.flatMap h = (l.filter p).flatMap k
  | [], _ => rfl
  | x :: l, hx => by
    rw [List.flatMap_cons, List.filter_cons, hx x List.mem_cons_self, fm_if l (fun y hy => hx y (List.mem_cons_of_mem _ hy))]
    by_cases c : p x = true
    · rw [if_pos c, if_pos c, List.flatMap_cons]
    · rw [if_neg c, if_neg c]
      rfl
def lpL (st cap : Nat) : Nat → Nat → List Nat
  | 0, _ => []
  | k + 1, r => if cap < r then [] else r :: lpL st cap k (r + st)
theorem lp_f1 : ∀ c, c < 2 → (List.range (1 + 1)).filter (fun d => decide (d ≤ c)) = lpL 1 c 8 0 ∧ (List.range (1 + 1)).filter (fun d => decide (d ≤ c) && decide (d % 2 = 0)) = lpL 2 c 8 0 := by decide +kernel
theorem lp_f3 : ∀ c, c < 4 → (List.range (3 + 1)).filter (fun d => decide (d ≤ c)) = lpL 1 c 8 0 ∧ (List.range (3 + 1)).filter (fun d => decide (d ≤ c) && decide (d % 2 = 0)) = lpL 2 c 8 0 := by decide +kernel
theorem lp_f5 : ∀ c, c < 6 → (List.range (5 + 1)).filter (fun d => decide (d ≤ c)) = lpL 1 c 8 0 ∧ (List.range (5 + 1)).filter (fun d => decide (d ≤ c) && decide (d % 2 = 0)) = lpL 2 c 8 0 := by decide +kernel
theorem lp_f7 : ∀ c, c < 8 → (List.range (7 + 1)).filter (fun d => decide (d ≤ c)) = lpL 1 c 8 0 ∧ (List.range (7 + 1)).filter (fun d => decide (d ≤ c) && decide (d % 2 = 0)) = lpL 2 c 8 0 := by decide +kernel
theorem lp_fin {g : Nat} (hg : odd7 g) {c : Nat} (hc : c ≤ g) : (List.range (g + 1)).filter (fun d => decide (d ≤ c)) = lpL 1 c 8 0 ∧ (List.range (g + 1)).filter (fun d => decide (d ≤ c) && decide (d % 2 = 0)) = lpL 2 c 8 0 := by
  rcases hg with rfl | rfl | rfl | rfl
  · exact lp_f1 c (by omega)
  · exact lp_f3 c (by omega)
  · exact lp_f5 c (by omega)
  · exact lp_f7 c (by omega)
theorem kl_s {t f g n P m : Nat} {cap : Nat → Nat} (hg : odd7 g) (hn : n < 4) (hP : P % 8 ^ (n + 1) = 0) (hb : t.testBit (3 - n) = true) (hc : cap (3 - n) ≤ g) : kl t f g cap (n + 1) P m = (lpL (if f.testBit (3 - n) = true then 2 else 1) (cap (3 - n)) 8 0).flatMap (fun d => kl t f g cap n (P + d * 8 ^ n) (clr m d)) := by
  have g8 : g < 8 := by rcases hg with h | h | h | h <;> omega
  unfold kl
  rw [vs, if_pos hb, List.filter_flatMap]
  have key : ∀ d, d ∈ List.range (g + 1) → (vs t g n (P + d * 8 ^ n)).filter (fun Q => sf t f cap (n + 1) Q && cv t (n + 1) m Q) = if (decide (d ≤ cap (3 - n)) && (!f.testBit (3 - n) || decide (d % 2 = 0))) = true then (vs t g n (P + d * 8 ^ n)).filter (fun Q => sf t f cap n Q && cv t n (clr m d) Q) else [] := by
    intro d hd
    have hd := List.mem_range.mp hd
    by_cases c : (decide (d ≤ cap (3 - n)) && (!f.testBit (3 - n) || decide (d % 2 = 0))) = true
    · rw [if_pos c]
      refine filter_cg _ (fun Q hQ => ?_)
      have e := vs_dg g8 hn (by omega) hP hQ
      show ((okS t f cap Q (3 - n) && sf t f cap n Q) && cv t n (if t.testBit (3 - n) = true then clr m (dg Q (3 - n)) else m) Q) = _
      have ho : okS t f cap Q (3 - n) = true := by
        unfold okS
        rw [e, c]
        exact Bool.or_true _
      rw [ho, if_pos hb, e, Bool.true_and]
    · rw [if_neg c]
      refine filter_nil _ (fun Q hQ => ?_)
      have e := vs_dg g8 hn (by omega) hP hQ
      show ((okS t f cap Q (3 - n) && sf t f cap n Q) && _) = false
      have ho : okS t f cap Q (3 - n) = false := by
        unfold okS
        rw [e, hb, (Bool.not_eq_true _).mp c]
        rfl
      rw [ho]
      rfl
  rw [fm_if (p := fun d => decide (d ≤ cap (3 - n)) && (!f.testBit (3 - n) || decide (d % 2 = 0))) _ key]
  have hl := lp_fin hg hc
  congr 1
  by_cases hf : f.testBit (3 - n) = true
  · rw [if_pos hf, ← hl.2]
    simp only [hf, Bool.not_true, Bool.false_or]
  · rw [if_neg hf, ← hl.1]
    simp only [(Bool.not_eq_true _).mp hf, Bool.not_false, Bool.true_or, Bool.and_true]
/-- the found ones so far -/
def kA (L : List Nat) (σ τ : sS) : Prop := vI τ 15 1 = nI L.length ∧ (∀ j, j < L.length → vI τ 16 j = nI (rv (L.getD j 0))) ∧ (∀ a j, a ≠ 16 → ¬ (a = 15 ∧ j = 1) → vI τ a j = vI σ a j) ∧ τ.2 = σ.2
theorem k_lpA {σ : sS} {step : Nat} {cap : Nat} (hst : step ≤ 2) (hcap : cap < 8) {F : sS → Int32 → sS} {h : Nat → List Nat} (hF : ∀ d L τ, d < 8 → kA L σ τ → (L ++ h d).length ≤ 128 → kA (L ++ h d) σ (F τ (nI d))) : ∀ (k r : Nat) (L : List Nat) (τ : sS), r ≤ 30 → kA L σ τ → (L ++ (lpL step cap k r).flatMap h).length ≤ 128 → kA (L ++ (lpL step cap k r).flatMap h) σ (k_lp F (nI step) (nI cap) k (nI r) τ) := by
  intro k
  induction k with
  | zero =>
    intro r L τ _ hL _
    show kA (L ++ []) σ τ
    rw [List.append_nil]
    exact hL
  | succ k ih =>
    intro r L τ hr hL hlen
    rw [k_lp, lpL] at *
    by_cases c : cap < r
    · rw [if_pos c, if_pos (nI_lt c (by omega))]
      show kA (L ++ []) σ τ
      rw [List.append_nil]
      exact hL
    · rw [if_neg c] at hlen
      rw [if_neg c, if_neg (fun q => c ((nI_ltI (by omega) (by omega)).mp q)), List.flatMap_cons, ← List.append_assoc, nI_add]
      rw [List.flatMap_cons, ← List.append_assoc] at hlen
      have h1 : (L ++ h r).length ≤ 128 := by
        rw [List.length_append] at hlen
        omega
      exact ih (r + step) (L ++ h r) _ (by omega) (hF r L τ (by omega) hL h1) hlen
theorem k_rfA {σ : sS} {t f g : Nat} {cap : Nat → Nat} (ht : t < 16) (hf : f < 16) (hg : odd7 g) (h2 : vI σ 15 2 = nI t) (h3 : vI σ 15 3 = nI f) (h4 : ∀ s, s < 4 → k_ro (vI σ 15 4) (nI s) = nI (cap s)) (hcap : ∀ s, s < 4 → t.testBit s = true → cap s ≤ g) (hC : vC σ 16 = 128) : ∀ (n P m : Nat) (L : List Nat) (τ : sS), n ≤ 4 → P < 4096 → P % 8 ^ n = 0 → m < 256 → m &&& 85 = 0 → kA L σ τ → (L ++ kl t f g cap n P m).length ≤ 128 → kA (L ++ kl t f g cap n P m) σ (k_rf n τ (nI (4 - n)) (nI (rv P)) (nI m)) := by
  have g8 : g < 8 := by rcases hg with h | h | h | h <;> omega
  intro n
  induction n with
  | zero =>
    intro P m L τ _ hP _ hm h85 hL hlen
    have e2 : vI τ 15 2 = nI t := (hL.2.2.1 15 2 (by decide) (by decide)).trans h2
    have e3 : vI τ 15 3 = nI f := (hL.2.2.1 15 3 (by decide) (by decide)).trans h3
    rw [k_rf, e2, e3, b_p8 m hm, b_lf t ht f hf (4 - 0) (by decide), (b_lf4 ht hf).1]
    have hk : kl t f g cap 0 P m = if m = 0 then [P] else [] := by
      unfold kl
      rw [vs, List.filter_cons, List.filter_nil]
      by_cases c : m = 0
      · rw [if_pos c, if_pos (by simp [sf, cv, c])]
      · rw [if_neg c, if_neg (by simp [sf, cv, c])]
    rw [hk] at hlen ⊢
    have p0 := b_p80 m hm
    have p8 := b_pc8 m
    by_cases c : m = 0
    · rw [if_pos c] at hlen ⊢
      rw [if_pos (by rw [p0.mpr c]; decide)]
      have hl : L.length + 1 ≤ 128 := by rw [List.length_append] at hlen; exact hlen
      obtain ⟨a1, a2, a3, a4⟩ := hL
      have hC' : vC τ 16 = 128 := by show τ.2.2.2.2.1 16 = 128; rw [a4]; exact hC
      rw [a1, rp_n (by omega) (by omega), show vI (uI τ 16 L.length (nI (rv P))) 15 1 = nI L.length from a1, nI_1]
      refine ⟨?_, fun j hj => ?_, fun a j ha hj => ?_, a4⟩
      · rw [vI_e, List.length_append]
        rfl
      · rw [List.length_append] at hj
        have hj : j < L.length + 1 := hj
        show vI (uI τ 16 L.length (nI (rv P))) 16 j = _
        by_cases d : j = L.length
        · rw [d, vI_e]
          simp
        · rw [vI_q (fun q => d q.2), a2 j (by omega), List.getD_eq_getElem?_getD, List.getD_eq_getElem?_getD, List.getElem?_append_left (show j < L.length by omega)]
      · rw [vI_q (fun q => hj q), vI_q (fun q => ha q.1)]
        exact a3 a j ha hj
    · rw [if_neg c] at hlen ⊢
      rw [if_neg (show ¬ nI (pc8 m) ≤ nI 0 from nI_ge (by have := fun q => c (p0.mp q); omega) (by omega)), List.append_nil]
      exact hL
  | succ n ih =>
    intro P m L τ hn hP h0 hm h85 hL hlen
    have e2 : vI τ 15 2 = nI t := (hL.2.2.1 15 2 (by decide) (by decide)).trans h2
    have e3 : vI τ 15 3 = nI f := (hL.2.2.1 15 3 (by decide) (by decide)).trans h3
    have e4 : vI τ 15 4 = vI σ 15 4 := hL.2.2.1 15 4 (by decide) (by decide)
    have es : 4 - (n + 1) = 3 - n := by omega
    have e31 : nI (3 - n) + 1 = nI (4 - n) := by rw [nI_1]; congr 1; omega
    have h8 : 8 ^ (n + 1) = 8 ^ n * 8 := Nat.pow_succ _ _
    have h0n : P % 8 ^ n = 0 := by
      obtain ⟨q, hq⟩ := Nat.dvd_of_mod_eq_zero h0
      rw [hq, h8, Nat.mul_assoc]
      exact Nat.mul_mod_right _ _
    rw [k_rf, e2, e3, e4, es, b_p8 m hm, b_lf t ht f hf (3 - n) (by omega), y_in ht (by omega), y_in hf (by omega), h4 _ (by omega), e31]
    have p8 := b_pc8 m
    have l4 : lf t f (3 - n) ≤ 4 := b_pc4 _
    by_cases cp : pc8 m ≤ lf t f (3 - n)
    · rw [if_pos (nI_le cp (by omega))]
      by_cases hb : t.testBit (3 - n) = true
      · rw [if_pos hb, if_neg i1n0]
        rw [kl_s hg (by omega) h0 hb (hcap _ (by omega) hb)] at hlen ⊢
        have hcg := hcap _ (show 3 - n < 4 by omega) hb
        have est : (if (if f.testBit (3 - n) = true then (1 : Int32) else 0) = 0 then (1 : Int32) else 2) = nI (if f.testBit (3 - n) = true then 2 else 1) := by
          by_cases c : f.testBit (3 - n) = true
          · rw [if_pos c, if_pos c, if_neg i1n0]
            rfl
          · rw [if_neg c, if_neg c, if_pos rfl]
            rfl
        rw [est]
        refine k_lpA (σ := σ) (by split <;> omega) (by omega) (fun d L' τ' hd hL' hl' => ?_) 8 0 L τ (by omega) hL hlen
        obtain ⟨k1, k2⟩ := k_put (n := n) (by omega) hd hP h0
        obtain ⟨c1, c2, -, c4⟩ := b_clr m hm d hd
        rw [k1, c1]
        exact ih (P + d * 8 ^ n) (clr m d) L' τ' (by omega) k2 (by rw [Nat.add_mul_mod_self_right]; exact h0n) c2 (c4 h85).1 hL' hl'
      · rw [if_neg hb, if_pos rfl]
        have hk : kl t f g cap (n + 1) P m = kl t f g cap n P m := by
          unfold kl
          rw [vs, if_neg hb]
          refine filter_cg _ (fun Q _ => ?_)
          show ((okS t f cap Q (3 - n) && sf t f cap n Q) && cv t n (if t.testBit (3 - n) = true then clr m (dg Q (3 - n)) else m) Q) = _
          have ho : okS t f cap Q (3 - n) = true := by
            unfold okS
            rw [(Bool.not_eq_true _).mp hb]
            rfl
          rw [ho, if_neg hb, Bool.true_and]
        rw [hk] at hlen ⊢
        exact ih P m L τ (by omega) hP h0n hm h85 hL hlen
    · rw [if_neg (nI_ge (by omega) (by omega))]
      have hk : kl t f g cap (n + 1) P m = [] := by
        refine filter_nil _ (fun Q _ => ?_)
        refine (Bool.not_eq_true _).mp (fun c => cp ?_)
        obtain ⟨c1, c2⟩ := Bool.and_eq_true_iff.mp c
        have := cv_le (cap := cap) ht hf (n + 1) m Q hn hm h85 c1 c2
        rw [es] at this
        exact this
      rw [hk, List.append_nil]
      exact hL
