/-! rankings: the reference -/
def rV (P : Nat) (σ : sS) : Prop := P < 4096 ∧ ∀ s, s < 4 → vI σ 123 s = nI (dg P s)
theorem dg_lt {P s : Nat} : dg P s < 8 := Nat.mod_lt _ (by decide)
theorem x_first {F : Nat} {σ : sS} (hF : 4 < F) : ∃ τ, L_X12_firstRanking F σ = some τ ∧ rV 0 τ ∧ fm [123] [] σ τ := by
  obtain ⟨F, rfl⟩ : ∃ G, F = G + 5 := ⟨F - 5, by omega⟩
  refine ⟨uI (uI (uI (uI σ 123 0 0) 123 1 0) 123 2 0) 123 3 0, ?_, ⟨by decide, fun s hs => ?_⟩, ((fm_r1.tr fm_r1).tr fm_r1).tr fm_r1⟩
  · rfl
  · rcases s4 hs with rfl | rfl | rfl | rfl <;> rfl
theorem d31 : ∀ s, s < 4 → nI (s + 1) + (-1) = nI s := by decide +kernel
theorem x_next2 {F t g : Nat} (ht : t < 16) (hg : g < 8) : ∀ (s P f : Nat) (σ : sS), s ≤ 4 → s < f → dOK t g P → rV P σ → ∃ τ, L_X12_nextRanking_2 F (nI t) (nI g) (fun σ1 => some (0, σ1)) f (nI s + (-1)) σ = some (nI (nxD t g s P).1, τ) ∧ rV (nxD t g s P).2 τ ∧ fm [123] [] σ τ := by
  intro s
  induction s with
  | zero =>
    intro P f σ _ hf hD h
    obtain ⟨f, rfl⟩ : ∃ k, f = k + 1 := ⟨f - 1, by omega⟩
    refine ⟨σ, ?_, h, fm.rf⟩
    rw [L_X12_nextRanking_2, if_pos (by decide)]
    rfl
  | succ s ih =>
    intro P f σ hs hf hD h
    obtain ⟨f, rfl⟩ : ∃ k, f = k + 1 := ⟨f - 1, by omega⟩
    rw [d31 s (by omega), L_X12_nextRanking_2, if_neg (nI_pos (by omega)), b_tb t ht s (by omega), nxD]
    by_cases hb : t.testBit s = true
    · have d8 : dg P s < 8 := dg_lt
      rw [if_pos hb, if_neg i1n0, if_pos hb, inb_n (by omega) (by omega)]
      simp only [grd_s, bnd_s]
      rw [nI_clamp (by omega), h.2 s (by omega)]
      have hd := (hD.2 s (by omega)).1 hb
      by_cases hc : g ≤ dg P s
      · rw [if_pos hc, if_pos (nI_le hc (by omega))]
        obtain ⟨z1, z2⟩ := dg_z h.1 (show s < 4 by omega)
        obtain ⟨τ, t1, t2, t3⟩ := ih (P - dg P s * 8 ^ (3 - s)) f (uI σ 123 s 0) (by omega) (by omega) ⟨z1, fun r hr => by
          rw [z2 r hr]
          by_cases e : r = s
          · rw [if_pos e]; exact ⟨fun _ => by omega, fun _ => rfl⟩
          · rw [if_neg e]; exact hD.2 r hr⟩ ⟨z1, fun r hr => by
          rw [z2 r hr]
          by_cases e : r = s
          · rw [if_pos e, e, vI_e]; rfl
          · rw [if_neg e, vI_q (fun q => e q.2)]; exact h.2 r hr⟩
        exact ⟨τ, t1, t2, fm_r1.tr t3⟩
      · rw [if_neg hc, if_neg (nI_ge (by omega) (by omega)), nI_1]
        obtain ⟨z1, z2⟩ := dg_i h.1 (show s < 4 by omega) (by omega)
        refine ⟨_, rfl, ⟨z1, fun r hr => ?_⟩, fm_r1⟩
        show vI (uI σ 123 s (nI (dg P s + 1))) 123 r = nI (dg (P + 8 ^ (3 - s)) r)
        rw [z2 r hr]
        by_cases e : r = s
        · rw [if_pos e, e, vI_e]
        · rw [if_neg e, vI_q (fun q => e q.2)]; exact h.2 r hr
    · rw [if_neg hb, if_pos rfl, if_neg hb]
      exact ih P f σ (by omega) (by omega) hD h
theorem x_nextR {F t g P : Nat} {σ : sS} (hF : 4 < F) (ht : t < 16) (hg : g < 8) (hD : dOK t g P) (h : rV P σ) : ∃ τ, L_X12_nextRanking F (nI t) (nI g) σ = some (nI (nxD t g 4 P).1, τ) ∧ rV (nxD t g 4 P).2 τ ∧ fm [123] [] σ τ := x_next2 ht hg 4 P F σ (by omega) hF hD h
/-! is it tight? -/
def tgM (t P : Nat) : Nat → Nat → Nat → Nat
  | 0, _, m => m
  | n + 1, s, m => tgM t P n (s + 1) (if t.testBit s = true ∧ dg P s % 2 = 1 then m ||| 2 ^ dg P s else m)
def tgX (t P : Nat) : Nat → Nat → Int32 → Int32
  | 0, _, x => x
  | n + 1, s, x => tgX t P n (s + 1) (if t.testBit s = true then (if nI (dg P s) ≤ x then x else nI (dg P s)) else x)
def tgN (t f P : Nat) : Nat → Nat → Bool
  | 0, _ => true
  | n + 1, s => !(t.testBit s && decide (dg P s % 2 = 1) && f.testBit s) && tgN t f P n (s + 1)
theorem b_od : ∀ d, d < 8 → (nI d - nI d / 2 * 2 = 1 ↔ d % 2 = 1) := by decide +kernel
theorem b_mo : ∀ m, m < 256 → ∀ d, d < 8 → nI m ||| ((1 : Int32) <<< (nI d &&& 31)) = nI (m ||| 2 ^ d) ∧ m ||| 2 ^ d < 256 := by decide +kernel
theorem b_m8 : ∀ m, m < 256 → ∀ d, d < 8 → ((nI m >>> (nI d &&& 31)) &&& 1) = (if m.testBit d then 1 else 0) := by decide +kernel
theorem tgM_lt {t P : Nat} : ∀ (n s m : Nat), m < 256 → tgM t P n s m < 256 := by
  intro n
  induction n with
  | zero => intro s m hm; exact hm
  | succ n ih =>
    intro s m hm
    refine ih _ _ ?_
    split
    · exact (b_mo m hm _ dg_lt).2
    · exact hm
theorem x_t9 {A : aS} {σ : sS} {F i t g P : Nat} (h : R0 A σ) (hi : i < aC A) (ht : t < 16) (hV : rV P σ) (kx : Int32 → Int32 → Option Int32) : ∀ (n s f m : Nat) (x : Int32), s + n = 4 → n < f → m < 256 → L_X12_isTight_9 F (nI i) (nI t) (nI g) σ kx f (nI m) x (nI s) = if tgN t (mF (aMa A i)) P n s = true then kx (nI (tgM t P n s m)) (tgX t P n s x) else some 0 := by
  have hm := (h.m hi).1
  have hb := hm.b.2.1
  have h3 := h.c.1
  intro n
  induction n with
  | zero =>
    intro s f m x hs hf hm
    obtain ⟨f, rfl⟩ : ∃ k, f = k + 1 := ⟨f - 1, by omega⟩
    have hs : s = 4 := by omega
    subst hs
    rw [L_X12_isTight_9, if_pos (by decide)]
    rfl
  | succ n ih =>
    intro s f m x hs hf hm
    obtain ⟨f, rfl⟩ : ∃ k, f = k + 1 := ⟨f - 1, by omega⟩
    have d8 : dg P s < 8 := dg_lt
    have hv := hV.2 s (by omega)
    rw [L_X12_isTight_9, if_neg (show ¬ (4 : Int32) ≤ nI s from nI_ge (b := 4) (by omega) (by omega)), b_tb t ht s (by omega), tgN, tgM, tgX]
    by_cases hb1 : t.testBit s = true
    · rw [if_pos hb1, if_neg i1n0, inb_n (by omega) (by omega), grd_s, nI_clamp (by omega), hv, inb_n (by omega) (by omega), grd_s, nI_clamp (by omega), (h.m hi).2.2.2.1, if_pos hb1]
      have t84 : ∀ m, m < 256 → L_X12_isTight_84 F (nI i) (nI t) (nI g) σ (L_X12_isTight_9 F (nI i) (nI t) (nI g) σ kx f) kx (nI m) x (nI s) = if tgN t (mF (aMa A i)) P n (s + 1) = true then kx (nI (tgM t P n (s + 1) m)) (tgX t P n (s + 1) (if nI (dg P s) ≤ x then x else nI (dg P s))) else some 0 := by
        intro m hm
        unfold L_X12_isTight_84
        rw [inb_n (by omega) (by omega), grd_s, grd_s, nI_clamp (by omega), hv, bnd_s, nI_1]
        by_cases hx : nI (dg P s) ≤ x
        · rw [if_pos hx, if_pos hx]; exact ih (s + 1) f m x (by omega) (by omega) hm
        · rw [if_neg hx, if_neg hx]; exact ih (s + 1) f m _ (by omega) (by omega) hm
      have t57 : L_X12_isTight_57 F (nI i) (nI t) (nI g) σ (L_X12_isTight_9 F (nI i) (nI t) (nI g) σ kx f) kx (nI m) x (nI s) = if tgN t (mF (aMa A i)) P n (s + 1) = true then kx (nI (tgM t P n (s + 1) (if t.testBit s = true ∧ dg P s % 2 = 1 then m ||| 2 ^ dg P s else m))) (tgX t P n (s + 1) (if nI (dg P s) ≤ x then x else nI (dg P s))) else some 0 := by
        unfold L_X12_isTight_57
        rw [inb_n (by omega) (by omega), grd_s, grd_s, nI_clamp (by omega), hv, bnd_s, (b_mo m hm _ d8).1]
        by_cases ho : dg P s % 2 = 1
        · rw [if_pos ((b_od _ d8).mpr ho), if_pos (show t.testBit s = true ∧ dg P s % 2 = 1 from ⟨hb1, ho⟩), t84 _ (b_mo m hm _ d8).2]
        · rw [if_neg (fun c => ho ((b_od _ d8).mp c)), if_neg (show ¬ (t.testBit s = true ∧ dg P s % 2 = 1) from fun c => ho c.2), t84 _ hm]
      rw [t57]
      by_cases ho : dg P s % 2 = 1
      · rw [if_pos ((b_od _ d8).mpr ho)]
        by_cases hf1 : (mF (aMa A i)).testBit s = true
        · rw [if_pos ((tb1 hb (by omega)).mpr hf1), if_neg (by simp [hb1, ho, hf1])]
        · rw [if_neg (fun c => hf1 ((tb1 hb (by omega)).mp c))]
          simp [hf1]
      · rw [if_neg (fun c => ho ((b_od _ d8).mp c))]
        simp [ho]
    · rw [if_neg hb1, if_pos rfl, nI_1, ih (s + 1) f m x (by omega) (by omega) hm]
      simp [hb1]
theorem x_t119 {F g m : Nat} {x5 : Int32} {σ : sS} (hm : m < 256) (hg : g < 8) (kx : Option Int32) : ∀ (n k f : Nat), k + 2 * n = g + 2 → n < f → L_X12_isTight_119 F (nI g) (nI m) x5 σ kx f (nI k) = if ∀ j, j < n → m.testBit (k + 2 * j) = true then kx else some 0 := by
  intro n
  induction n with
  | zero =>
    intro k f hk hf
    obtain ⟨f, rfl⟩ : ∃ z, f = z + 1 := ⟨f - 1, by omega⟩
    rw [L_X12_isTight_119, if_pos (nI_lt (by omega) (by omega)), if_pos (fun j hj => absurd hj (Nat.not_lt_zero j))]
  | succ n ih =>
    intro k f hk hf
    obtain ⟨f, rfl⟩ : ∃ z, f = z + 1 := ⟨f - 1, by omega⟩
    rw [L_X12_isTight_119, if_neg (fun c => by have := (nI_ltI (by omega) (by omega)).mp c; omega), b_m8 m hm k (by omega), show nI k + 2 = nI (k + 2) by rw [show (2 : Int32) = nI 2 from rfl, nI_add], ih (k + 2) f (by omega) (by omega)]
    by_cases hb : m.testBit k = true
    · rw [if_pos hb, if_neg i1n0]
      by_cases ha : ∀ j, j < n → m.testBit (k + 2 + 2 * j) = true
      · rw [if_pos ha, if_pos]
        intro j hj
        cases j with
        | zero => exact hb
        | succ j =>
          have := ha j (by omega)
          rw [show k + 2 + 2 * j = k + 2 * (j + 1) by omega] at this
          exact this
      · rw [if_neg ha, if_neg]
        intro c
        refine ha (fun j hj => ?_)
        have := c (j + 1) (by omega)
        rw [show k + 2 * (j + 1) = k + 2 + 2 * j by omega] at this
        exact this
    · rw [if_neg hb, if_pos rfl, if_neg]
      intro c
      exact hb (c 0 (by omega))
theorem tgM_4 {t P k : Nat} (hk : k % 2 = 1) : (tgM t P 4 0 0).testBit k = cvS t P k := by
  have st : ∀ s m, (if t.testBit s = true ∧ dg P s % 2 = 1 then m ||| 2 ^ dg P s else m).testBit k = (m.testBit k || (t.testBit s && decide (dg P s = k))) := by
    intro s m
    by_cases c : t.testBit s = true ∧ dg P s % 2 = 1
    · rw [if_pos c, Nat.testBit_or, Nat.testBit_two_pow, c.1, Bool.true_and]
    · rw [if_neg c]
      have : (t.testBit s && decide (dg P s = k)) = false := by
        by_cases h1 : t.testBit s = true
        · have : ¬ dg P s = k := fun e => c ⟨h1, by omega⟩
          simp [this]
        · simp [h1]
      rw [this, Bool.or_false]
  show (if t.testBit 3 = true ∧ dg P 3 % 2 = 1 then _ else _ : Nat).testBit k = _
  rw [st, st, st, st, Nat.zero_testBit, Bool.false_or]
  rfl
theorem tgX_le {t P g : Nat} (hg : g < 8) (hD : ∀ s, s < 4 → t.testBit s = true → dg P s ≤ g) : ∀ (n s : Nat) (x : Int32), s + n ≤ 4 → x ≤ nI g → tgX t P n s x ≤ nI g ∧ (x = nI g → tgX t P n s x = nI g) := by
  intro n
  induction n with
  | zero => intro s x _ hx; exact ⟨hx, fun h => h⟩
  | succ n ih =>
    intro s x hs hx
    rw [tgX]
    by_cases ht : t.testBit s = true
    · rw [if_pos ht]
      have hd := hD s (by omega) ht
      have h1 : nI (dg P s) ≤ nI g := nI_le hd (by omega)
      by_cases hc : nI (dg P s) ≤ x
      · rw [if_pos hc]; exact ih _ _ (by omega) hx
      · rw [if_neg hc]
        refine ⟨(ih _ _ (by omega) h1).1, fun e => absurd (e ▸ h1) hc⟩
    · rw [if_neg ht]; exact ih _ _ (by omega) hx
theorem tgX_g {t P g : Nat} (hg : g < 8) (hD : ∀ s, s < 4 → t.testBit s = true → dg P s ≤ g) : ∀ (n s : Nat) (x : Int32), s + n ≤ 4 → x ≤ nI g → (∃ r, s ≤ r ∧ r < s + n ∧ t.testBit r = true ∧ dg P r = g) → tgX t P n s x = nI g := by
  intro n
  induction n with
  | zero =>
    intro s x _ hx he
    obtain ⟨r, h1, h2, -⟩ := he
    omega
  | succ n ih =>
    intro s x hs hx he
    rw [tgX]
    obtain ⟨r, h1, h2, h3, h4⟩ := he
    by_cases e : r = s
    · subst e
      rw [if_pos h3, h4]
      by_cases hc : nI g ≤ x
      · rw [if_pos hc]
        exact (tgX_le hg hD _ _ _ (by omega) hx).2 (Int32.le_antisymm hx hc)
      · rw [if_neg hc]
        exact (tgX_le hg hD _ _ _ (by omega) (nI_le (Nat.le_refl g) (by omega))).2 rfl
    · refine ih _ _ (by omega) ?_ ⟨r, by omega, by omega, h3, h4⟩
      by_cases ht : t.testBit s = true
      · rw [if_pos ht]
        by_cases hc : nI (dg P s) ≤ x
        · rw [if_pos hc]; exact hx
        · rw [if_neg hc]; exact nI_le (hD s (by omega) ht) (by omega)
      · rw [if_neg ht]; exact hx
theorem cvS_g {t P k : Nat} (h : cvS t P k = true) : ∃ r, r < 4 ∧ t.testBit r = true ∧ dg P r = k := by
  unfold cvS at h
  simp only [Bool.or_eq_true, Bool.and_eq_true, decide_eq_true_eq] at h
  rcases h with ((h | h) | h) | h
  · exact ⟨0, by decide, h⟩
  · exact ⟨1, by decide, h⟩
  · exact ⟨2, by decide, h⟩
  · exact ⟨3, by decide, h⟩
theorem tgN_4 {t f P : Nat} : tgN t f P 4 0 = (okS t f (fun _ => 7) P 0 && okS t f (fun _ => 7) P 1 && okS t f (fun _ => 7) P 2 && okS t f (fun _ => 7) P 3) := by
  have st : ∀ s, okS t f (fun _ => 7) P s = !(t.testBit s && decide (dg P s % 2 = 1) && f.testBit s) := by
    intro s
    have d8 : dg P s ≤ 7 := by have := dg_lt (P := P) (s := s); omega
    unfold okS
    have e : decide (dg P s % 2 = 0) = !decide (dg P s % 2 = 1) := by
      by_cases c : dg P s % 2 = 1
      · simp [c]
      · simp [c, show dg P s % 2 = 0 by omega]
    rw [decide_eq_true d8, Bool.true_and, e]
    cases t.testBit s <;> cases f.testBit s <;> cases decide (dg P s % 2 = 1) <;> rfl
  rw [st, st, st, st]
  show ((!(t.testBit 0 && decide (dg P 0 % 2 = 1) && f.testBit 0)) && ((!(t.testBit 1 && decide (dg P 1 % 2 = 1) && f.testBit 1)) && ((!(t.testBit 2 && decide (dg P 2 % 2 = 1) && f.testBit 2)) && ((!(t.testBit 3 && decide (dg P 3 % 2 = 1) && f.testBit 3)) && true)))) = _
  generalize (!(t.testBit 0 && decide (dg P 0 % 2 = 1) && f.testBit 0)) = a
  generalize (!(t.testBit 1 && decide (dg P 1 % 2 = 1) && f.testBit 1)) = b
  generalize (!(t.testBit 2 && decide (dg P 2 % 2 = 1) && f.testBit 2)) = c
  generalize (!(t.testBit 3 && decide (dg P 3 % 2 = 1) && f.testBit 3)) = d
  cases a <;> cases b <;> cases c <;> cases d <;> rfl
abbrev odd7 (g : Nat) : Prop := g = 1 ∨ g = 3 ∨ g = 5 ∨ g = 7
theorem x_tight {A : aS} {σ : sS} {F i t g P : Nat} (hF : 5 < F) (h : R0 A σ) (hi : i < aC A) (ht : t < 16) (hg : odd7 g) (hD : dOK t g P) (hV : rV P σ) : L_X12_isTight F (nI i) (nI t) (nI g) σ = some (if tgB t (mF (aMa A i)) g (fun _ => 7) P = true then 1 else 0) := by
  have g8 : g < 8 := by rcases hg with h | h | h | h <;> omega
  have hd : ∀ s, s < 4 → t.testBit s = true → dg P s ≤ g := fun s hs => (hD.2 s hs).1
  have e0 : L_X12_isTight F (nI i) (nI t) (nI g) σ = L_X12_isTight_9 F (nI i) (nI t) (nI g) σ (fun yq1 yq2 => L_X12_isTight_119 F (nI g) yq1 yq2 σ (if yq2 = nI g then (some ((1 : Int32))) else (some ((0 : Int32)))) F 1) F (nI 0) (-1) (nI 0) := rfl
  rw [e0, x_t9 h hi ht hV _ 4 0 F 0 (-1) (by omega) (by omega) (by decide), tgN_4]
  unfold tgB
  generalize (okS t (mF (aMa A i)) (fun _ => 7) P 0 && okS t (mF (aMa A i)) (fun _ => 7) P 1 && okS t (mF (aMa A i)) (fun _ => 7) P 2 && okS t (mF (aMa A i)) (fun _ => 7) P 3) = ok
  cases ok with
  | false => rfl
  | true =>
    rw [if_pos rfl, Bool.true_and]
    have hm := tgM_lt (t := t) (P := P) 4 0 0 (by decide)
    have m1 := tgM_4 (t := t) (P := P) (k := 1) (by decide)
    have m3 := tgM_4 (t := t) (P := P) (k := 3) (by decide)
    have m5 := tgM_4 (t := t) (P := P) (k := 5) (by decide)
    have m7 := tgM_4 (t := t) (P := P) (k := 7) (by decide)
    have hx : (-1 : Int32) ≤ nI g := by rcases hg with rfl | rfl | rfl | rfl <;> decide
    have top : cvS t P g = true → tgX t P 4 0 (-1) = nI g := fun c => by
      obtain ⟨r, r1, r2, r3⟩ := cvS_g c
      exact tgX_g g8 hd 4 0 (-1) (by omega) hx ⟨r, by omega, by omega, r2, r3⟩
    have tl : ∀ n, 1 + 2 * n = g + 2 → L_X12_isTight_119 F (nI g) (nI (tgM t P 4 0 0)) (tgX t P 4 0 (-1)) σ (if tgX t P 4 0 (-1) = nI g then (some ((1 : Int32))) else (some ((0 : Int32)))) F 1 = if ∀ j, j < n → (tgM t P 4 0 0).testBit (1 + 2 * j) = true then (if tgX t P 4 0 (-1) = nI g then (some ((1 : Int32))) else (some ((0 : Int32)))) else some 0 := fun n hn => x_t119 (F := F) hm g8 _ n 1 F hn (by omega)
    rcases hg with rfl | rfl | rfl | rfl
    · rw [tl 1 rfl]
      by_cases c1 : cvS t P 1 = true
      · rw [if_pos, top c1, if_pos rfl, c1]
        · rfl
        · intro j hj
          obtain rfl : j = 0 := by omega
          rw [m1, c1]
      · rw [if_neg (fun c => c1 (by have := c 0 (by decide); rw [m1] at this; exact this)), (Bool.not_eq_true _).mp c1]
        rfl
    · rw [tl 2 rfl]
      by_cases c1 : cvS t P 1 = true
      · by_cases c3 : cvS t P 3 = true
        · rw [if_pos, top c3, if_pos rfl, c1, c3]
          · rfl
          · intro j hj
            obtain rfl | rfl : j = 0 ∨ j = 1 := by omega
            · rw [m1, c1]
            · rw [m3, c3]
        · rw [if_neg (fun c => c3 (by have := c 1 (by decide); rw [m3] at this; exact this)), (Bool.not_eq_true _).mp c3, c1]
          rfl
      · rw [if_neg (fun c => c1 (by have := c 0 (by decide); rw [m1] at this; exact this)), (Bool.not_eq_true _).mp c1]
        rfl
    · rw [tl 3 rfl]
      by_cases c1 : cvS t P 1 = true
      · by_cases c3 : cvS t P 3 = true
        · by_cases c5 : cvS t P 5 = true
          · rw [if_pos, top c5, if_pos rfl, c1, c3, c5]
            · rfl
            · intro j hj
              obtain rfl | rfl | rfl : j = 0 ∨ j = 1 ∨ j = 2 := by omega
              · rw [m1, c1]
              · rw [m3, c3]
              · rw [m5, c5]
          · rw [if_neg (fun c => c5 (by have := c 2 (by decide); rw [m5] at this; exact this)), (Bool.not_eq_true _).mp c5, c1, c3]
            rfl
        · rw [if_neg (fun c => c3 (by have := c 1 (by decide); rw [m3] at this; exact this)), (Bool.not_eq_true _).mp c3, c1]
          rfl
      · rw [if_neg (fun c => c1 (by have := c 0 (by decide); rw [m1] at this; exact this)), (Bool.not_eq_true _).mp c1]
        rfl
    · rw [tl 4 rfl]
      by_cases c1 : cvS t P 1 = true
      · by_cases c3 : cvS t P 3 = true
        · by_cases c5 : cvS t P 5 = true
          · by_cases c7 : cvS t P 7 = true
            · rw [if_pos, top c7, if_pos rfl, c1, c3, c5, c7]
              · rfl
              · intro j hj
                obtain rfl | rfl | rfl | rfl : j = 0 ∨ j = 1 ∨ j = 2 ∨ j = 3 := by omega
                · rw [m1, c1]
                · rw [m3, c3]
                · rw [m5, c5]
                · rw [m7, c7]
            · rw [if_neg (fun c => c7 (by have := c 3 (by decide); rw [m7] at this; exact this)), (Bool.not_eq_true _).mp c7, c1, c3, c5]
              rfl
          · rw [if_neg (fun c => c5 (by have := c 2 (by decide); rw [m5] at this; exact this)), (Bool.not_eq_true _).mp c5, c1, c3]
            rfl
        · rw [if_neg (fun c => c3 (by have := c 1 (by decide); rw [m3] at this; exact this)), (Bool.not_eq_true _).mp c3, c1]
          rfl
      · rw [if_neg (fun c => c1 (by have := c 0 (by decide); rw [m1] at this; exact this)), (Bool.not_eq_true _).mp c1]
        rfl
