/-! the calls rankings and ranked (the reference) -/
theorem vs_len {t g : Nat} (hg : g < 8) : ∀ (n P : Nat), (vs t g n P).length ≤ 8 ^ n := by
  intro n
  induction n with
  | zero => intro P; exact Nat.le_refl _
  | succ n ih =>
    intro P
    rw [vs]
    have h8 : 8 ^ (n + 1) = 8 ^ n * 8 := Nat.pow_succ _ _
    split
    · have : ∀ (l : List Nat), (l.flatMap (fun d => vs t g n (P + d * 8 ^ n))).length ≤ l.length * 8 ^ n := by
        intro l
        induction l with
        | nil => exact Nat.zero_le _
        | cons d l il =>
          rw [List.flatMap_cons, List.length_append, List.length_cons, Nat.succ_mul]
          have := ih (P + d * 8 ^ n)
          omega
      have h1 := this (List.range (g + 1))
      rw [List.length_range] at h1
      have h2 : (g + 1) * 8 ^ n ≤ 8 * 8 ^ n := Nat.mul_le_mul_right _ (by omega)
      omega
    · have := ih P
      omega
theorem dOK_0 {t g : Nat} : dOK t g 0 := by
  refine ⟨by decide, fun s hs => ?_⟩
  have : dg 0 s = 0 := by rcases s4 hs with rfl | rfl | rfl | rfl <;> rfl
  rw [this]
  exact ⟨fun _ => Nat.zero_le _, fun _ => rfl⟩
theorem vs_0 {t g : Nat} (hg : g < 8) : ∃ l, vs t g 4 0 = 0 :: l ∧ Wk t g (0 :: l) (0, 0) ∧ l.length < 4096 := by
  obtain ⟨l, h1, h2⟩ := vs_W (t := t) hg 4 0 (by decide) (by decide)
  have h3 := vs_len (t := t) hg 4 0
  rw [h1] at h3
  exact ⟨l, h1, h2, h3⟩
theorem Wk.ok {t g : Nat} (hg : g < 8) {P Q : Nat} {l : List Nat} {C : Nat × Nat} (h : Wk t g (P :: Q :: l) C) (hP : dOK t g P) : nxD t g 4 P = (1, Q) ∧ dOK t g Q := by
  have h1 := h.1
  have h2 := nxD_ok hg 4 P (by decide) hP
  rw [h1] at h2
  exact ⟨h1, h2.2⟩
theorem R0.rk {A : aS} {σ τ : sS} (h : R0 A σ) (f : fm [123] [] σ τ) : R0 A τ := h.keep f (by decide) (by decide) (by decide)
theorem x_rk51 {A : aS} {F i t g : Nat} (hF : 5 < F) (hi : i < aC A) (ht : t < 16) (hg : odd7 g) (kx : Int32 → sS → Option (Int32 × sS)) : ∀ (l : List Nat) (P f x : Nat) (σ : sS), R0 A σ → Wk t g (P :: l) (0, 0) → dOK t g P → rV P σ → l.length + 1 < f → ∃ τ, L_X12_rankings_51 F (nI i) (nI t) (nI g) kx f (nI x) 1 σ = kx (nI (x + ((P :: l).filter (tgB t (mF (aMa A i)) g (fun _ => 7))).length)) τ ∧ fm [123] [] σ τ := by
  have g8 : g < 8 := by rcases hg with h | h | h | h <;> omega
  intro l
  induction l with
  | nil =>
    intro P f x σ h hW hD hV hf
    obtain ⟨f, rfl⟩ : ∃ k, f = k + 1 := ⟨f - 1, by omega⟩
    obtain ⟨τ, t1, t2, t3⟩ := x_nextR (F := F) (by omega) ht g8 hD hV
    have hW : nxD t g 4 P = (0, 0) := hW
    rw [hW] at t1
    have fin : ∀ y, L_X12_rankings_51 F (nI i) (nI t) (nI g) kx f y (nI 0) τ = kx y τ := by
      intro y
      obtain ⟨f, rfl⟩ : ∃ k, f = k + 1 := ⟨f - 1, by simp only [List.length_nil] at hf; omega⟩
      rw [L_X12_rankings_51, if_pos (show nI 0 = 0 from rfl)]
    refine ⟨τ, ?_, t3⟩
    rw [L_X12_rankings_51, if_neg i1n0, x_tight hF h hi ht hg hD hV, bd_s, t1]
    simp only [bnd_s, bd2_s]
    rw [fin, fin, List.filter_cons]
    by_cases hb : tgB t (mF (aMa A i)) g (fun _ => 7) P = true
    · rw [if_pos hb, if_neg i1n0, if_pos hb, nI_1]
      rfl
    · rw [if_neg hb, if_pos rfl, if_neg hb, Int32.add_zero]
      rfl
  | cons Q l ih =>
    intro P f x σ h hW hD hV hf
    obtain ⟨f, rfl⟩ : ∃ k, f = k + 1 := ⟨f - 1, by omega⟩
    obtain ⟨hn, hQ⟩ := hW.ok g8 hD
    obtain ⟨υ, t1, t2, t3⟩ := x_nextR (F := F) (by omega) ht g8 hD hV
    rw [hn] at t1 t2
    have hl : l.length + 1 < f := by simp only [List.length_cons] at hf; omega
    rw [L_X12_rankings_51, if_neg i1n0, x_tight hF h hi ht hg hD hV, bd_s, t1]
    simp only [bnd_s, bd2_s]
    rw [List.filter_cons]
    by_cases hb : tgB t (mF (aMa A i)) g (fun _ => 7) P = true
    · rw [if_pos hb, if_neg i1n0, if_pos hb, nI_1]
      obtain ⟨τ, s1, s2⟩ := ih Q f (x + 1) υ (h.rk t3) hW.2 hQ t2 hl
      refine ⟨τ, ?_, t3.tr s2⟩
      rw [show L_X12_rankings_51 F (nI i) (nI t) (nI g) kx f (nI (x + 1)) (nI (1, Q).1) υ = _ from s1, List.length_cons]
      congr 2
      omega
    · rw [if_neg hb, if_pos rfl, if_neg hb, Int32.add_zero]
      obtain ⟨τ, s1, s2⟩ := ih Q f x υ (h.rk t3) hW.2 hQ t2 hl
      exact ⟨τ, s1, t3.tr s2⟩
abbrev oddI (x : Int32) : Prop := x = 1 ∨ x = 3 ∨ x = 5 ∨ x = 7
theorem oddI_n {x : Int32} (h : oddI x) : ∃ g, odd7 g ∧ x = nI g := by
  rcases h with rfl | rfl | rfl | rfl
  · exact ⟨1, by decide, rfl⟩
  · exact ⟨3, by decide, rfl⟩
  · exact ⟨5, by decide, rfl⟩
  · exact ⟨7, by decide, rfl⟩
theorem x_oddR (x : Int32) : L_X12_isOddRank x = some (if oddI x then 1 else 0) := by
  unfold L_X12_isOddRank L_X12_in
  by_cases h1 : x < 1
  · rw [if_pos h1, if_pos rfl, if_neg]
    rintro (rfl | rfl | rfl | rfl) <;> exact absurd h1 (by decide)
  · rw [if_neg h1]
    by_cases h7 : (7 : Int32) < x
    · rw [if_pos h7, if_pos rfl, if_neg]
      rintro (rfl | rfl | rfl | rfl) <;> exact absurd h7 (by decide)
    · rw [if_neg h7, if_neg i1n0]
      obtain ⟨j, hj, rfl⟩ := nI_of (show ¬ x < 0 from fun c => h1 (Int32.lt_trans c (by decide)))
      have j7 : j ≤ 7 := by
        rcases Nat.lt_or_ge 7 j with c | c
        · exact absurd (show nI 7 < nI j from nI_lt c hj) h7
        · exact c
      have := (by decide +kernel : ∀ j, j < 8 → (if (nI j - nI j / 2 * 2) = 1 then some (1 : Int32) else some 0) = some (if oddI (nI j) then 1 else 0)) j (by omega)
      exact this
def sp_rankings (A : aS) (a t g : Int32) : Int32 × aS := if aOk (aC A) a = true then (if aOk (2 ^ mN (aMa A a.toNatClampNeg)) t = true then (if oddI g then aGood A (nI (rkS t.toNatClampNeg (mF (aMa A a.toNatClampNeg)) g.toNatClampNeg (fun _ => 7)).length) else aRef A 2) else aRef A 2) else aRef A 1
theorem x_rankings {A : aS} {σ : sS} {F : Nat} (hF : 4097 < F) (h : R0 A σ) (a t g : Int32) : ∃ τ, L_X12_rankings F a t g σ = some ((sp_rankings A a t g).1, τ) ∧ R0 (sp_rankings A a t g).2 τ := by
  have h := h.z 0
  unfold L_X12_rankings sp_rankings
  simp only [bnd_s]
  rw [x_isAuto h, bd_s]
  have h3 := h.c.1
  generalize uI σ 90 0 0 = ρ at h ⊢
  by_cases ha : aOk (aC A) a = true
  · obtain ⟨i, hi, rfl⟩ := aOk_t ha (by omega)
    have hb := b_pw _ (h.m hi).1.2.1
    rw [if_pos ha, if_neg i1n0, if_pos ha, nI_clamp (by omega), x_isSet h hi, bd_s]
    by_cases hs : aOk (2 ^ mN (aMa A i)) t = true
    · obtain ⟨t, ht, rfl⟩ := aOk_t hs (by omega)
      rw [if_pos hs, if_neg i1n0, if_pos hs, nI_clamp (by omega), x_oddR, bd_s]
      by_cases ho : oddI g
      · obtain ⟨g, hg, rfl⟩ := oddI_n ho
        have g8 : g < 8 := by rcases hg with h | h | h | h <;> omega
        rw [if_pos ho, if_neg i1n0, if_pos ho, nI_clamp (by omega)]
        obtain ⟨υ, u1, u2, u3⟩ := x_first (F := F) (σ := ρ) (by omega)
        rw [u1, bd_s]
        obtain ⟨l, l1, l2, l3⟩ := vs_0 (t := t) g8
        obtain ⟨τ, s1, s2⟩ := x_rk51 (A := A) (F := F) (by omega) hi (by omega : t < 16) hg (fun yq16 σ17 => bd2 (L_X12_good yq16 σ17) (fun rq19 σ20 => some (rq19, σ20))) l 0 F 0 υ (h.rk u3) l2 dOK_0 u2 (by omega)
        rw [show L_X12_rankings_51 F (nI i) (nI t) (nI g) _ F 0 1 υ = _ from s1, Nat.zero_add]
        unfold rkS
        rw [l1]
        exact x_goodR ((h.rk u3).rk s2) _
      · rw [if_neg ho, if_pos rfl, if_neg ho]
        exact x_refR h 2
    · rw [if_neg hs, if_pos rfl, if_neg hs]
      exact x_refR h 2
  · rw [if_neg ha, if_pos rfl, if_neg ha]
    exact x_refR h 1
theorem nI_m1 {k : Nat} (h : k ≠ 0) : nI k - 1 = nI (k - 1) := by
  obtain ⟨j, rfl⟩ : ∃ j, k = j + 1 := ⟨k - 1, by omega⟩
  exact nI_pred j
theorem nI_k0 {k : Nat} (hk : k < 2 ^ 31) : nI k = 0 ↔ k = 0 := ⟨fun c => nI_ij (y := 0) hk (by decide) c, fun c => by rw [c]; rfl⟩
theorem x_rd74 {A : aS} {F i t g s : Nat} (hF : 5 < F) (hi : i < aC A) (ht : t < 16) (hg : odd7 g) (hs : s < 4) (kx : sS → Option (Int32 × sS)) : ∀ (l : List Nat) (P f k : Nat) (σ : sS), k < 2 ^ 31 → R0 A σ → Wk t g (P :: l) (0, 0) → dOK t g P → rV P σ → l.length + 1 < f → ∃ τ, L_X12_ranked_74 F (nI i) (nI t) (nI g) (nI s) kx f (nI k) 1 σ = (if k < ((P :: l).filter (tgB t (mF (aMa A i)) g (fun _ => 7))).length then some (nI (dg (((P :: l).filter (tgB t (mF (aMa A i)) g (fun _ => 7))).getD k 0) s), uI (uI τ 90 1 0) 90 2 (-1)) else kx τ) ∧ fm [123] [] σ τ := by
  have g8 : g < 8 := by rcases hg with h | h | h | h <;> omega
  intro l
  induction l with
  | nil =>
    intro P f k σ hk h hW hD hV hf
    obtain ⟨f, rfl⟩ : ∃ k, f = k + 1 := ⟨f - 1, by omega⟩
    obtain ⟨τ, t1, t2, t3⟩ := x_nextR (F := F) (by omega) ht g8 hD hV
    have hW : nxD t g 4 P = (0, 0) := hW
    rw [hW] at t1
    have fin : ∀ y, L_X12_ranked_74 F (nI i) (nI t) (nI g) (nI s) kx f y (nI 0) τ = kx τ := by
      intro y
      obtain ⟨f, rfl⟩ : ∃ k, f = k + 1 := ⟨f - 1, by simp only [List.length_nil] at hf; omega⟩
      rw [L_X12_ranked_74, if_pos (show nI 0 = 0 from rfl)]
    have e110 : ∀ x8, L_X12_ranked_110 F (nI i) (nI t) (nI g) (nI s) (L_X12_ranked_74 F (nI i) (nI t) (nI g) (nI s) kx f) kx (nI k) x8 σ = kx τ := by
      intro x8
      unfold L_X12_ranked_110
      simp only [bnd_s]
      rw [t1]
      simp only [bd2_s]
      rw [fin, fin]
      split <;> rfl
    rw [L_X12_ranked_74, if_neg i1n0, x_tight hF h hi ht hg hD hV, bd_s, e110, inb_n (by omega) (by omega), grd_s, nI_clamp (by omega), hV.2 s hs, List.filter_cons]
    by_cases hb : tgB t (mF (aMa A i)) g (fun _ => 7) P = true
    · rw [if_pos hb, if_neg i1n0, if_pos hb]
      by_cases k0 : k = 0
      · subst k0
        refine ⟨σ, ?_, fm.rf⟩
        rw [if_pos (show nI 0 = 0 from rfl), if_pos (by simp)]
        rfl
      · refine ⟨τ, ?_, t3⟩
        rw [if_neg (fun c => k0 ((nI_k0 hk).mp c)), if_neg]
        simp only [List.filter_nil, List.length_singleton]
        omega
    · rw [if_neg hb, if_pos rfl, if_neg hb]
      exact ⟨τ, by rw [if_neg (by simp)], t3⟩
  | cons Q l ih =>
    intro P f k σ hk h hW hD hV hf
    obtain ⟨f, rfl⟩ : ∃ k, f = k + 1 := ⟨f - 1, by omega⟩
    obtain ⟨hn, hQ⟩ := hW.ok g8 hD
    obtain ⟨υ, t1, t2, t3⟩ := x_nextR (F := F) (by omega) ht g8 hD hV
    rw [hn] at t1 t2
    have hl : l.length + 1 < f := by simp only [List.length_cons] at hf; omega
    rw [L_X12_ranked_74, if_neg i1n0, x_tight hF h hi ht hg hD hV, bd_s, inb_n (by omega) (by omega), grd_s, nI_clamp (by omega), hV.2 s hs, List.filter_cons]
    unfold L_X12_ranked_110
    simp only [bnd_s]
    rw [t1]
    simp only [bd2_s]
    by_cases hb : tgB t (mF (aMa A i)) g (fun _ => 7) P = true
    · rw [if_pos hb, if_neg i1n0, if_pos hb, if_neg i1n0]
      by_cases k0 : k = 0
      · subst k0
        refine ⟨σ, ?_, fm.rf⟩
        rw [if_pos (show nI 0 = 0 from rfl), if_pos (by simp)]
        rfl
      · rw [if_neg (fun c => k0 ((nI_k0 hk).mp c)), nI_m1 k0]
        obtain ⟨τ, s1, s2⟩ := ih Q f (k - 1) υ (by omega) (h.rk t3) hW.2 hQ t2 hl
        refine ⟨τ, ?_, t3.tr s2⟩
        rw [show L_X12_ranked_74 F (nI i) (nI t) (nI g) (nI s) kx f (nI (k - 1)) (nI (1, Q).1) υ = _ from s1]
        obtain ⟨j, rfl⟩ : ∃ j, k = j + 1 := ⟨k - 1, by omega⟩
        simp only [Nat.add_sub_cancel, List.length_cons, List.getD_cons_succ, Nat.add_lt_add_iff_right]
    · rw [if_neg hb, if_pos rfl, if_neg hb, if_pos rfl, Int32.sub_zero]
      obtain ⟨τ, s1, s2⟩ := ih Q f k υ hk (h.rk t3) hW.2 hQ t2 hl
      exact ⟨τ, s1, t3.tr s2⟩
def sp_ranked (A : aS) (a t g k s : Int32) : Int32 × aS := if aOk (aC A) a = true ∧ aOk (mN (aMa A a.toNatClampNeg)) s = true then (if aOk (2 ^ mN (aMa A a.toNatClampNeg)) t = true then (if oddI g then (if ¬ k < 0 ∧ t.toNatClampNeg.testBit s.toNatClampNeg = true ∧ k.toNatClampNeg < (rkS t.toNatClampNeg (mF (aMa A a.toNatClampNeg)) g.toNatClampNeg (fun _ => 7)).length then aGood A (nI (dg ((rkS t.toNatClampNeg (mF (aMa A a.toNatClampNeg)) g.toNatClampNeg (fun _ => 7)).getD k.toNatClampNeg 0) s.toNatClampNeg)) else aRef A 5) else aRef A 2) else aRef A 2) else aRef A 1
theorem x_ranked {A : aS} {σ : sS} {F : Nat} (hF : 4097 < F) (h : R0 A σ) (a t g k s : Int32) : ∃ τ, L_X12_ranked F a t g k s σ = some ((sp_ranked A a t g k s).1, τ) ∧ R0 (sp_ranked A a t g k s).2 τ := by
  have h := h.z 0
  unfold L_X12_ranked sp_ranked
  simp only [bnd_s]
  rw [x_isState h, bd_s]
  have h3 := h.c.1
  generalize uI σ 90 0 0 = ρ at h ⊢
  by_cases ha : aOk (aC A) a = true ∧ aOk (mN (aMa A a.toNatClampNeg)) s = true
  · rw [if_pos ha, if_neg i1n0, if_pos ha]
    obtain ⟨ha, hss⟩ := ha
    obtain ⟨i, hi, rfl⟩ := aOk_t ha (by omega)
    have hm4 := (h.m hi).1.2.1
    have hb := b_pw _ hm4
    rw [nI_clamp (by omega)] at hss ⊢
    obtain ⟨s, hs, rfl⟩ := aOk_t hss (by omega)
    rw [x_isSet h hi, bd_s, nI_clamp (by omega)]
    by_cases hs' : aOk (2 ^ mN (aMa A i)) t = true
    · obtain ⟨t, ht, rfl⟩ := aOk_t hs' (by omega)
      rw [if_pos hs', if_neg i1n0, if_pos hs', nI_clamp (by omega), x_oddR, bd_s]
      by_cases ho : oddI g
      · obtain ⟨g, hg, rfl⟩ := oddI_n ho
        have g8 : g < 8 := by rcases hg with h | h | h | h <;> omega
        rw [if_pos ho, if_neg i1n0, if_pos ho, nI_clamp (by omega)]
        by_cases hk : k < 0
        · rw [if_pos hk, if_neg (fun c => c.1 hk)]
          exact x_refR h 5
        · rw [if_neg hk, b_tb t (by omega) s (by omega)]
          obtain ⟨k, hk2, rfl⟩ := nI_of hk
          rw [nI_clamp hk2]
          by_cases hts : t.testBit s = true
          · rw [if_pos hts, if_neg i1n0]
            obtain ⟨υ, u1, u2, u3⟩ := x_first (F := F) (σ := ρ) (by omega)
            rw [u1, bd_s]
            obtain ⟨l, l1, l2, l3⟩ := vs_0 (t := t) g8
            obtain ⟨τ, s1, s2⟩ := x_rd74 (A := A) (F := F) (by omega) hi (by omega : t < 16) hg (by omega : s < 4) (fun σ21 => bd2 (L_X12_refused 5 σ21) (fun rq23 σ24 => some (rq23, σ24))) l 0 F k υ hk2 (h.rk u3) l2 dOK_0 u2 (by omega)
            rw [show L_X12_ranked_74 F (nI i) (nI t) (nI g) (nI s) _ F (nI k) 1 υ = _ from s1]
            unfold rkS
            rw [l1]
            have hR := (h.rk u3).rk s2
            by_cases hc : k < ((0 :: l).filter (tgB t (mF (aMa A i)) g (fun _ => 7))).length
            · rw [if_pos hc, if_pos ⟨hk, hts, hc⟩]
              exact ⟨_, rfl, hR.ans 0 (-1)⟩
            · rw [if_neg hc, if_neg (fun c => hc c.2.2)]
              exact x_refR hR 5
          · rw [if_neg hts, if_pos rfl, if_neg (fun c => hts c.2.1)]
            exact x_refR h 5
      · rw [if_neg ho, if_pos rfl, if_neg ho]
        exact x_refR h 2
    · rw [if_neg hs', if_pos rfl, if_neg hs']
      exact x_refR h 2
  · rw [if_neg ha, if_pos rfl, if_neg ha]
    exact x_refR h 1
