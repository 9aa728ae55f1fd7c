/-! calls that read a word: their opening; follows -/
def aLz (A : aS) (k : Int32) : aS := ((0, aB A), (k, aU A, aW A), A.2.2)
def aLy (A : aS) (w : Int32) : aS := ((0, aB A), (0, aU A, w), A.2.2)
def sp_las (A : aS) (x : Int32) (f : aS → List Nat → List Nat → Int32 × aS) : Int32 × aS := if aOk (aT A + 1) x = true then (match sLasso (aB A) x.toNatClampNeg (aG A) (tq (aB A) x.toNatClampNeg 0) with
  | .inl (k, w) => (-1, sAns (aLz A k) 4 (nI w))
  | .inr (u, v) => f (aLz A 0) u v) else aRef A 2
/-! letters are letters -/
theorem sWd_lt {b : Nat → Int32} {G q : Nat} : ∀ (n j : Nat) (u v : List Nat), sWd b G q n j u = .inr v → (∀ x ∈ u, x < G) → u.length ≤ 10 → (∀ x ∈ v, x < G) ∧ v.length ≤ 10 := by
  intro n
  induction n with
  | zero =>
    intro j u v h hu hl
    rw [sWd] at h
    injection h with h
    rw [← h]
    exact ⟨hu, hl⟩
  | succ n ih =>
    intro j u v h hu hl
    rw [sWd] at h
    by_cases hc : (b (q + j) - 97).toNatClampNeg < G
    · rw [if_pos hc] at h
      by_cases h10 : u.length = 10
      · rw [if_pos h10] at h
        exact nomatch h
      · rw [if_neg h10] at h
        refine ih _ _ _ h (fun x hx => ?_) ?_
        · rcases List.mem_append.mp hx with hx | hx
          · exact hu x hx
          · rw [List.mem_singleton.mp hx]
            exact hc
        · rw [List.length_append]
          show u.length + 1 ≤ 10
          omega
    · rw [if_neg hc] at h
      exact nomatch h
theorem sWords_lt {b : Nat → Int32} {e G : Nat} : ∀ (n q : Nat) (u : List Nat) (z : Nat × List Nat), sWords b e G n q u = .inr z → (∀ x ∈ u, x < G) → u.length ≤ 10 → (∀ x ∈ z.2, x < G) ∧ z.2.length ≤ 10 := by
  intro n
  induction n with
  | zero => intro q u z h; exact nomatch h
  | succ n ih =>
    intro q u z h hu hl
    rw [sWords] at h
    by_cases hk : tkk b e q = 2
    · rw [if_pos hk] at h
      obtain ⟨v, hv, h⟩ := pbd_r h
      obtain ⟨a1, a2⟩ := sWd_lt _ _ _ _ hv hu hl
      exact ih _ _ _ h a1 a2
    · rw [if_neg hk] at h
      injection h with h
      rw [← h]
      exact ⟨hu, hl⟩
/-- a word that goes round over G letters -/
def wdO (G : Nat) (u v : List Nat) : Prop := (∀ x ∈ u, x < G) ∧ u.length ≤ 10 ∧ (∀ x ∈ v, x < G) ∧ v.length ≤ 10
theorem sLasso_ok {b : Nat → Int32} {e G q : Nat} {u v : List Nat} (h : sLasso b e G q = .inr (u, v)) : wdO G u v := by
  unfold sLasso at h
  obtain ⟨z, hz, h⟩ := pbd_r h
  obtain ⟨a1, a2⟩ := sWords_lt _ _ _ _ hz (fun x hx => nomatch hx) (Nat.zero_le _)
  split at h
  · unfold sRound at h
    split at h
    · obtain ⟨y, hy, h⟩ := pbd_r h
      obtain ⟨b1, b2⟩ := sWords_lt _ _ _ _ hy (fun x hx => nomatch hx) (Nat.zero_le _)
      split at h
      · split at h
        · injection h with h
          injection h with h1 h2
          rw [← h1, ← h2]
          exact ⟨a1, a2, b1, b2⟩
        · exact nomatch h
      · exact nomatch h
    · exact nomatch h
  · exact nomatch h
theorem gD_lt {G : Nat} {u : List Nat} (h : ∀ x ∈ u, x < G) {j : Nat} (hj : j < u.length) : u.getD j 0 < G := by
  rw [List.getD_eq_getElem?_getD, List.getElem?_eq_getElem hj]
  exact h _ (List.getElem_mem hj)
/-! the reference opens -/
def opM : List Nat := [139, 140]
def opK : List Nat := [4, 5, 6, 7, 8, 9, 10, 11, 12, 13, 41, 42]
theorem rS.c {A B : aS} {σ τ : sS} (h : rS A σ) (e : aSh B = aSh A) (h9 : ∀ j, j = 68 ∨ j = 69 ∨ j = 71 → vI τ 90 j = vI σ 90 j) (h6 : ∀ j, vI τ 166 j = vI σ 166 j) (h7 : ∀ j, vI τ 167 j = vI σ 167 j) : rS B τ := by
  unfold rS at h ⊢
  rw [e]
  cases hq : aSh A with
  | none => rw [hq] at h; exact (h9 _ (by omega)).trans h
  | some w =>
    rw [hq] at h
    obtain ⟨s1, s2, s3, s4, s5, s6, s7⟩ := h
    exact ⟨(h9 _ (by omega)).trans s1, s2, s3, (h9 _ (by omega)).trans s4, (h9 _ (by omega)).trans s5, fun j hj => (h6 _).trans (s6 j hj), fun j hj => (h7 _).trans (s7 j hj)⟩
theorem x_open {A : aS} {σ : sS} {F e : Nat} (hF : 402 < F) (h : R0 A σ) (he : e ≤ aT A) : ∃ τ1 τ, L_X12_begins F (nI e) σ = some τ1 ∧ L_X12_readLasso F τ1 = some τ ∧ fm opM opK σ τ ∧ (match sLasso (aB A) e (aG A) (tq (aB A) e 0) with
    | .inl (k, w) => vI τ 90 7 = k ∧ 0 < k ∧ vI τ 90 8 = nI w ∧ R0 (aLz A k) τ
    | .inr (u, v) => vI τ 90 7 = 0 ∧ rRw 139 u τ ∧ vI τ 90 41 = nI u.length ∧ rRw 140 v τ ∧ vI τ 90 42 = nI v.length ∧ R0 (aLz A 0) τ) := by
  have h400 := h.1.1
  have r0 : tkR (aB A) e 0 (uI (uI (uI (uI σ 90 5 (nI e)) 90 4 0) 90 6 0) 90 7 0) := ⟨fun j hj => h.1.2.2 j hj, rfl, rfl, by omega, by omega⟩
  obtain ⟨τ1, t1, t2⟩ := x_goOn r0 rfl (by omega : 400 < F)
  have t3 : L_X12_begins F (nI e) σ = some τ1 := by
    unfold L_X12_begins
    simp only [bnd_s]
    rw [t1, bd_s]
  have f0 := f_L_X12_begins t3
  have f1 := f_L_X12_goOn t1
  have n : ∀ {x : Nat}, x ∉ ([] : List Nat) := fun h => nomatch h
  have t7 : vI τ1 90 7 = 0 := f1.f (by decide) n
  have t4 : vI τ1 90 4 = 0 := f1.f (by decide) n
  have hr := x_lasso (b := aB A) (G := aG A) h.c.2 hF t2 t7 ((f0.f (by decide) n).trans h.2.2.1.2.2.2.1)
  have fin : ∀ τ, L_X12_readLasso F τ1 = some τ → fm opM opK σ τ ∧ ∀ k, vI τ 90 7 = k → R0 (aLz A k) τ := by
    intro τ ht
    have f2 := f_L_X12_readLasso ht
    have fx : fm opM opK σ τ := (f0.mo (fun x hx => nomatch hx) (by decide)).tr (f2.mo (by decide) (by decide))
    refine ⟨fx, fun k hk => ?_⟩
    obtain ⟨⟨g1, g2, g3⟩, ⟨g4, g5, g6, g7⟩, ⟨g8, g9, g10, g11, g12⟩, gs⟩ := h
    refine ⟨⟨by show 0 ≤ 400; omega, (f2.f (by decide) (by decide)).trans t4, fun j hj => (fx.r (by decide) (by decide)).trans (g3 j hj)⟩, ⟨hk, (fx.f (by decide) (by decide)).trans g5, (fx.f (by decide) (by decide)).trans g6, (fx.f (by decide) (by decide)).trans g7⟩, ⟨g8, g9, (fx.f (by decide) (by decide)).trans g10, (fx.f (by decide) (by decide)).trans g11, fun a ha => ?_⟩, gs.c rfl (fun j hj => fx.f (by rcases hj with rfl | rfl | rfl <;> decide) (by decide)) (fun j => fx.r (by decide) (by decide)) (fun j => fx.r (by decide) (by decide))⟩
    obtain ⟨m0, n1, n2, n3, n4⟩ := g12 a ha
    exact ⟨m0, (fx.r (by decide) (by decide)).trans n1, (fx.r (by decide) (by decide)).trans n2, (fx.r (by decide) (by decide)).trans n3, fun s f hs hf => (fx.r (by decide) (by decide)).trans (n4 s f hs hf)⟩
  cases hs : sLasso (aB A) e (aG A) (tq (aB A) e 0) with
  | inl k =>
    obtain ⟨k, w⟩ := k
    rw [hs] at hr
    obtain ⟨τ, u1, u2, u3, u4⟩ := hr
    obtain ⟨x1, x2⟩ := fin τ u1
    exact ⟨τ1, τ, t3, u1, x1, u2, u3, u4, x2 k u2⟩
  | inr z =>
    obtain ⟨u, v⟩ := z
    rw [hs] at hr
    obtain ⟨τ, u1, u2, u3, u4, u5, u6⟩ := hr
    obtain ⟨x1, x2⟩ := fin τ u1
    exact ⟨τ1, τ, t3, u1, x1, u2, u3, u4, u5, u6, x2 0 u2⟩
theorem x_las {A : aS} {σ : sS} {F : Nat} (hF : 402 < F) (h : R0 A σ) (x : Int32) (f : aS → List Nat → List Nat → Int32 × aS) (kf : sS → Option (Int32 × sS)) (hk : ∀ u v τ, sp_las A x f = f (aLz A 0) u v → R0 (aLz A 0) τ → fm opM opK σ τ → wdO (aG A) u v → rRw 139 u τ → vI τ 90 41 = nI u.length → rRw 140 v τ → vI τ 90 42 = nI v.length → ∃ υ, kf τ = some ((f (aLz A 0) u v).1, υ) ∧ R0 (f (aLz A 0) u v).2 υ) : ∃ υ, (if (L_X12_isLong x σ) = 0 then (bd (L_X12_begins F x σ) (fun σ7 => bd (L_X12_readLasso F σ7) (fun σ9 => if (vI σ9 90 7) ≤ 0 then (kf σ9) else (bd2 (L_X12_faulty σ9) (fun r s => some (r, s)))))) else (bd2 (L_X12_refused 2 σ) (fun r s => some (r, s)))) = some ((sp_las A x f).1, υ) ∧ R0 (sp_las A x f).2 υ := by
  have h400 := h.1.1
  have hl : L_X12_isLong x σ = if aOk (aT A + 1) x = true then 0 else 1 := by
    unfold L_X12_isLong
    rw [h.1.2.1, x_long (by omega)]
    split
    · rw [if_neg i1n0]
    · rw [if_pos rfl]
  rw [hl]
  unfold sp_las at hk ⊢
  by_cases ha : aOk (aT A + 1) x = true
  · rw [if_pos ha] at hk
    rw [if_pos ha, if_pos ha, if_pos rfl]
    obtain ⟨e, he, rfl⟩ := aOk_t ha (by omega)
    rw [nI_clamp (by omega)] at hk ⊢
    obtain ⟨τ1, τ, t1, t2, t3, t4⟩ := x_open hF h (by omega : e ≤ aT A)
    rw [t1, bd_s, t2, bd_s]
    cases hs : sLasso (aB A) e (aG A) (tq (aB A) e 0) with
    | inl k =>
      obtain ⟨k, w⟩ := k
      rw [hs] at t4
      obtain ⟨u1, u2, u3, u4⟩ := t4
      rw [if_neg (f7_n u1 u2)]
      refine ⟨uI (uI τ 90 1 4) 90 2 (nI w), ?_, u4.ans 4 (nI w)⟩
      show some ((-1 : Int32), uI (uI τ 90 1 4) 90 2 (vI τ 90 8)) = _
      rw [u3]
    | inr z =>
      obtain ⟨u, v⟩ := z
      rw [hs] at t4 hk
      obtain ⟨u1, u2, u3, u4, u5, u6⟩ := t4
      rw [if_pos (f7_0 u1)]
      exact hk u v τ rfl u6 t3 (sLasso_ok hs) u2 u3 u4 u5
  · rw [if_neg ha, if_neg ha, if_neg i1n0]
    exact x_refR h 2
/-! where a set goes along a word -/
def aloN (M : aM) (u : List Nat) : Nat → Nat → Nat → Nat
  | 0, _, t => t
  | n + 1, j, t => aloN M u n (j + 1) (aft M t (u.getD j 0))
def alo (M : aM) (u : List Nat) (t : Nat) : Nat := aloN M u u.length 0 t
def alr (M : aM) (v : List Nat) : Nat → Nat → Nat
  | 0, t => t
  | n + 1, t => alr M v n (alo M v t)
theorem aloN_lt {G : Nat} {M : aM} (h : mOk G M) (u : List Nat) : ∀ (n j t : Nat), t < 2 ^ mN M → aloN M u n j t < 2 ^ mN M := by
  intro n
  induction n with
  | zero => intro j t ht; exact ht
  | succ n ih => intro j t ht; exact ih _ _ (aft_lt h _ _)
theorem alr_lt {G : Nat} {M : aM} (h : mOk G M) (v : List Nat) : ∀ (n t : Nat), t < 2 ^ mN M → alr M v n t < 2 ^ mN M := by
  intro n
  induction n with
  | zero => intro t ht; exact ht
  | succ n ih => intro t ht; exact ih _ (aloN_lt h _ _ _ _ ht)
def sp_follows (A : aS) (a n x : Int32) : Int32 × aS := if aOk (aC A) a = true then (if aOk 21 n = true then sp_las A x (fun B u v => aGood B (nI (alr (aMa A a.toNatClampNeg) v n.toNatClampNeg (alo (aMa A a.toNatClampNeg) u (mB (aMa A a.toNatClampNeg)))))) else aRef A 2) else aRef A 1
theorem x_f75 {A : aS} {σ : sS} {F i G : Nat} {x2 : Int32} {u : List Nat} (hF : 4 < F) (h : R0 A σ) (hi : i < aC A) (hu : rRw 139 u σ) (hG : ∀ x ∈ u, x < G) (hG3 : G ≤ 3) (h41 : vI σ 90 41 = nI u.length) (kx : Int32 → Option (Int32 × sS)) : ∀ (n j f t : Nat), j + n = u.length → n < f → t < 2 ^ mN (aMa A i) → L_X12_follows_75 F (nI i) x2 σ kx f (nI t) (nI j) = kx (nI (aloN (aMa A i) u n j t)) := by
  have hm := (h.m hi).1
  have hb := b_pw _ hm.2.1
  intro n
  induction n with
  | zero =>
    intro j f t hj hf ht
    obtain ⟨f, rfl⟩ : ∃ g, f = g + 1 := ⟨f - 1, by omega⟩
    have := hu.1
    rw [L_X12_follows_75, h41, if_pos (nI_le (by omega) (by omega))]
    rfl
  | succ n ih =>
    intro j f t hj hf ht
    obtain ⟨f, rfl⟩ : ∃ g, f = g + 1 := ⟨f - 1, by omega⟩
    have := hu.1
    have hc := gD_lt hG (j := j) (by omega)
    rw [L_X12_follows_75, h41, if_neg (nI_ge (by omega) (by omega)), inb_n (by omega) (by omega), grd_s, nI_clamp (by omega), hu.2 j (by omega), x_afterOf hF h hi (by omega) (by omega), bd_s, nI_1, ih (j + 1) f _ (by omega) (by omega) (aft_lt hm _ _)]
    rfl
theorem x_f118 {A : aS} {σ : sS} {F i G : Nat} {x2 x5 : Int32} {u : List Nat} (hF : 4 < F) (h : R0 A σ) (hi : i < aC A) (hu : rRw 140 u σ) (hG : ∀ x ∈ u, x < G) (hG3 : G ≤ 3) (h42 : vI σ 90 42 = nI u.length) (kx : Int32 → Option (Int32 × sS)) : ∀ (n j f t : Nat), j + n = u.length → n < f → t < 2 ^ mN (aMa A i) → L_X12_follows_118 F (nI i) x2 x5 σ kx f (nI t) (nI j) = kx (nI (aloN (aMa A i) u n j t)) := by
  have hm := (h.m hi).1
  have hb := b_pw _ hm.2.1
  intro n
  induction n with
  | zero =>
    intro j f t hj hf ht
    obtain ⟨f, rfl⟩ : ∃ g, f = g + 1 := ⟨f - 1, by omega⟩
    have := hu.1
    rw [L_X12_follows_118, h42, if_pos (nI_le (by omega) (by omega))]
    rfl
  | succ n ih =>
    intro j f t hj hf ht
    obtain ⟨f, rfl⟩ : ∃ g, f = g + 1 := ⟨f - 1, by omega⟩
    have := hu.1
    have hc := gD_lt hG (j := j) (by omega)
    rw [L_X12_follows_118, h42, if_neg (nI_ge (by omega) (by omega)), inb_n (by omega) (by omega), grd_s, nI_clamp (by omega), hu.2 j (by omega), x_afterOf hF h hi (by omega) (by omega), bd_s, nI_1, ih (j + 1) f _ (by omega) (by omega) (aft_lt hm _ _)]
    rfl
theorem x_f109 {A : aS} {σ : sS} {F i G m : Nat} {v : List Nat} (hF : 10 < F) (h : R0 A σ) (hi : i < aC A) (hu : rRw 140 v σ) (hG : ∀ x ∈ v, x < G) (hG3 : G ≤ 3) (h42 : vI σ 90 42 = nI v.length) (hm20 : m ≤ 20) (kx : Int32 → Option (Int32 × sS)) : ∀ (n j f t : Nat), j + n = m → n < f → t < 2 ^ mN (aMa A i) → L_X12_follows_109 F (nI i) (nI m) σ kx f (nI t) (nI j) = kx (nI (alr (aMa A i) v n t)) := by
  have hm := (h.m hi).1
  intro n
  induction n with
  | zero =>
    intro j f t hj hf ht
    obtain ⟨f, rfl⟩ : ∃ g, f = g + 1 := ⟨f - 1, by omega⟩
    rw [L_X12_follows_109, if_pos (nI_le (by omega) (by omega))]
    rfl
  | succ n ih =>
    intro j f t hj hf ht
    obtain ⟨f, rfl⟩ : ∃ g, f = g + 1 := ⟨f - 1, by omega⟩
    have h10 := hu.1
    rw [L_X12_follows_109, if_neg (nI_ge (by omega) (by omega))]
    have := x_f118 (F := F) (x2 := nI m) (x5 := nI j) (by omega) h hi hu hG hG3 h42 (fun yq19 => L_X12_follows_109 F (nI i) (nI m) σ kx f yq19 (nI j + 1)) v.length 0 F t (by omega) (by omega) ht
    rw [show L_X12_follows_118 F (nI i) (nI m) (nI j) σ _ F (nI t) 0 = _ from this, nI_1]
    exact ih (j + 1) f _ (by omega) (by omega) (aloN_lt hm _ _ _ _ ht)
theorem x_follows {A : aS} {σ : sS} {F : Nat} (hF : 402 < F) (h : R0 A σ) (a n x : Int32) : ∃ τ, L_X12_follows F a n x σ = some ((sp_follows A a n x).1, τ) ∧ R0 (sp_follows A a n x).2 τ := by
  have h := h.z 0
  unfold L_X12_follows sp_follows
  simp only [bnd_s]
  rw [x_isAuto h, bd_s]
  have h3 := h.c.1
  generalize uI σ 90 0 0 = ρ at h ⊢
  by_cases ha : aOk (aC A) a = true
  · obtain ⟨i, hi, rfl⟩ := aOk_t ha (by omega)
    rw [if_pos ha, if_neg i1n0, if_pos ha, nI_clamp (by omega)]
    have e20 : L_X12_in n 0 20 = if aOk 21 n = true then 1 else 0 := x_long (n := 20) (by decide)
    rw [e20]
    by_cases hn : aOk 21 n = true
    · obtain ⟨m, hm, rfl⟩ := aOk_t hn (by omega)
      rw [if_pos hn, if_pos hn, if_neg i1n0, nI_clamp (by omega)]
      refine x_las hF h x _ (fun σ13 => grd (inb (nI i) 6) (L_X12_follows_75 F (nI i) (nI m) σ13 (fun yq17 => L_X12_follows_109 F (nI i) (nI m) σ13 (fun yq18 => bd2 (L_X12_good yq18 σ13) (fun rq20 σ21 => some (rq20, σ21))) F yq17 0) F (vI σ13 115 i) 0)) (fun u v τ _ hR hf hw h1 h2 h4 h5 => ?_)
      have hi' : i < aC (aLz A 0) := hi
      have hmo := (hR.m hi').1
      rw [inb_n (by omega) (by omega), grd_s, (hR.m hi').2.2.1]
      have hB := hmo.2.2.1
      have hu10 := hw.2.1
      have e1 := x_f75 (F := F) (x2 := nI m) (by omega) hR hi' h1 hw.1 h.c.2 h2 (fun yq17 => L_X12_follows_109 F (nI i) (nI m) τ (fun yq18 => bd2 (L_X12_good yq18 τ) (fun rq20 σ21 => some (rq20, σ21))) F yq17 0) u.length 0 F (mB (aMa (aLz A 0) i)) (by omega) (by omega) hB
      rw [show L_X12_follows_75 F (nI i) (nI m) τ _ F _ 0 = _ from e1]
      have e2 := x_f109 (F := F) (by omega) hR hi' h4 hw.2.2.1 h.c.2 h5 (by omega : m ≤ 20) (fun yq18 => bd2 (L_X12_good yq18 τ) (fun rq20 σ21 => some (rq20, σ21))) m 0 F _ (by omega) (by omega) (aloN_lt hmo u u.length 0 _ hB)
      rw [show L_X12_follows_109 F (nI i) (nI m) τ _ F _ 0 = _ from e2]
      exact x_goodR hR _
    · rw [if_neg hn, if_neg hn, if_pos rfl]
      exact x_refR h 2
  · rw [if_neg ha, if_pos rfl, if_neg ha]
    exact x_refR h 1
