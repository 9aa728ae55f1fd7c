/-! calls that ask the complement (the reference) -/
def rcM : List Nat := [124, 125, 126, 127, 128, 129, 130, 131]
def rcK : List Nat := [32, 33, 34, 35]
theorem rCpl.f {G : Nat} {M : aM} {σ τ : sS} {L K : List Nat} (h : rCpl M G σ) (f : fm L K σ τ) (hL : ∀ x ∈ rcM, x ∉ L) (h9 : 90 ∉ L) (hK : ∀ k ∈ rcK, k ∉ K) : rCpl M G τ := by
  have k : ∀ {i : Nat}, i ∈ rcK → vI τ 90 i = vI σ 90 i := fun hi => f.f (hK _ hi) h9
  have r : ∀ {a j : Nat}, a ∈ rcM → a ≠ 90 → vI τ a j = vI σ a j := fun ha h => f.r (hL _ ha) h
  unfold rCpl at h ⊢
  cases hq : cpl M G with
  | none => rw [hq] at h; exact (k (by decide)).trans h
  | some v =>
    rw [hq] at h
    obtain ⟨⟨a1, a2, a3, a4, a5, a6, a7, a8⟩, b2, b3, b4⟩ := h
    refine ⟨⟨a1, (k (by decide)).trans a2, (k (by decide)).trans a3, (k (by decide)).trans a4, fun n hn => ?_, fun i hi => (r (by decide) (by decide)).trans (a6 i hi), fun n hn => (r (by decide) (by decide)).trans (a7 n hn), fun j hj => (r (by decide) (by decide)).trans (a8 j hj)⟩, fun m hm i hi => (r (by decide) (by decide)).trans (b2 m hm i hi), b3, (r (by decide) (by decide)).trans b4⟩
    obtain ⟨o, r1, r2, r3, r4⟩ := a5 n hn
    exact ⟨o, (r (by decide) (by decide)).trans r1, (r (by decide) (by decide)).trans r2, (r (by decide) (by decide)).trans r3, (r (by decide) (by decide)).trans r4⟩
theorem rB.f {A A' : aS} {σ τ : sS} {L K : List Nat} (h : rB A σ) (f : fm L K σ τ) (hL : ∀ x ∈ rcM, x ∉ L) (h9 : 90 ∉ L) (hK : ∀ k ∈ rcK, k ∉ K) (e : A'.2.2.1 = A.2.2.1) : rB A' τ := by
  have e1 : aC A' = aC A := by unfold aC; rw [e]
  have e2 : aG A' = aG A := by unfold aG; rw [e]
  have e3 : aMa A' = aMa A := by unfold aMa; rw [e]
  intro i hi h32
  rw [e1] at hi
  rw [e2, e3]
  exact (h i hi ((f.f (hK 32 (by decide)) h9).symm.trans h32)).f f hL h9 hK
def aI (A : aS) : Prop := aC A = 0 ∨ 1 ≤ aG A
def RI (A : aS) (σ : sS) : Prop := R0 A σ ∧ rB A σ
theorem RI.ans {A : aS} {σ : sS} (h : RI A σ) (u w : Int32) : RI (sAns A u w) (uI (uI σ 90 1 u) 90 2 w) := by
  have f : fm [] [1, 2] σ (uI (uI σ 90 1 u) 90 2 w) := (fm.uI (Or.inr ⟨rfl, by decide⟩)).tr (fm.uI (Or.inr ⟨rfl, by decide⟩))
  exact ⟨h.1.ans u w, h.2.f f (fun _ _ h => nomatch h) (fun h => nomatch h) (by decide) rfl⟩
theorem RI.z {A : aS} {σ : sS} (h : RI A σ) (x : Int32) : RI A (uI σ 90 0 x) := by
  have f : fm [] [0] σ (uI σ 90 0 x) := fm.uI (Or.inr ⟨rfl, by decide⟩)
  exact ⟨h.1.z x, h.2.f f (fun _ _ h => nomatch h) (fun h => nomatch h) (by decide) rfl⟩
def xRI (q : Int32 × aS) (o : Option (Int32 × sS)) : Prop := ∃ τ, o = some (q.1, τ) ∧ RI q.2 τ
theorem xRI.r {A : aS} {σ : sS} (h : RI A σ) (w : Int32) : xRI (aRef A w) (bd2 (L_X12_refused w σ) (fun r t => some (r, t))) := ⟨_, rfl, h.ans w (-1)⟩
theorem xRI.g {A : aS} {σ : sS} (h : RI A σ) (v : Int32) : xRI (aGood A v) (bd2 (L_X12_good v σ) (fun r t => some (r, t))) := ⟨_, rfl, h.ans 0 (-1)⟩
/-- the reference's complement, as it is held -/
def rCv (G : Nat) (v : zS × (Nat → Nat)) (σ : sS) : Prop := rZ v.1 σ ∧ rSt G v.2 (zN v.1) σ ∧ v.2 (zN v.1 * G) = zE v.1 ∧ vI σ 130 (3 * zN v.1) = nI (zE v.1)
theorem x_std {A : aS} {σ : sS} {F i : Nat} (hF : 4097 < F) (h : RI A σ) (hI : aI A) (hi : i < aC A) : (cpl (aMa A i) (aG A) = none ∧ ∃ τ, L_X12_lays F (nI i) σ = some (0, τ) ∧ RI A τ ∧ fm lM lK σ τ) ∨ ∃ v τ, cpl (aMa A i) (aG A) = some v ∧ L_X12_lays F (nI i) σ = some (1, τ) ∧ RI A τ ∧ rCv (aG A) v τ ∧ cO (aMa A i) (aG A) v ∧ fm lM lK σ τ := by
  have hM := (h.1.m hi).1
  have hG := h.1.c.2
  obtain ⟨τ, t1, t2, t3, t4, t5⟩ := x_lays hF h.1 h.2 hi (hI.resolve_left (by omega))
  unfold rCpl at t4
  cases hq : cpl (aMa A i) (aG A) with
  | none =>
    rw [hq] at t1
    exact Or.inl ⟨rfl, τ, t1, ⟨t2, t3⟩, t5⟩
  | some v =>
    rw [hq] at t1 t4
    exact Or.inr ⟨v, τ, rfl, t1, ⟨t2, t3⟩, t4, cpl_O hM hG hq, t5⟩
theorem x_complement {A : aS} {σ : sS} {F : Nat} (hF : 4097 < F) (h : RI A σ) (hI : aI A) (a : Int32) : xRI (sp_complement A a) (L_X12_complement F a σ) := by
  have h := h.z 0
  have h3 := h.1.c.1
  unfold L_X12_complement sp_complement
  simp only [bnd_s]
  rw [x_isAuto h.1, bd_s]
  generalize uI σ 90 0 0 = ρ at h ⊢
  by_cases ha : aOk (aC A) a = true
  · obtain ⟨i, hi, rfl⟩ := aOk_t ha (by omega)
    rw [if_pos ha, if_pos ha, if_neg i1n0, nI_clamp (by omega)]
    rcases x_std hF h hI hi with ⟨hq, τ, t1, t2, -⟩ | ⟨v, τ, hq, t1, t2, t3, t4, -⟩
    · rw [hq, t1, bd2_s, if_pos rfl]
      exact xRI.r t2 3
    · rw [hq, t1, bd2_s, if_neg i1n0, t3.1.2.1]
      exact xRI.g t2 _
  · rw [if_neg ha, if_neg ha, if_pos rfl]
    exact xRI.r h 1
theorem x_fin {z : zS} {σ : sS} {n : Nat} (h : rZ z σ) (hn : n < zN z) : L_X12_isFinalNode (nI n) σ = some (if nfin (zX z n) = true then 1 else 0) := by
  have hN := h.1
  obtain ⟨o, r1, r2, r3, r4⟩ := h.2.2.2.2.1 n hn
  have n2 : ∀ k, k < 8 → ¬ nI k = -2 := by decide +kernel
  unfold L_X12_isFinalNode nfin
  rw [inb_n (by omega) (by omega)]
  simp only [grd_s]
  rw [nI_clamp (by omega), r1, r2, r4]
  unfold ndT
  by_cases g0 : (zX z n).2.1 = 0
  · rw [if_pos g0, if_pos g0, if_pos rfl]
    by_cases t0 : (zX z n).1 = 0
    · rw [if_pos (by rw [t0]; rfl), decide_eq_true t0]
      rfl
    · rw [if_neg (fun q => t0 ((nI_k0 (by have := o.1; omega)).mp q)), decide_eq_false t0]
      rfl
  · rw [if_neg g0, if_neg g0, if_neg (n2 _ o.P.2)]
    by_cases t0 : (zX z n).2.2.2 = 0
    · rw [if_pos (by rw [t0]; rfl), decide_eq_true t0]
      rfl
    · rw [if_neg (fun q => t0 ((nI_k0 (by have := o.2.1; omega)).mp q)), decide_eq_false t0]
      rfl
theorem b_nand : ∀ x, x < 16 → ∀ y, y < 16 → (nI y &&& (nI x ^^^ (-1)) = 0 ↔ y &&& x = y) := by decide +kernel
theorem x_bl68 {z : zS} {σ : sS} {F n m : Nat} (h : rZ z σ) (hn : n < zN z) (hm : m < zN z) : ∀ (k s f : Nat), s + k = 4 → k < f → L_X12_isBelow_68 F (nI n) (nI m) σ (some 1) f (nI s) = some (if ∀ j, j < k → dg (zX z n).2.2.1 (s + j) ≤ dg (zX z m).2.2.1 (s + j) then 1 else 0) := by
  have hN := h.1
  obtain ⟨o, -, -, r3, -⟩ := h.2.2.2.2.1 n hn
  obtain ⟨o', -, -, q3, -⟩ := h.2.2.2.2.1 m hm
  intro k
  induction k with
  | zero =>
    intro s f hs hf
    obtain ⟨f, rfl⟩ : ∃ k, f = k + 1 := ⟨f - 1, by omega⟩
    have hs : s = 4 := by omega
    subst hs
    rw [L_X12_isBelow_68, if_pos (by decide), if_pos (fun j hj => absurd hj (Nat.not_lt_zero j))]
  | succ k ih =>
    intro s f hs hf
    obtain ⟨f, rfl⟩ : ∃ k, f = k + 1 := ⟨f - 1, by omega⟩
    have d1 : dg (zX z n).2.2.1 s < 8 := dg_lt
    have d2 : dg (zX z m).2.2.1 s < 8 := dg_lt
    rw [L_X12_isBelow_68, if_neg (show ¬ (4 : Int32) ≤ nI s from nI_ge (b := 4) (by omega) (by omega)), inb_n (by omega) (by omega), inb_n (by omega) (by omega), grd_s, grd_s, nI_clamp (by omega), nI_clamp (by omega), r3, q3, x_rankIn o.P.1 (by omega), x_rankIn o'.P.1 (by omega), nI_1, ih (s + 1) f (by omega) (by omega)]
    by_cases c : dg (zX z n).2.2.1 s ≤ dg (zX z m).2.2.1 s
    · rw [if_pos (nI_le c (by omega))]
      by_cases a : ∀ j, j < k → dg (zX z n).2.2.1 (s + 1 + j) ≤ dg (zX z m).2.2.1 (s + 1 + j)
      · rw [if_pos a, if_pos]
        intro j hj
        cases j with
        | zero => exact c
        | succ j =>
          have := a j (by omega)
          rw [show s + 1 + j = s + (j + 1) by omega] at this
          exact this
      · rw [if_neg a, if_neg]
        intro q
        refine a (fun j hj => ?_)
        have := q (j + 1) (by omega)
        rw [show s + (j + 1) = s + 1 + j by omega] at this
        exact this
    · rw [if_neg (nI_ge (by omega) (by omega)), if_neg (fun q => c (q 0 (by omega)))]
theorem x_below1 {z : zS} {x0 : nd} {σ : sS} {F n m : Nat} (hF : 4 < F) (h : rZ z σ) (hO : zO x0 z) (hn : n < zN z) (hm : m < zN z) : L_X12_isBelow F (nI n) (nI m) σ = some (if nbel (zX z n) (zX z m) = true then 1 else 0) := by
  have hN := h.1
  obtain ⟨o, r1, r2, r3, r4⟩ := h.2.2.2.2.1 n hn
  obtain ⟨o', q1, q2, q3, q4⟩ := h.2.2.2.2.1 m hm
  have n2 : ∀ k, k < 8 → ¬ nI k = -2 := by decide +kernel
  unfold L_X12_isBelow nbel
  by_cases e : n = m
  · rw [e, if_pos rfl]
    simp
  · have ne : zX z n ≠ zX z m := fun q => e (hO.2.2.2.2.2 n m hn hm q)
    rw [if_neg (fun q => e (nI_ij (by omega) (by omega) q)), decide_eq_true ne, inb_n (by omega) (by omega), inb_n (by omega) (by omega)]
    simp only [grd_s]
    rw [nI_clamp (by omega), nI_clamp (by omega), r1, r2, r4, q1, q2, q4, show L_X12_isBelow_68 F (nI n) (nI m) σ (some 1) F 0 = _ from x_bl68 h hn hm 4 0 F rfl hF]
    have hT := ndT_eq o o'
    by_cases g0 : (zX z n).2.1 = 0
    · rw [if_pos (show ndT (zX z n) = -2 from if_pos g0), if_neg (by simp [g0])]
    · rw [if_neg (show ¬ ndT (zX z n) = -2 from by unfold ndT; rw [if_neg g0]; exact n2 _ o.P.2)]
      by_cases et : (zX z n).1 = (zX z m).1
      · rw [if_pos (by rw [et])]
        by_cases eg : (zX z n).2.1 = (zX z m).2.1
        · rw [if_pos (hT.mpr eg)]
          have ho := b_nand (zX z n).2.2.2 o.2.1 (zX z m).2.2.2 o'.2.1
          by_cases eo : (zX z m).2.2.2 &&& (zX z n).2.2.2 = (zX z m).2.2.2
          · rw [if_pos (ho.mpr eo)]
            have ed : (∀ j, j < 4 → dg (zX z n).2.2.1 (0 + j) ≤ dg (zX z m).2.2.1 (0 + j)) ↔ (dg (zX z n).2.2.1 0 ≤ dg (zX z m).2.2.1 0 ∧ dg (zX z n).2.2.1 1 ≤ dg (zX z m).2.2.1 1 ∧ dg (zX z n).2.2.1 2 ≤ dg (zX z m).2.2.1 2 ∧ dg (zX z n).2.2.1 3 ≤ dg (zX z m).2.2.1 3) := by
              constructor
              · intro q
                exact ⟨q 0 (by decide), q 1 (by decide), q 2 (by decide), q 3 (by decide)⟩
              · rintro ⟨a, b, c, d⟩ r hr
                rw [Nat.zero_add]
                rcases s4 hr with rfl | rfl | rfl | rfl
                · exact a
                · exact b
                · exact c
                · exact d
            simp only [ed]
            by_cases al : (dg (zX z n).2.2.1 0 ≤ dg (zX z m).2.2.1 0 ∧ dg (zX z n).2.2.1 1 ≤ dg (zX z m).2.2.1 1 ∧ dg (zX z n).2.2.1 2 ≤ dg (zX z m).2.2.1 2 ∧ dg (zX z n).2.2.1 3 ≤ dg (zX z m).2.2.1 3)
            · rw [if_pos al]
              obtain ⟨a, b, c, d⟩ := al
              rw [decide_eq_true g0, decide_eq_true et, decide_eq_true eg, decide_eq_true eo, decide_eq_true a, decide_eq_true b, decide_eq_true c, decide_eq_true d]
              rfl
            · rw [if_neg al, if_neg]
              intro q
              simp only [Bool.and_eq_true, decide_eq_true_eq] at q
              exact al ⟨q.2.2.2.2.2.1, q.2.2.2.2.2.2.1, q.2.2.2.2.2.2.2.1, q.2.2.2.2.2.2.2.2⟩
          · rw [if_neg (fun q => eo (ho.mp q)), if_neg]
            intro q
            simp only [Bool.and_eq_true, decide_eq_true_eq] at q
            exact eo q.2.2.2.2.1
        · rw [if_neg (fun q => eg (hT.mp q)), if_neg]
          intro q
          simp only [Bool.and_eq_true, decide_eq_true_eq] at q
          exact eg q.2.2.2.1
      · rw [if_neg (fun q => et (nI_ij (by have := o.1; omega) (by have := o'.1; omega) q)), if_neg]
        intro q
        simp only [Bool.and_eq_true, decide_eq_true_eq] at q
        exact et q.2.2.1
theorem x_belowL {z : zS} {x0 : nd} {σ : sS} {F n : Nat} (hF : 4 < F) (h : rZ z σ) (hO : zO x0 z) (hn : n < zN z) (kx : Int32 → Option Int32) : ∀ (k m f : Nat), m + k = zN z → k < f → L_X12_below_4 F (nI n) σ kx f (nI (cntF (nbel (zX z n)) (zX z) m)) (nI m) = kx (nI (cntF (nbel (zX z n)) (zX z) (zN z))) := by
  have hN := h.1
  intro k
  induction k with
  | zero =>
    intro m f hm hf
    obtain ⟨f, rfl⟩ : ∃ k, f = k + 1 := ⟨f - 1, by omega⟩
    rw [L_X12_below_4, h.2.1, if_pos (nI_le (by omega) (by omega)), show m = zN z by omega]
  | succ k ih =>
    intro m f hm hf
    obtain ⟨f, rfl⟩ : ∃ k, f = k + 1 := ⟨f - 1, by omega⟩
    have key := ih (m + 1) f (by omega) (by omega)
    rw [cntF] at key
    rw [L_X12_below_4, h.2.1, if_neg (nI_ge (by omega) (by omega)), x_below1 hF h hO hn (by omega), bd_s]
    simp only [bnd_s]
    rw [nI_1, nI_1, Int32.add_zero]
    by_cases b : nbel (zX z n) (zX z m) = true
    · rw [if_pos b, if_neg i1n0]
      rw [if_pos b] at key
      exact key
    · rw [if_neg b, if_pos rfl]
      rw [if_neg b] at key
      exact key
theorem x_below {z : zS} {x0 : nd} {σ : sS} {F n : Nat} (hF : 300 < F) (h : rZ z σ) (hO : zO x0 z) (hn : n < zN z) : L_X12_below F (nI n) σ = some (nI (cntF (nbel (zX z n)) (zX z) (zN z))) := x_belowL (by omega) h hO hn _ (zN z) 0 F (by omega) (by have := h.1; omega)
theorem x_st {G n : Nat} {v : zS × (Nat → Nat)} {σ : sS} (h : rCv G v σ) (hG : 1 ≤ G) (hG3 : G ≤ 3) : (∀ c, n < zN v.1 → c < 3 → vI σ 130 (3 * n + c) = nI (v.2 (n * G + min c G))) ∧ (n < zN v.1 → vI σ 130 (3 * (n + 1)) = nI (v.2 ((n + 1) * G))) := by
  refine ⟨fun c hn hc => h.2.1 n hn c hc, fun hn => ?_⟩
  by_cases e : n + 1 = zN v.1
  · rw [e, h.2.2.2, h.2.2.1]
  · have := h.2.1 (n + 1) (by omega) 0 (by decide)
    rw [Nat.add_zero, show min 0 G = 0 from Nat.zero_min G, Nat.add_zero] at this
    exact this
theorem x_node {A : aS} {σ : sS} {F : Nat} (hF : 4097 < F) (h : RI A σ) (hI : aI A) (a n w : Int32) : xRI (sp_node A a n w) (L_X12_node F a n w σ) := by
  have h := h.z 0
  have h3 := h.1.c
  unfold L_X12_node sp_node
  simp only [bnd_s]
  rw [x_isAuto h.1, bd_s]
  generalize uI σ 90 0 0 = ρ at h ⊢
  by_cases ha : aOk (aC A) a = true
  · obtain ⟨i, hi, rfl⟩ := aOk_t ha (by omega)
    have hG1 : 1 ≤ aG A := hI.resolve_left (by omega)
    rw [if_pos ha, if_pos ha, if_neg i1n0, nI_clamp (by omega)]
    by_cases hn0 : n < 0
    · rw [if_pos hn0, if_pos hn0]
      exact xRI.r h 1
    · rw [if_neg hn0, if_neg hn0, show L_X12_in w 0 5 = _ from x_long (n := 5) (by decide)]
      by_cases hw : aOk 6 w = true
      · rw [if_pos hw, if_pos (show aOk (5 + 1) w = true from hw), if_neg i1n0]
        obtain ⟨n, hn, rfl⟩ := nI_of hn0
        rw [nI_clamp hn]
        unfold L_X12_whyNot
        rcases x_std hF h hI hi with ⟨hq, τ, t1, t2, -⟩ | ⟨v, τ, hq, t1, t2, t3, t4, -⟩
        · rw [hq, t1, bd2_s, if_pos rfl, bd2_s, if_neg (by decide)]
          exact xRI.r t2 3
        · have hN := t4.1.2.1
          rw [hq, t1, bd2_s, if_neg i1n0, t3.1.2.1]
          show xRI (if n < zN v.1 then _ else _) _
          by_cases hlt : n < zN v.1
          · rw [if_pos hlt, if_pos (nI_lt hlt (by omega)), bd2_s, if_pos (by decide)]
            obtain ⟨o, r1, r2, r3, r4⟩ := t3.1.2.2.2.2.1 n hlt
            obtain ⟨s1, s2⟩ := x_st (n := n) t3 hG1 h3.2
            rw [inb_n (by omega) (by omega), grd_s, grd_s, grd_s, r1, r2, r4, x_fin t3.1 hlt, bd_s, x_below (by omega) t3.1 t4.1 hlt, bd_s]
            unfold nval
            by_cases w0 : w = 0
            · rw [if_pos w0, if_pos w0]; exact xRI.g t2 _
            · rw [if_neg w0, if_neg w0]
              by_cases w1 : w = 1
              · rw [if_pos w1, if_pos w1]; exact xRI.g t2 _
              · rw [if_neg w1, if_neg w1]
                by_cases w2 : w = 2
                · rw [if_pos w2, if_pos w2]; exact xRI.g t2 _
                · rw [if_neg w2, if_neg w2]
                  by_cases w3 : w = 3
                  · rw [if_pos w3, if_pos w3]
                    by_cases b : nfin (zX v.1 n) = true
                    · rw [if_pos b, if_neg i1n0]; exact xRI.g t2 _
                    · rw [if_neg b, if_pos rfl]; exact xRI.g t2 _
                  · rw [if_neg w3, if_neg w3]
                    by_cases w4 : w = 4
                    · rw [if_pos w4, if_pos w4, nI_1, show (3 : Int32) * nI (n + 1) = nI (3 * (n + 1)) by rw [show (3 : Int32) = nI 3 from rfl, nI_mul], show (3 : Int32) * nI n = nI (3 * n) by rw [show (3 : Int32) = nI 3 from rfl, nI_mul], inb_n (by omega) (by omega), inb_n (by omega) (by omega), grd_s, grd_s, nI_clamp (by omega), nI_clamp (by omega), s2 hlt]
                      have s0 := s1 0 hlt (by decide)
                      rw [Nat.add_zero, show min 0 (aG A) = 0 from Nat.zero_min _, Nat.add_zero] at s0
                      have m1 := t4.2.2.1.le (a := n * aG A) (b := (n + 1) * aG A) (Nat.mul_le_mul_right _ (by omega)) (Nat.mul_le_mul_right _ (by omega))
                      rw [s0, nI_sb m1]
                      exact xRI.g t2 _
                    · rw [if_neg w4, if_neg w4]
                      exact xRI.g t2 _
          · rw [if_neg hlt, if_neg (fun q => hlt ((nI_ltI hn (by omega)).mp q)), bd2_s, if_neg (by decide)]
            exact xRI.r t2 1
      · rw [if_neg hw, if_neg (show ¬ aOk (5 + 1) w = true from hw), if_pos rfl]
        exact xRI.r h 1
  · rw [if_neg ha, if_neg ha, if_pos rfl]
    exact xRI.r h 1
