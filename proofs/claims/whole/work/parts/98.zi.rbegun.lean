/-! rounds: where the reference begins -/
def rG3 (M : aM) (g a : Nat) (rd : List Nat) (τ : sS) : Prop := vI τ 90 37 = 3 ∧ vI τ 90 38 = nI a ∧ vI τ 90 19 = nI g ∧ vI τ 116 a = nI (mF M) ∧ (∀ s f, s < 4 → f < 4 → vI τ 117 (16 * a + 4 * s + f) = nI (mE M s f)) ∧ rRw 140 rd τ ∧ vI τ 90 42 = nI rd.length
theorem rG3.f {M : aM} {g a : Nat} {rd : List Nat} {τ υ : sS} (h : rG3 M g a rd τ) (f : fm wM wK τ υ) : rG3 M g a rd υ := by
  obtain ⟨h1, h2, h3, h4, h5, h6, h7⟩ := h
  exact ⟨(f.f (by decide) (by decide)).trans h1, (f.f (by decide) (by decide)).trans h2, (f.f (by decide) (by decide)).trans h3, (f.r (by decide) (by decide)).trans h4, fun s t hs ht => (f.r (by decide) (by decide)).trans (h5 s t hs ht), ⟨h6.1, fun j hj => (f.r (by decide) (by decide)).trans (h6.2 j hj)⟩, (f.f (by decide) (by decide)).trans h7⟩
theorem p10 {p : Nat} (hp : p < 3000) : nI p - nI p / 10 * 10 = nI (p % 10) ∧ nI p / 10 = nI (p / 10) := ⟨nI_rem (b := 10) (by omega) (by decide), nI_dv (b := 10) (by omega) (by decide)⟩
theorem x_mod1 {p m : Nat} (hm : 1 ≤ m) (hm2 : m ≤ 10) : (nI (p % 10) + 1) - (nI (p % 10) + 1) / nI m * nI m = nI ((p % 10 + 1) % m) := by
  rw [nI_1]
  exact nI_rem (by omega) (by omega)
theorem x_G3 {M : aM} {g a : Nat} {rd : List Nat} {τ : sS} (hM : mOk g M) (hg : g ≤ 3) (ha : a < 3) (hrd : ∀ s, s ∈ rd → s < g) (hm1 : 1 ≤ rd.length) (h : rG3 M g a rd τ) {p : Nat} (hp : rvV (G0 M g) rd p) : (rEd (elB (bR (bSt M) rd) g) p τ ∧ ∀ e, e ∈ elB (bR (bSt M) rd) g p → L_X12_goesBy (nI p) (nI e.1) τ = some (nI e.2, τ)) ∧ L_X12_isMarked (nI p) τ = some (if (mF M).testBit (p / 10) = true then 1 else 0) := by
  obtain ⟨m1, m2, m3, m4, m5, m6⟩ := hM
  have p4 : 2 ^ mN M ≤ 2 ^ 4 := Nat.pow_le_pow_right (by decide) m2
  obtain ⟨h1, h2, h3, h4, h5, h6, h7⟩ := h
  have hpn : p / 10 < mN M := hp.1
  have hpm := hp.2
  have hm := h6.1
  obtain ⟨c1, c2⟩ := p10 (p := p) (by omega)
  have i30 : ¬ (3 : Int32) = 0 := by decide
  have i31 : ¬ (3 : Int32) = 1 := by decide
  have i32 : ¬ (3 : Int32) = 2 := by decide
  have er := h6.2 (p % 10) hpm
  have rg3 := hrd _ (getD_mem hpm)
  refine ⟨⟨x_efb h3 hg (fun s _ => bR_o (bSt_o M _ s)) (fun s t k hs ht hk => ?_), fun e he => ?_⟩, ?_⟩
  · have hX : mE M s (p / 10) < 16 := Nat.lt_of_lt_of_le (m5 s _) p4
    have eh : L_X12_hasEdge (nI p) (nI s) (nI t) (nI k) τ = if s = rd.getD (p % 10) 0 then (if k = 0 then some (if (mE M s (p / 10)).testBit t = true then 1 else 0) else some 0) else some (-1) := by
      unfold L_X12_hasEdge L_X12_hasEdge_164
      rw [bnd_s, h1, if_neg i30, if_neg i31, if_neg i32, if_pos rfl, c1, inb_n (by omega) (by omega), grd_s, grd_s, nI_clamp (by omega), er, c2]
      by_cases d : s = rd.getD (p % 10) 0
      · have dd : nI s = nI (rd.getD (p % 10) 0) := congrArg nI d
        rw [if_pos dd, if_pos d]
        by_cases c : k = 0
        · rw [if_pos ((nI_k0 (by omega)).mpr c), if_pos c, h2, x_eOf h5 ha (by omega) (by omega), bd_s, b_bit _ hX t ht]
        · rw [if_neg (fun q => c ((nI_k0 (by omega)).mp q)), if_neg c, if_pos dd]
      · have dn : ¬ nI s = nI (rd.getD (p % 10) 0) := fun q => d (nI_ij (by omega) (by omega) q)
        rw [if_neg dn, if_neg d, if_neg dn]
    rw [eh]
    by_cases d : s = rd.getD (p % 10) 0
    · have eb : bR (bSt M) rd p s = (sts (mE M s (p / 10)), 1, fun t _ => 10 * t + (p % 10 + 1) % rd.length) := if_pos d
      rw [if_pos d, eb]
      by_cases c : k = 0
      · rw [if_pos c]
        by_cases q : (mE M s (p / 10)).testBit t = true
        · rw [if_pos q]
          exact ⟨1, rfl, Or.inl ⟨rfl, sts_mem.mpr ⟨ht, q⟩, by show k < 1; omega⟩⟩
        · rw [if_neg q]
          exact ⟨0, rfl, Or.inr (Or.inl ⟨rfl, fun z => q (sts_mem.mp z.1).2⟩)⟩
      · rw [if_neg c]
        exact ⟨0, rfl, Or.inr (Or.inl ⟨rfl, fun z => by have : k < 1 := z.2; omega⟩)⟩
    · have eb : bR (bSt M) rd p s = ([], 0, fun _ _ => 0) := if_neg d
      rw [if_neg d, eb]
      exact ⟨-1, rfl, Or.inr (Or.inr ⟨rfl, fun z => (nomatch z.1), fun u hu => nomatch hu⟩)⟩
  · obtain ⟨s, t, k, q1, q2, q3, q4⟩ := elB_mem.mp he
    by_cases d : s = rd.getD (p % 10) 0
    · have eb : bR (bSt M) rd p s = (sts (mE M s (p / 10)), 1, fun t _ => 10 * t + (p % 10 + 1) % rd.length) := if_pos d
      rw [eb] at q2 q3 q4
      have q3 : k < 1 := q3
      obtain ⟨d1, d2, d3⟩ := cur_d (s := s) (t := t) (k := k) (by omega) (sts_mem.mp q2).1 (by omega)
      rw [q4]
      unfold L_X12_goesBy
      simp only [bnd_s]
      rw [h1, if_neg i30, if_neg i31, if_neg i32, if_pos rfl, d2, c1, h7, show (!decide (nI rd.length = (0 : Int32))) = true by rw [decide_eq_false (fun z => by have := (nI_k0 (by omega)).mp z; omega)]; rfl, grd_s, x_mod1 hm1 hm, show (10 : Int32) = nI 10 from rfl, nI_mul, nI_add]
    · have eb : bR (bSt M) rd p s = ([], 0, fun _ _ => 0) := if_neg d
      rw [eb] at q2
      exact nomatch q2
  · unfold L_X12_isMarked
    rw [bnd_s, h1, if_neg i30, if_neg i31, if_neg i32, if_pos rfl, h2, inb_n (by omega) (by omega), grd_s, nI_clamp (by omega), h4, c2, b_bit _ (by omega) (p / 10) (by omega)]
    by_cases d : (mF M).testBit (p / 10) = true
    · rw [if_pos d, if_pos rfl]
    · rw [if_neg d, if_neg (by decide)]
def rG4 (M : aM) (g : Nat) (rd : List Nat) (τ : sS) : Prop := vI τ 90 37 = 4 ∧ vI τ 90 19 = nI g ∧ rCpl M g τ ∧ rRw 140 rd τ ∧ vI τ 90 42 = nI rd.length
theorem rG4.f {M : aM} {g : Nat} {rd : List Nat} {τ υ : sS} (h : rG4 M g rd τ) (f : fm wM wK τ υ) : rG4 M g rd υ := by
  obtain ⟨h1, h2, h3, h6, h7⟩ := h
  exact ⟨(f.f (by decide) (by decide)).trans h1, (f.f (by decide) (by decide)).trans h2, h3.f f (by decide) (by decide) (by decide), ⟨h6.1, fun j hj => (f.r (by decide) (by decide)).trans (h6.2 j hj)⟩, (f.f (by decide) (by decide)).trans h7⟩
theorem x_G4 {M : aM} {g : Nat} {v : zS × (Nat → Nat)} {rd : List Nat} {τ : sS} (hq : cpl M g = some v) (hO : cO M g v) (h3' : sM3 v.2 (zN v.1 * g)) (hg1 : 1 ≤ g) (hg : g ≤ 3) (hrd : ∀ s, s ∈ rd → s < g) (hm1 : 1 ≤ rd.length) (h : rG4 M g rd τ) {p : Nat} (hp : rvV (G1 v g) rd p) : (rEd (elB (bR (bNo v g) rd) g) p τ ∧ ∀ e, e ∈ elB (bR (bNo v g) rd) g p → L_X12_goesBy (nI p) (nI e.1) τ = some (nI e.2, τ)) ∧ L_X12_isMarked (nI p) τ = some (if nfin (zX v.1 (p / 10)) = true then 1 else 0) := by
  obtain ⟨h1, h2, hc, h6, h7⟩ := h
  have hv := hc.v hq
  have hN := hO.1.2.1
  have hpn : p / 10 < zN v.1 := hp.1
  have hpm := hp.2
  have hm := h6.1
  obtain ⟨c1, c2⟩ := p10 (p := p) (by omega)
  have i40 : ¬ (4 : Int32) = 0 := by decide
  have i41 : ¬ (4 : Int32) = 1 := by decide
  have i42 : ¬ (4 : Int32) = 2 := by decide
  have i43 : ¬ (4 : Int32) = 3 := by decide
  have er := h6.2 (p % 10) hpm
  have rg3 := hrd _ (getD_mem hpm)
  refine ⟨⟨x_efb h2 hg (fun s hs => bR_o (bNo_o (M := M) h3' hpn hs).1) (fun s t k hs ht hk => ?_), fun e he => ?_⟩, ?_⟩
  · obtain ⟨f1, f2, f3, f4⟩ := x_fan hv hO hg1 hg hpn hs
    have hb := (bNo_o (M := M) h3' hpn hs).2
    have eh : L_X12_hasEdge (nI p) (nI s) (nI t) (nI k) τ = if s = rd.getD (p % 10) 0 then (if t = 0 then (if k < v.2 (p / 10 * g + s + 1) - v.2 (p / 10 * g + s) then some 1 else some (-1)) else some (-1)) else some (-1) := by
      unfold L_X12_hasEdge
      rw [bnd_s, h1, if_neg i40, if_neg i41, if_neg i42, if_neg i43, c1, inb_n (by omega) (by omega), grd_s, nI_clamp (by omega), er, c2]
      by_cases d : s = rd.getD (p % 10) 0
      · have dd : nI s = nI (rd.getD (p % 10) 0) := congrArg nI d
        rw [if_pos dd, if_pos d]
        by_cases c : t = 0
        · rw [if_pos ((nI_k0 (by omega)).mpr c), if_pos c, f1, bd_s]
          by_cases d : k < v.2 (p / 10 * g + s + 1) - v.2 (p / 10 * g + s)
          · rw [if_pos d, if_neg (nI_ge d (by omega))]
          · rw [if_neg d, if_pos (nI_le (by omega) (by omega))]
        · rw [if_neg (fun q => c ((nI_k0 (by omega)).mp q)), if_neg c]
      · rw [if_neg (fun q => d (nI_ij (by omega) (by omega) q)), if_neg d]
    rw [eh]
    by_cases d : s = rd.getD (p % 10) 0
    · have eb : bR (bNo v g) rd p s = ([0], v.2 (p / 10 * g + s + 1) - v.2 (p / 10 * g + s), fun _ k => 10 * zT v.1 (v.2 (p / 10 * g + s) + k) + (p % 10 + 1) % rd.length) := if_pos d
      rw [if_pos d, eb]
      by_cases c : t = 0
      · rw [if_pos c]
        by_cases d : k < v.2 (p / 10 * g + s + 1) - v.2 (p / 10 * g + s)
        · rw [if_pos d]
          exact ⟨1, rfl, Or.inl ⟨rfl, by rw [c]; exact List.mem_singleton.mpr rfl, d⟩⟩
        · rw [if_neg d]
          exact ⟨-1, rfl, Or.inr (Or.inr ⟨rfl, fun q => d q.2, fun u hu => by
            have hu : u ∈ [0] := hu
            rw [List.mem_singleton.mp hu]; exact Nat.not_lt_zero _⟩)⟩
      · rw [if_neg c]
        exact ⟨-1, rfl, Or.inr (Or.inr ⟨rfl, fun q => c (by
          have q1 : t ∈ [0] := q.1
          exact List.mem_singleton.mp q1), fun u hu => by
            have hu : u ∈ [0] := hu
            rw [List.mem_singleton.mp hu]; exact Nat.not_lt_zero _⟩)⟩
    · have eb : bR (bNo v g) rd p s = ([], 0, fun _ _ => 0) := if_neg d
      rw [if_neg d, eb]
      exact ⟨-1, rfl, Or.inr (Or.inr ⟨rfl, fun z => (nomatch z.1), fun u hu => nomatch hu⟩)⟩
  · obtain ⟨s, t, k, q1, q2, q3, q4⟩ := elB_mem.mp he
    by_cases d : s = rd.getD (p % 10) 0
    · have eb : bR (bNo v g) rd p s = ([0], v.2 (p / 10 * g + s + 1) - v.2 (p / 10 * g + s), fun _ k => 10 * zT v.1 (v.2 (p / 10 * g + s) + k) + (p % 10 + 1) % rd.length) := if_pos d
      rw [eb] at q2 q3 q4
      have t0 := List.mem_singleton.mp (show t ∈ [0] from q2)
      have q3 : k < v.2 (p / 10 * g + s + 1) - v.2 (p / 10 * g + s) := q3
      have hb := (bNo_o (M := M) h3' hpn q1).2
      obtain ⟨d1, d2, d3⟩ := cur_d (s := s) (t := t) (k := k) (by omega) (by omega) (by omega)
      rw [q4]
      unfold L_X12_goesBy
      simp only [bnd_s]
      rw [h1, if_neg i40, if_neg i41, if_neg i42, if_neg i43, d1, d3, c1, c2, x_eAt hv hO hg1 hg hpn q1 q3, bd_s, h7, show (!decide (nI rd.length = (0 : Int32))) = true by rw [decide_eq_false (fun z => by have := (nI_k0 (by omega)).mp z; omega)]; rfl, grd_s, x_mod1 hm1 hm, show (10 : Int32) = nI 10 from rfl, nI_mul, nI_add]
    · have eb : bR (bNo v g) rd p s = ([], 0, fun _ _ => 0) := if_neg d
      rw [eb] at q2
      exact nomatch q2
  · unfold L_X12_isMarked
    rw [bnd_s, h1, if_neg i40, if_neg i41, if_neg i42, if_neg i43, c2, x_fin hv.1 hpn, bd_s]
    cases nfin (zX v.1 (p / 10))
    · rfl
    · rfl
/-! the states behind a stem -/
theorem aft_tb {M : aM} {t c x : Nat} : (aft M t c).testBit x = true ↔ ∃ f, f < 4 ∧ t.testBit f = true ∧ (mE M c f).testBit x = true := by
  constructor
  · exact aftN_tb 4
  · rintro ⟨f, f1, f2, f3⟩
    have key : ∀ n, f < n → (aftN M t c n).testBit x = true := by
      intro n
      induction n with
      | zero => intro h; exact absurd h (Nat.not_lt_zero _)
      | succ n ih =>
        intro h
        rw [aftN]
        by_cases e : f = n
        · rw [if_pos (by rw [← e]; exact f2), Nat.testBit_or, ← e, f3, Bool.or_true]
        · have := ih (by omega)
          split
          · rw [Nat.testBit_or, this]; rfl
          · exact this
    exact key 4 f1
theorem aloN_tb {g : Nat} {M : aM} {u : List Nat} (hM : mOk g M) {s : Nat} : ∀ (n j t : Nat), j + n = u.length → t < 16 → ((aloN M u n j t).testBit s = true ↔ ∃ f, t.testBit f = true ∧ pth (G0 M g) (u.drop j) f s) := by
  intro n
  induction n with
  | zero =>
    intro j t hj ht
    rw [List.drop_eq_nil_of_le (by omega)]
    exact ⟨fun h => ⟨s, h, rfl⟩, fun ⟨f, f1, f2⟩ => by have f2 : f = s := f2; rw [← f2]; exact f1⟩
  | succ n ih =>
    intro j t hj ht
    have hj' : j < u.length := by omega
    have dr : u.drop j = u.getD j 0 :: u.drop (j + 1) := by
      rw [List.drop_eq_getElem_cons hj', List.getD_eq_getElem?_getD, List.getElem?_eq_getElem hj']
      rfl
    rw [aloN, ih (j + 1) _ (by omega) (aft_16 hM _ _), dr]
    constructor
    · rintro ⟨x, x1, x2⟩
      obtain ⟨f, f1, f2, f3⟩ := aft_tb.mp x1
      have p4 : 2 ^ mN M ≤ 2 ^ 4 := Nat.pow_le_pow_right (by decide) hM.2.1
      have x4 := tb_lt (Nat.lt_of_lt_of_le (hM.2.2.2.2.1 (u.getD j 0) f) p4) f3
      exact ⟨f, f2, x, bSt_mem.mpr ⟨x4, f3⟩, x2⟩
    · rintro ⟨f, f2, x, x1, x2⟩
      have f4 : f < 4 := tb_lt (n := 4) ht f2
      exact ⟨x, aft_tb.mpr ⟨f, f4, f2, (bSt_mem.mp x1).2⟩, x2⟩
theorem alo_frm {g : Nat} {M : aM} {u : List Nat} (hM : mOk g M) {s : Nat} : (alo M u (mB M)).testBit s = true ↔ frm (G0 M g) u s := by
  have p4 : 2 ^ mN M ≤ 2 ^ 4 := Nat.pow_le_pow_right (by decide) hM.2.1
  have hB := hM.2.2.1
  unfold alo
  rw [aloN_tb hM u.length 0 (mB M) (by omega) (by omega), List.drop_zero]
  constructor
  · rintro ⟨f, f1, f2⟩
    exact ⟨f, tb_lt hB f1, f1, f2⟩
  · rintro ⟨f, -, f1, f2⟩
    exact ⟨f, f1, f2⟩
theorem x_b9 {A : aS} {σ : sS} {F i G : Nat} {u : List Nat} (hF : 4 < F) (h : R0 A σ) (hi : i < aC A) (hu : rRw 139 u σ) (hG : ∀ x ∈ u, x < G) (hG3 : G ≤ 3) (h41 : vI σ 90 41 = nI u.length) (kx : Int32 → Option sS) : ∀ (n j f t : Nat), j + n = u.length → n < f → t < 2 ^ mN (aMa A i) → L_X12_begunStates_9 F (nI i) σ kx f (nI t) (nI j) = kx (nI (aloN (aMa A i) u n j t)) := by
  have hm := (h.m hi).1
  have hb := b_pw _ hm.2.1
  intro n
  induction n with
  | zero =>
    intro j f t hj hf ht
    obtain ⟨f, rfl⟩ : ∃ g, f = g + 1 := ⟨f - 1, by omega⟩
    have := hu.1
    rw [L_X12_begunStates_9, h41, if_pos (nI_le (by omega) (by omega))]
    rfl
  | succ n ih =>
    intro j f t hj hf ht
    obtain ⟨f, rfl⟩ : ∃ g, f = g + 1 := ⟨f - 1, by omega⟩
    have := hu.1
    have hc := gD_lt hG (j := j) (by omega)
    rw [L_X12_begunStates_9, h41, if_neg (nI_ge (by omega) (by omega)), inb_n (by omega) (by omega), grd_s, nI_clamp (by omega), hu.2 j (by omega), x_afterOf hF h hi (by omega) (by omega), bd_s, nI_1, ih (j + 1) f _ (by omega) (by omega) (aft_lt hm _ _)]
    rfl
theorem x_b43 {X F : Nat} (hX : X < 16) : ∀ (k i n : Nat) (S : bS) (τ : sS), i + k = 4 → k < n → rBf S τ → ∃ υ S', (∀ kx, L_X12_begunStates_43 F (nI X) kx n (nI i) τ = kx υ) ∧ rBf S' υ ∧ (∀ x, x ∈ S'.1 ↔ x ∈ S.1 ∨ ∃ u, i ≤ u ∧ u < 4 ∧ X.testBit u = true ∧ x = 10 * u) ∧ fm wM wK τ υ := by
  intro k
  induction k with
  | zero =>
    intro i n S τ hi hn hR
    obtain ⟨n', rfl⟩ : ∃ n', n = n' + 1 := ⟨n - 1, by omega⟩
    refine ⟨τ, S, fun kx => ?_, hR, fun x => ⟨Or.inl, fun q => q.elim id (fun ⟨u, a, b, _⟩ => by omega)⟩, fm.rf⟩
    rw [L_X12_begunStates_43, if_pos (by rw [show i = 4 by omega]; decide)]
  | succ k ih =>
    intro i n S τ hi hn hR
    obtain ⟨n', rfl⟩ : ∃ n', n = n' + 1 := ⟨n - 1, by omega⟩
    have head : ∀ kx, L_X12_begunStates_43 F (nI X) kx (n' + 1) (nI i) τ = if X.testBit i = true then (bd (L_X12_meets (nI (10 * i)) (-1) (-1) τ) (fun σ8 => L_X12_begunStates_43 F (nI X) kx n' (nI (i + 1)) σ8)) else (L_X12_begunStates_43 F (nI X) kx n' (nI (i + 1)) τ) := by
      intro kx
      rw [L_X12_begunStates_43, if_neg (show ¬ (4 : Int32) ≤ nI i from nI_ge (b := 4) (by omega) (by decide)), b_bit _ hX i (by omega), nI_1, show (10 : Int32) = nI 10 from rfl, nI_mul]
      by_cases d : X.testBit i = true
      · rw [if_pos d, if_pos d, if_pos rfl]
      · rw [if_neg d, if_neg d, if_neg (by decide)]
    by_cases d : X.testBit i = true
    · obtain ⟨υ1, m1, m2, m3⟩ := x_meets hR (x := 10 * i) (by omega) none
      have m1 : L_X12_meets (nI (10 * i)) (-1) (-1) τ = some υ1 := m1
      obtain ⟨υ, S', r1, r2, r3, r4⟩ := ih (i + 1) n' _ υ1 (by omega) (by omega) m2
      refine ⟨υ, S', fun kx => ?_, r2, fun x => (r3 x).trans ?_, m3.tr r4⟩
      · rw [head, if_pos d, m1, bd_s]
        exact r1 kx
      · constructor
        · rintro (q | ⟨u, u1, u2, u3⟩)
          · rcases bm_m q with z | z
            · exact Or.inl z
            · exact Or.inr ⟨i, by omega, by omega, d, z⟩
          · exact Or.inr ⟨u, by omega, u2, u3⟩
        · rintro (q | ⟨u, u1, u2, u3, u4⟩)
          · exact Or.inl (bX_bm.m q)
          · by_cases e : u = i
            · rw [e] at u4; rw [u4]; exact Or.inl bm_in.1
            · exact Or.inr ⟨u, by omega, u2, u3, u4⟩
    · obtain ⟨υ, S', r1, r2, r3, r4⟩ := ih (i + 1) n' S τ (by omega) (by omega) hR
      refine ⟨υ, S', fun kx => ?_, r2, fun x => (r3 x).trans ?_, r4⟩
      · rw [head, if_neg d]
        exact r1 kx
      · constructor
        · rintro (q | ⟨u, u1, u2, u3⟩)
          · exact Or.inl q
          · exact Or.inr ⟨u, by omega, u2, u3⟩
        · rintro (q | ⟨u, u1, u2, u3, u4⟩)
          · exact Or.inl q
          · refine Or.inr ⟨u, ?_, u2, u3, u4⟩
            refine Nat.lt_of_le_of_ne u1 (fun e => d (by rw [e]; exact u3))
def ikM : List Nat := [149, 150, 151, 152, 154, 155, 156, 157, 158, 159, 160, 164, 165]
def ikK : List Nat := [53, 61, 62, 63, 37, 38]
/-- is a word taken by an automaton? -/
theorem x_isTk0 {A : aS} {σ : sS} {F i : Nat} {w rd : List Nat} (hF : 40000000 < F) (h : R0 A σ) (hi : i < aC A) (hw : rRw 139 w σ) (hwg : ∀ x ∈ w, x < aG A) (h41 : vI σ 90 41 = nI w.length) (hr : rRw 140 rd σ) (hrg : ∀ x ∈ rd, x < aG A) (h42 : vI σ 90 42 = nI rd.length) (hm1 : 1 ≤ rd.length) : ∃ τ, L_X12_isTaken F (nI i) 0 σ = some (tkv (G0 (aMa A i) (aG A)) w rd, τ) ∧ fm ikM ikK σ τ := by
  have h3 := h.c.1
  have hg := h.c.2
  have hm := h.m hi
  have hT := G0_ok hm.1 hg
  have p4 : 2 ^ mN (aMa A i) ≤ 2 ^ 4 := Nat.pow_le_pow_right (by decide) hm.1.2.1
  have hB := hm.1.2.2.1
  have hN4 := hm.1.2.1
  have f0 : fm [] [38] σ (uI σ 90 38 (nI i)) := fm.uI (Or.inr ⟨rfl, by decide⟩)
  obtain ⟨υ1, n1, n2, n3⟩ := x_meetsNone (F := F) (by omega) (uI σ 90 38 (nI i))
  have f1 : fm wM (38 :: wK) σ υ1 := (f0.mo (fun _ q => nomatch q) (by decide)).tr (n3.mo (fun _ q => q) (by decide))
  have R1 : R0 A υ1 := h.keep f1 (by decide) (by decide) (by decide)
  have w1 : rRw 139 w υ1 := ⟨hw.1, fun j hj => (f1.r (by decide) (by decide)).trans (hw.2 j hj)⟩
  have e9 := x_b9 (F := F) (by omega) R1 hi w1 hwg hg ((f1.f (by decide) (by decide)).trans h41) (fun yq3 => bnd (uI υ1 90 37 3) (fun σ4 => L_X12_begunStates_43 F yq3 (fun σ5 => some σ5) F 0 σ4)) w.length 0 F (mB (aMa A i)) (by omega) (by have := hw.1; omega) hB
  have hX : alo (aMa A i) w (mB (aMa A i)) < 16 := Nat.lt_of_lt_of_le (aloN_lt hm.1 w w.length 0 _ hB) p4
  have f2 : fm [] [37] υ1 (uI υ1 90 37 3) := fm.uI (Or.inr ⟨rfl, by decide⟩)
  obtain ⟨υ2, S0, b1, b2, b3, b4⟩ := x_b43 (F := F) hX 4 0 F ([], fun _ => none) (uI υ1 90 37 3) (by omega) (by omega) (n2.g f2 (fun _ _ q => nomatch q) (by decide))
  have g3 : rG3 (aMa A i) (aG A) i rd υ2 := by
    refine rG3.f (τ := uI υ1 90 37 3) ⟨vI_e, ?_, ?_, ?_, fun s f hs hf => ?_, ⟨hr.1, fun j hj => ?_⟩, ?_⟩ b4
    · rw [vI_q (fun q => absurd q.2 (by decide)), n3.f (by decide) (by decide), vI_e]
    · exact (f2.f (by decide) (fun q => nomatch q)).trans R1.2.2.1.2.2.2.1
    · exact (f2.r (fun q => nomatch q) (by decide)).trans (R1.m hi).2.2.2.1
    · exact (f2.r (fun q => nomatch q) (by decide)).trans ((R1.m hi).2.2.2.2 s f hs hf)
    · exact (f2.r (fun q => nomatch q) (by decide)).trans ((f1.r (by decide) (by decide)).trans (hr.2 j hj))
    · exact (f2.f (by decide) (fun q => nomatch q)).trans ((f1.f (by decide) (by decide)).trans h42)
  have hSg : ∀ v s, v < GN (G0 (aMa A i) (aG A)) → s < GL (G0 (aMa A i) (aG A)) → GS (G0 (aMa A i) (aG A)) v s = gsB (bSt (aMa A i)) v s := fun _ _ _ _ => rfl
  have hO := bR_bO (rd := rd) hT.1 (by show mN (aMa A i) ≤ 300; omega) hr.1 hSg (fun v s _ _ => bSt_o _ v s) hrg
  have mem : ∀ x, x ∈ S0.1 ↔ ∃ u, frm (G0 (aMa A i) (aG A)) w u ∧ x = 10 * u := fun x => (b3 x).trans ⟨fun q => q.elim (fun z => nomatch z) (fun ⟨u, _, _, u3, u4⟩ => ⟨u, (alo_frm hm.1).mp u3, u4⟩), fun ⟨u, u3, u4⟩ => Or.inr ⟨u, Nat.zero_le _, by have : u < mN (aMa A i) := frm_n hT.1 hwg u3; omega, (alo_frm hm.1).mpr u3, u4⟩⟩
  obtain ⟨υ, t1, t2⟩ := x_tk25 (F := F) (mk := fun p => (mF (aMa A i)).testBit (p / 10)) hO (fun ω f p hp => (x_G3 hm.1 hg (by omega) hrg hm1 (g3.f f) hp).1) (fun ω f p hp => (x_G3 hm.1 hg (by omega) hrg hm1 (g3.f f) hp).2) hF b2 (fun x hx => by
    obtain ⟨u, u1, u2⟩ := (mem x).mp hx
    have : u < mN (aMa A i) := frm_n hT.1 hwg u1
    rw [u2]
    exact ⟨by show 10 * u / 10 < mN (aMa A i); omega, by omega⟩)
  refine ⟨υ, ?_, ?_⟩
  · unfold L_X12_isTaken
    rw [bnd_s, n1, bd_s, if_pos rfl]
    unfold L_X12_begunStates
    have e9 : L_X12_begunStates_9 F (nI i) υ1 (fun yq3 => bnd (uI υ1 90 37 3) (fun σ4 => L_X12_begunStates_43 F yq3 (fun σ5 => some σ5) F 0 σ4)) F (nI (mB (aMa A i))) 0 = bnd (uI υ1 90 37 3) (fun σ4 => L_X12_begunStates_43 F (nI (alo (aMa A i) w (mB (aMa A i)))) (fun σ5 => some σ5) F 0 σ4) := e9
    have b1 : L_X12_begunStates_43 F (nI (alo (aMa A i) w (mB (aMa A i)))) (fun σ5 => some σ5) F 0 (uI υ1 90 37 3) = some υ2 := b1 _
    rw [inb_n (by omega) (by omega), grd_s, bnd_s, nI_clamp (by omega), (R1.m hi).2.2.1, e9, bnd_s, b1, bd_s, t1]
    congr 2
    unfold tkv
    have ee : (∃ f, f ∈ S0.1 ∧ gdP (esc (elB (bR (bSt (aMa A i)) rd) (aG A))) (fun p => (mF (aMa A i)).testBit (p / 10)) f) ↔ tak (G0 (aMa A i) (aG A)) w rd := by
      constructor
      · rintro ⟨f, f1, f2⟩
        obtain ⟨u, u1, u2⟩ := (mem f).mp f1
        have hu : u < mN (aMa A i) := frm_n hT.1 hwg u1
        rw [u2] at f2
        exact ⟨u, hu, u1, (rGd_r (b := bSt (aMa A i)) hT.1 (by show mN (aMa A i) ≤ 300; omega) hr.1 hm1 hSg hrg hu).mpr f2⟩
      · rintro ⟨u, hu, u1, u2⟩
        exact ⟨10 * u, (mem _).mpr ⟨u, u1, rfl⟩, (rGd_r (b := bSt (aMa A i)) hT.1 (by show mN (aMa A i) ≤ 300; omega) hr.1 hm1 hSg hrg hu).mp u2⟩
    by_cases c : tak (G0 (aMa A i) (aG A)) w rd
    · rw [if_pos (bP_t.mpr c)]
      exact if_pos (bP_t.mpr (ee.mpr c))
    · rw [if_neg (fun q => c (bP_t.mp q))]
      exact if_neg (fun q => c (ee.mp (bP_t.mp q)))
  · exact ((f1.mo (by decide) (by decide)).tr (f2.mo (fun _ q => nomatch q) (by decide))).tr ((b4.tr t2).mo (by decide) (by decide))
