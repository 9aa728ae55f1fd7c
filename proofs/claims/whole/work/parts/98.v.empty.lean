/-! empty, all: what they answer; the component -/
def aSet (A : aS) (o : Option (List Nat × List Nat)) : aS := (A.1, A.2.1, A.2.2.1, (o, aTh A))
noncomputable def shA (A : aS) (o : Option (List Nat × List Nat)) : Int32 × aS := aGood (aSet A o) (if o.isSome = true then 0 else 1)
noncomputable def sp_empty (A : aS) (a : Int32) : Int32 × aS := if aOk (aC A) a = true then shA A (gSh (G0 (aMa A a.toNatClampNeg) (aG A)) (elB (bSt (aMa A a.toNatClampNeg)) (aG A))) else aRef A 1
noncomputable def sp_all (A : aS) (a : Int32) : Int32 × aS := if aOk (aC A) a = true then (match cpl (aMa A a.toNatClampNeg) (aG A) with
  | none => aRef A 3
  | some v => shA A (gSh (G1 v (aG A)) (elB (bNo v (aG A)) (aG A)))) else aRef A 1
theorem CI.j {B : cB} {A : aS} {σ τ : sS} {o : Option (List Nat × List Nat)} (h : CI B A σ) (v : ∀ b j, (b < 15 ∨ (26 < b ∧ b < 45)) → vI τ b j = vI σ b j) (c : ∀ b, (b < 17 ∨ (26 < b ∧ b < 33)) → vC τ b = vC σ b) (hR : Rm B.1 τ) (hs : cShw o τ) (hK : K9 B.2 τ) : CI B (aSet A o) τ := by
  obtain ⟨⟨⟨t1, t2, t3, t4⟩, ⟨a1, a2, a3, a4, a5⟩, ⟨m1, m2, m3, m4, m5⟩, -⟩, ⟨⟨i1, i2, i3⟩, ⟨i4, i5⟩, i6⟩, -, hc, -⟩ := h
  refine ⟨⟨⟨t1, (v _ _ (by omega)).trans t2, fun j hj => (v _ _ (by omega)).trans (t3 j hj), (c _ (by omega)).trans t4⟩, ⟨(v _ _ (by omega)).trans a1, (v _ _ (by omega)).trans a2, fun q => (v _ _ (by omega)).trans (a3 q), a4, (v _ _ (by omega)).trans a5⟩, ⟨m1, m2, (v _ _ (by omega)).trans m3, fun a ha => (c _ (by omega)).trans (m4 a ha), fun a ha => ?_⟩, hs⟩, ⟨⟨fun a ha => (c _ (by omega)).trans (i1 a ha), by rw [c 4 (by omega)]; exact i2, by rw [c 5 (by omega)]; exact i3⟩, ⟨(c _ (by omega)).trans i4, (c _ (by omega)).trans i5⟩, (c _ (by omega)).trans i6⟩, hR, fun i hi => ?_, hK⟩
  · have ha3 : a < 3 := by have : a < aC A := ha; omega
    obtain ⟨n0, n1, n2, n3, n4, n5⟩ := m5 a ha
    exact ⟨n0, (v _ _ (by omega)).trans n1, (v _ _ (by omega)).trans n2, (v _ _ (by omega)).trans n3, (v _ _ (by omega)).trans n4, fun s f hs hf => (v _ _ (by omega)).trans (n5 s f hs hf)⟩
  · have hi3 : i < 3 := by have : i < aC A := hi; omega
    rcases hc i hi with q | q
    · exact Or.inl ((v _ _ (by omega)).trans q)
    · refine Or.inr ?_
      show cCpl (33 + i) (aMa A i) (aG A) τ
      unfold cCpl at q ⊢
      cases hq : cpl (aMa A i) (aG A) with
      | none => rw [hq] at q; exact (v _ _ (by omega)).trans q
      | some z =>
        rw [hq] at q
        obtain ⟨b1, b2, b3, b4, b5⟩ := q
        exact ⟨(v _ _ (by omega)).trans b1, (v _ _ (by omega)).trans b2, fun n hn => (v _ _ (by omega)).trans (b3 n hn), fun j hj => (v _ _ (by omega)).trans (b4 j hj), fun j hj => (v _ _ (by omega)).trans (b5 j hj)⟩
theorem CI.jr {B : cB} {A : aS} {σ τ : sS} {o : Option (List Nat × List Nat)} (h : CI B A σ) (j : jrl σ τ) (hR : Rm B.1 τ) (hs : cShw o τ) : CI B (aSet A o) τ := h.j (fun b k hb => by rw [(j.1 b (by omega)).1]) (fun b hb => (j.1 b (by omega)).2.2) hR hs (h.2.2.2.2.c (fun a k ha => by rw [(j.1 a (by omega)).1]) (fun k => by unfold vR; rw [j.2.2]))
theorem shA_y {B : cB} {A : aS} {o : Option (List Nat × List Nat)} {r : Int32 × sS} (h1 : r.1 = if o.isSome = true then 1 else 0) (h2 : CI B (aSet A o) r.2) : yCI B (shA A o) (if r.1 = 0 then (bd2 (L_X11_answer 1 r.2) (fun rq13 σ14 => some ((rq13, σ14)))) else (bd2 (L_X11_answer 0 r.2) (fun rq16 σ17 => some ((rq16, σ17))))) := by
  unfold shA
  rw [h1]
  by_cases c : o.isSome = true
  · rw [if_pos c, if_pos c, if_neg (by decide)]
    exact yCI.g h2 0
  · rw [if_neg c, if_neg c, if_pos rfl]
    exact yCI.g h2 1
theorem y_empty {B : cB} {A : aS} {σ : sS} (h : CI B A σ) (a : Int32) : yCI B (sp_empty A a) (L_X11_empty a σ) := by
  have h3 := h.1.c.1
  have hg := h.1.c.2
  unfold L_X11_empty sp_empty
  rw [y_at h.1]
  by_cases ha : aOk (aC A) a = true
  · obtain ⟨i, hi, rfl⟩ := aOk_t ha (by omega)
    rw [if_pos ha, if_pos ha]
    simp only [bnd_s]
    rw [nI_clamp (by omega), isAu_n (by omega), grd_s]
    have hm := h.1.m hi
    have eN : nV (m_V (27 + i)) σ = mN (aMa A i) := by
      unfold nV
      rw [show m_V (27 + i) σ [] = nI (mN (aMa A i)) from hm.2.1, nI_clamp (by have := hm.1.2.1; omega)]
    have hT := G0_ok hm.1 hg
    have S := y_show (B := B.1) (σ := σ) (fV := m_V (27 + i)) (fF := m_F (27 + i)) (fL := h_L (27 + i)) (fN := m_N (27 + i)) (fE := m_E (27 + i) (mN (aMa A i))) (fM := m_M (27 + i)) hT (fun τ j => y_G0 (i := i) ⟨hm.1, by rw [(j.1 (27 + i) (by omega)).1]; exact hm.2.1, by rw [(j.1 (27 + i) (by omega)).1]; exact hm.2.2.1, by rw [(j.1 (27 + i) (by omega)).1]; exact hm.2.2.2.1, by rw [(j.1 (27 + i) (by omega)).1]; exact hm.2.2.2.2.1, fun s f hs hf => by rw [(j.1 (30 + i) (by omega)).1]; exact hm.2.2.2.2.2 s f hs hf⟩ hg) h.2.2.1
    obtain ⟨s1, s2, s3, s4, s5⟩ := S
    have e : L_sh0 (27 + i) σ = some (Sh_r (m_V (27 + i)) (m_F (27 + i)) (h_L (27 + i)) (m_N (27 + i)) (m_E (27 + i) (mN (aMa A i))) (m_M (27 + i)) σ) := by
      unfold L_sh0
      rw [eN]
      exact grP_t ⟨hm.1.2.1, _, s1⟩
    rw [e]
    show yCI B _ (if (Sh_r (m_V (27 + i)) (m_F (27 + i)) (h_L (27 + i)) (m_N (27 + i)) (m_E (27 + i) (mN (aMa A i))) (m_M (27 + i)) σ).1 = 0 then _ else _)
    exact shA_y s2 (h.jr s4 s5 s3)
  · rw [if_neg ha, if_neg ha]
    exact yCI.r h 1 (by decide)
theorem y_allC {B : cB} {A : aS} {σ : sS} (h : CI B A σ) (a : Int32) : yCI B (sp_all A a) (L_X11_all a σ) := by
  have h3 := h.1.c.1
  have hg := h.1.c.2
  unfold L_X11_all sp_all
  rw [y_at h.1]
  by_cases ha : aOk (aC A) a = true
  · obtain ⟨i, hi, rfl⟩ := aOk_t ha (by omega)
    rw [if_pos ha, if_pos ha]
    simp only [bnd_s]
    rw [nI_clamp (by omega), isCo_n (by omega), grd_s]
    rcases y_std h hi with ⟨hq, τ, t1, t2, -⟩ | ⟨v, τ, hq, t1, t2, t3, t4, -⟩
    · rw [hq, t1, bd2_s, if_pos rfl]
      exact yCI.r t2 3 (by decide)
    · rw [hq, t1, bd2_s, if_neg i1n0]
      have hm := t2.1.m hi
      have c3 := cpl_3 hm.1 hg hq
      have hT := G1_ok t4 c3 hg
      have S := y_show (B := B.1) (σ := τ) (fV := n_V (33 + i)) (fF := n_F) (fL := n_L (33 + i)) (fN := n_N (33 + i)) (fE := n_E (33 + i)) (fM := n_M (33 + i)) hT (fun υ j => y_G1 (M := aMa A i) (c := 33 + i) ⟨by rw [(j.1 (33 + i) (by omega)).1]; exact t3.1, fun n hn => by rw [(j.1 (33 + i + 3) (by omega)).1]; exact t3.2.1 n hn, fun k hk => by rw [(j.1 (33 + i + 9) (by omega)).1]; exact t3.2.2.1 k hk, fun k hk => by rw [(j.1 (33 + i + 6) (by omega)).1]; exact t3.2.2.2 k hk⟩ t4 c3 hg (by
        rw [show 33 + i - 6 = 27 + i by omega, (j.1 (27 + i) (by omega)).1]; exact hm.2.2.1)) t2.2.2.1
      obtain ⟨s1, s2, s3, s4, s5⟩ := S
      have e : L_sh1 (33 + i) τ = some (Sh_r (n_V (33 + i)) n_F (n_L (33 + i)) (n_N (33 + i)) (n_E (33 + i)) (n_M (33 + i)) τ) := by
        unfold L_sh1
        exact grP_t ⟨_, s1⟩
      rw [e]
      show yCI B _ (if (Sh_r (n_V (33 + i)) n_F (n_L (33 + i)) (n_N (33 + i)) (n_E (33 + i)) (n_M (33 + i)) τ).1 = 0 then _ else _)
      exact shA_y s2 (t2.jr s4 s5 s3)
  · rw [if_neg ha, if_neg ha]
    exact yCI.r h 1 (by decide)
/-! the reference -/
theorem RI.sh {A : aS} {σ τ : sS} {o : Option (List Nat × List Nat)} (h : RI A σ) (f : fm shM shK σ τ) (hs : rShw o τ) : RI (aSet A o) τ := by
  obtain ⟨⟨⟨t1, t2, t3⟩, ⟨a1, a2, a3, a4⟩, ⟨m1, m2, m3, m4, m5⟩, -⟩, hB⟩ := h
  have k : ∀ {i : Nat}, i ∈ [1, 2, 4, 7, 19, 20, 70] → vI τ 90 i = vI σ 90 i := fun hi => f.f (fun q => (by decide : ∀ i ∈ [1, 2, 4, 7, 19, 20, 70], i ∉ shK) _ hi q) (by decide)
  have r : ∀ {a j : Nat}, a ∈ [103, 114, 115, 116, 117] → a ≠ 90 → vI τ a j = vI σ a j := fun ha h => f.r (fun q => (by decide : ∀ a ∈ [103, 114, 115, 116, 117], a ∉ shM) _ ha q) h
  refine ⟨⟨⟨t1, (k (by decide)).trans t2, fun j hj => (r (by decide) (by decide)).trans (t3 j hj)⟩, ⟨(k (by decide)).trans a1, (k (by decide)).trans a2, (k (by decide)).trans a3, (k (by decide)).trans a4⟩, ⟨m1, m2, (k (by decide)).trans m3, (k (by decide)).trans m4, fun a ha => ?_⟩, hs⟩, hB.f f (by decide) (by decide) (by decide) rfl⟩
  obtain ⟨n0, n1, n2, n3, n4⟩ := m5 a ha
  exact ⟨n0, (r (by decide) (by decide)).trans n1, (r (by decide) (by decide)).trans n2, (r (by decide) (by decide)).trans n3, fun s f hs hf => (r (by decide) (by decide)).trans (n4 s f hs hf)⟩
theorem shA_x {A : aS} {o : Option (List Nat × List Nat)} {r : Int32} {τ : sS} (h1 : r = if o.isSome = true then 1 else 0) (h2 : RI (aSet A o) τ) : xRI (shA A o) (if r = 0 then (bd2 (L_X12_good 1 τ) (fun rq13 σ14 => some ((rq13, σ14)))) else (bd2 (L_X12_good 0 τ) (fun rq16 σ17 => some ((rq16, σ17))))) := by
  unfold shA
  rw [h1]
  by_cases c : o.isSome = true
  · rw [if_pos c, if_pos c, if_neg (by decide)]
    exact xRI.g h2 0
  · rw [if_neg c, if_neg c, if_pos rfl]
    exact xRI.g h2 1
/-- all is met, and shown (a graph that stays) -/
theorem x_shG {G : gG} {el : Nat → List (Nat × Nat)} {τ : sS} {F : Nat} (hT : gTie G el) (hE : ∀ υ, fm shM shK τ υ → ∀ p, gV G p → rEd el p υ ∧ ∀ e, e ∈ el p → L_X12_goesBy (nI p) (nI e.1) υ = some (nI e.2, υ)) (hM : ∀ υ, fm shM shK τ υ → ∀ v, gV G v → L_X12_isMarked (nI v) υ = some (if GM G v = true then 1 else 0)) (hF : 40000000 < F) (hB : rBf (bI (GF G) (GN G) 0 bS0) τ) : ∃ υ1 υ, L_X12_meetsAll F τ = some υ1 ∧ L_X12_shows F υ1 = some (if (gSh G el).isSome = true then 1 else 0, υ) ∧ rShw (gSh G el) υ ∧ fm shM shK τ υ := by
  obtain ⟨T1, T2, T3⟩ := gT_ok hT
  obtain ⟨hG, h10, hO, hel⟩ := hT
  obtain ⟨k1, k2⟩ := bI_ok (p := GF G) (GN G) 0 bS0 bK_0 (by have := hG.1; omega)
  have hV : ∀ x, x ∈ (bI (GF G) (GN G) 0 bS0).1 → gV G x := fun x hx => by
    rcases k2 x hx with q | q
    · exact nomatch q
    · exact ⟨by omega, x, by omega, q.1, rch.rf⟩
  have hJ : bJ (gV G) el (fun S υ => fm shM shK τ υ ∧ ∀ x, x ∈ S.1 → gV G x) := by
    refine ⟨hO, fun S υ ω h f => ⟨h.1.tr (f.mo (by decide) (by decide)), h.2⟩, fun S υ p h hp => (hE υ h.1 p (h.2 p hp)).1, fun S υ p e h hR hp he => ⟨υ, (hE υ h.1 p (h.2 p hp)).2 e he, hR, fun ω f => ⟨h.1.tr (f.mo (by decide) (by decide)), fun x hx => ?_⟩⟩⟩
    rcases bm_m hx with q | q
    · exact h.2 x q
    · rw [q]; exact ((hO.2 p (h.2 p hp)).2 e he).2
  obtain ⟨υ1, r1, r2, r3, r4⟩ := x_meetsAll hJ (F := F) (by omega) (S := bI (GF G) (GN G) 0 bS0) (τ := τ) ⟨fm.rf, hV⟩ hB hV
  obtain ⟨υ, s1, s2, s3⟩ := x_shows (F := F) (mk := GM G) hO T2 T3 (fun ω f => fun p hp => hE ω (r2.1.tr f) p (T2 p hp)) (fun ω f v hv => hM ω (r2.1.tr f) v (T2 v hv)) (fun x hx => Nat.lt_of_lt_of_le hx.1 h10) hF r3 T1
  exact ⟨υ1, υ, r1, s1, s2, r2.1.tr s3⟩
/-! the reference's graph of states -/
def rG0 (M : aM) (g a : Nat) (τ : sS) : Prop := vI τ 90 37 = 0 ∧ vI τ 90 38 = nI a ∧ vI τ 90 19 = nI g ∧ vI τ 116 a = nI (mF M) ∧ ∀ s f, s < 4 → f < 4 → vI τ 117 (16 * a + 4 * s + f) = nI (mE M s f)
theorem rG0.f {M : aM} {g a : Nat} {τ υ : sS} (h : rG0 M g a τ) (f : fm shM shK τ υ) : rG0 M g a υ := by
  obtain ⟨h1, h2, h3, h4, h5⟩ := h
  exact ⟨(f.f (by decide) (by decide)).trans h1, (f.f (by decide) (by decide)).trans h2, (f.f (by decide) (by decide)).trans h3, (f.r (by decide) (by decide)).trans h4, fun s t hs ht => (f.r (by decide) (by decide)).trans (h5 s t hs ht)⟩
theorem x_eOf {M : aM} {a s p : Nat} {τ : sS} (h : ∀ s f, s < 4 → f < 4 → vI τ 117 (16 * a + 4 * s + f) = nI (mE M s f)) (ha : a < 3) (hs : s < 3) (hp : p < 4) : L_X12_edgesOf (nI a) (nI s) (nI p) τ = some (nI (mE M s p)) := by
  unfold L_X12_edgesOf
  rw [show (16 : Int32) = nI 16 from rfl, show (4 : Int32) = nI 4 from rfl, nI_mul, nI_mul, nI_add, nI_add, inb_n (by omega) (by omega), grd_s, nI_clamp (by omega), h s p (by omega) hp]
theorem x_G0 {M : aM} {g a : Nat} {τ : sS} (hM : mOk g M) (hg : g ≤ 3) (ha : a < 3) (h : rG0 M g a τ) {p : Nat} (hp : p < mN M) : (rEd (elB (bSt M) g) p τ ∧ ∀ e, e ∈ elB (bSt M) g p → L_X12_goesBy (nI p) (nI e.1) τ = some (nI e.2, τ)) ∧ L_X12_isMarked (nI p) τ = some (if (mF M).testBit p = true then 1 else 0) := by
  obtain ⟨m1, m2, m3, m4, m5, m6⟩ := hM
  have p4 : 2 ^ mN M ≤ 2 ^ 4 := Nat.pow_le_pow_right (by decide) m2
  obtain ⟨h1, h2, h3, h4, h5⟩ := h
  refine ⟨⟨x_efb h3 hg (fun s _ => bSt_o M p s) (fun s t k hs ht hk => ?_), fun e he => ?_⟩, ?_⟩
  · have hX : mE M s p < 16 := Nat.lt_of_lt_of_le (m5 s p) p4
    have eh : L_X12_hasEdge (nI p) (nI s) (nI t) (nI k) τ = if k = 0 then some (if (mE M s p).testBit t = true then 1 else 0) else some 0 := by
      unfold L_X12_hasEdge
      rw [bnd_s, h1, if_pos rfl]
      by_cases c : k = 0
      · rw [if_pos ((nI_k0 (by omega)).mpr c), if_pos c, h2, x_eOf h5 ha (by omega) (by omega), bd_s, b_bit _ hX t ht]
      · rw [if_neg (fun q => c ((nI_k0 (by omega)).mp q)), if_neg c]
    rw [eh]
    by_cases c : k = 0
    · rw [if_pos c]
      by_cases d : (mE M s p).testBit t = true
      · rw [if_pos d]
        exact ⟨1, rfl, Or.inl ⟨rfl, sts_mem.mpr ⟨ht, d⟩, by show k < 1; omega⟩⟩
      · rw [if_neg d]
        exact ⟨0, rfl, Or.inr (Or.inl ⟨rfl, fun q => d (sts_mem.mp q.1).2⟩)⟩
    · rw [if_neg c]
      exact ⟨0, rfl, Or.inr (Or.inl ⟨rfl, fun q => by have : k < 1 := q.2; omega⟩)⟩
  · obtain ⟨s, t, k, q1, q2, q3, q4⟩ := elB_mem.mp he
    have q3 : k < 1 := q3
    obtain ⟨c1, c2, c3⟩ := cur_d (s := s) (t := t) (k := k) (by omega) (sts_mem.mp q2).1 (by omega)
    rw [q4]
    unfold L_X12_goesBy
    simp only [bnd_s]
    rw [h1, if_pos rfl, c2]
    rfl
  · unfold L_X12_isMarked
    rw [bnd_s, h1, if_pos rfl, h2, inb_n (by omega) (by omega), grd_s, nI_clamp (by omega), h4, b_bit _ (by omega) p (by omega)]
    by_cases d : (mF M).testBit p = true
    · rw [if_pos d, if_pos rfl]
    · rw [if_neg d, if_neg (by decide)]
/-- the first ones are met -/
theorem x_e35 {M : aM} {a F : Nat} (ha : a < 3) (hB : mB M < 16) : ∀ (k i n : Nat) (S : bS) (τ : sS), i + k = 4 → k < n → vI τ 115 a = nI (mB M) → rBf S τ → ∃ υ, (∀ kx, L_X12_empty_35 F (nI a) kx n (nI i) τ = kx υ) ∧ rBf (bI (fun v => (mB M).testBit v) k i S) υ ∧ fm wM wK τ υ := by
  intro k
  induction k with
  | zero =>
    intro i n S τ hi hn h hR
    obtain ⟨n', rfl⟩ : ∃ n', n = n' + 1 := ⟨n - 1, by omega⟩
    refine ⟨τ, fun kx => ?_, hR, fm.rf⟩
    rw [L_X12_empty_35, if_pos (by rw [show i = 4 by omega]; decide)]
  | succ k ih =>
    intro i n S τ hi hn h hR
    obtain ⟨n', rfl⟩ : ∃ n', n = n' + 1 := ⟨n - 1, by omega⟩
    have head : ∀ kx, L_X12_empty_35 F (nI a) kx (n' + 1) (nI i) τ = if (mB M).testBit i = true then (bd (L_X12_meets (nI i) (-1) (-1) τ) (fun σ13 => L_X12_empty_35 F (nI a) kx n' (nI (i + 1)) σ13)) else (L_X12_empty_35 F (nI a) kx n' (nI (i + 1)) τ) := by
      intro kx
      rw [L_X12_empty_35, if_neg (show ¬ (4 : Int32) ≤ nI i from nI_ge (b := 4) (by omega) (by decide)), inb_n (by omega) (by omega), grd_s, nI_clamp (by omega), h, b_bit _ hB i (by omega), nI_1]
      by_cases d : (mB M).testBit i = true
      · rw [if_pos d, if_pos d, if_pos rfl]
      · rw [if_neg d, if_neg d, if_neg (by decide)]
    rw [bI]
    by_cases d : (mB M).testBit i = true
    · obtain ⟨υ1, m1, m2, m3⟩ := x_meets hR (x := i) (by omega) none
      have m1 : L_X12_meets (nI i) (-1) (-1) τ = some υ1 := m1
      obtain ⟨υ, r1, r2, r3⟩ := ih (i + 1) n' _ υ1 (by omega) (by omega) ((m3.r (by decide) (by decide)).trans h) m2
      refine ⟨υ, fun kx => ?_, ?_, m3.tr r3⟩
      · rw [head, if_pos d, m1, bd_s]
        exact r1 kx
      · rw [if_pos d]; exact r2
    · obtain ⟨υ, r1, r2, r3⟩ := ih (i + 1) n' S τ (by omega) (by omega) h hR
      refine ⟨υ, fun kx => ?_, ?_, r3⟩
      · rw [head, if_neg d]
        exact r1 kx
      · rw [if_neg d]; exact r2
theorem bI_x {p : Nat → Bool} : ∀ (k i m : Nat) (S : bS), (∀ x, i + k ≤ x → p x = false) → bI p (k + m) i S = bI p k i S
  | 0, i, 0, S, _ => rfl
  | 0, i, m + 1, S, h => by
    show bI p (0 + (m + 1)) i S = S
    rw [Nat.zero_add, bI, if_neg (by rw [h i (by omega)]; decide)]
    have := bI_x 0 (i + 1) m S (fun x hx => h x (by omega))
    rw [Nat.zero_add] at this
    exact this
  | k + 1, i, m, S, h => by
    rw [show k + 1 + m = (k + m) + 1 by omega, bI, bI]
    exact bI_x k (i + 1) m _ (fun x hx => h x (by omega))
theorem x_empty {A : aS} {σ : sS} {F : Nat} (hF : 40000000 < F) (h : RI A σ) (a : Int32) : xRI (sp_empty A a) (L_X12_empty F a σ) := by
  have h := h.z 0
  have h3 := h.1.c.1
  have hg := h.1.2.2.1.2.1
  unfold L_X12_empty sp_empty
  simp only [bnd_s]
  rw [x_isAuto h.1, bd_s]
  generalize uI σ 90 0 0 = ρ at h ⊢
  by_cases ha : aOk (aC A) a = true
  · obtain ⟨i, hi, rfl⟩ := aOk_t ha (by omega)
    rw [if_pos ha, if_pos ha, if_neg i1n0, nI_clamp (by omega)]
    have hm := h.1.2.2.1.2.2.2.2 i hi
    have p4 : 2 ^ mN (aMa A i) ≤ 2 ^ 4 := Nat.pow_le_pow_right (by decide) hm.1.2.1
    have f0 : fm [] [37, 38] ρ (uI (uI ρ 90 37 0) 90 38 (nI i)) := (fm.uI (Or.inr ⟨rfl, by decide⟩)).tr (fm.uI (Or.inr ⟨rfl, by decide⟩))
    obtain ⟨υ1, n1, n2, n3⟩ := x_meetsNone (F := F) (by omega) (uI (uI ρ 90 37 0) 90 38 (nI i))
    obtain ⟨υ2, e1, e2, e3⟩ := x_e35 (M := aMa A i) (a := i) (F := F) (by omega) (by have := hm.1.2.2.1; omega) 4 0 F bS0 υ1 (by omega) (by omega) ((n3.r (by decide) (by decide)).trans ((f0.r (fun q => nomatch q) (by decide)).trans hm.2.2.1)) n2
    have f2 : fm shM (37 :: 38 :: shK) ρ υ2 := (f0.mo (fun _ q => nomatch q) (by decide)).tr ((n3.tr e3).mo (by decide) (by decide))
    have g0 : rG0 (aMa A i) (aG A) i υ2 := by
      have f1 : fm shM shK (uI (uI ρ 90 37 0) 90 38 (nI i)) υ2 := (n3.tr e3).mo (by decide) (by decide)
      refine rG0.f (τ := uI (uI ρ 90 37 0) 90 38 (nI i)) ⟨?_, vI_e, ?_, ?_, fun s f hs hf => ?_⟩ f1
      · rw [vI_q (fun q => absurd q.2 (by decide)), vI_e]
      · exact (f0.f (by decide) (fun q => nomatch q)).trans h.1.2.2.1.2.2.2.1
      · exact (f0.r (fun q => nomatch q) (by decide)).trans hm.2.2.2.1
      · exact (f0.r (fun q => nomatch q) (by decide)).trans (hm.2.2.2.2 s f hs hf)
    have eB : bI (fun v => (mB (aMa A i)).testBit v) 4 0 bS0 = bI (GF (G0 (aMa A i) (aG A))) (GN (G0 (aMa A i) (aG A))) 0 bS0 := by
      have := bI_x (p := fun v => (mB (aMa A i)).testBit v) (mN (aMa A i)) 0 (4 - mN (aMa A i)) bS0 (fun x hx => by
        cases hb : (mB (aMa A i)).testBit x with
        | false => rfl
        | true => have := tb_lt hm.1.2.2.1 hb; omega)
      rw [show mN (aMa A i) + (4 - mN (aMa A i)) = 4 by have := hm.1.2.1; omega] at this
      exact this
    rw [eB] at e2
    obtain ⟨υ3, υ, s1, s2, s3, s4⟩ := x_shG (F := F) (G0_ok hm.1 hg) (fun ω f p hp => (x_G0 hm.1 hg (by omega) (g0.f f) hp.1).1) (fun ω f p hp => (x_G0 hm.1 hg (by omega) (g0.f f) hp.1).2) hF e2
    rw [n1, bd_s]
    have e1' := e1 (fun σ9 => bd (L_X12_meetsAll F σ9) (fun σ11 => bd2 (L_X12_shows F σ11) (fun rq13 σ14 => if rq13 = 0 then (bd2 (L_X12_good 1 σ14) (fun rq17 σ18 => some ((rq17, σ18)))) else (bd2 (L_X12_good 0 σ14) (fun rq20 σ21 => some ((rq20, σ21)))))))
    have e1' : L_X12_empty_35 F (nI i) (fun σ9 => bd (L_X12_meetsAll F σ9) (fun σ11 => bd2 (L_X12_shows F σ11) (fun rq13 σ14 => if rq13 = 0 then (bd2 (L_X12_good 1 σ14) (fun rq17 σ18 => some ((rq17, σ18)))) else (bd2 (L_X12_good 0 σ14) (fun rq20 σ21 => some ((rq20, σ21))))))) F 0 υ1 = _ := e1'
    rw [e1', s1, bd_s, s2, bd2_s]
    have R2 : RI A υ2 := by
      have f1 : fm wM (37 :: 38 :: wK) ρ υ2 := (f0.mo (fun _ q => nomatch q) (by decide)).tr ((n3.tr e3).mo (fun _ q => q) (by decide))
      exact ⟨h.1.keep f1 (by decide) (by decide) (by decide), h.2.f f1 (by decide) (by decide) (by decide) rfl⟩
    exact shA_x rfl (R2.sh s4 s3)
  · rw [if_neg ha, if_neg ha, if_pos rfl]
    exact xRI.r h 1
