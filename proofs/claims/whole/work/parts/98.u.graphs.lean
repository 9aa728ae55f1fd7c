/-! the graphs of states and of nodes -/
def sM3 (S : Nat → Nat) (i : Nat) : Prop := ∀ j, j < i → S (j + 1) ≤ S j + 300
theorem sM3_pu {S : Nat → Nat} {i e e' : Nat} (h : sM3 (pu S i e) i) (he : e' ≤ e + 300) : sM3 (pu (pu S i e) (i + 1) e') (i + 1) := by
  intro j hj
  by_cases c : j = i
  · subst c
    rw [pu_n (show j ≠ j + 1 by omega), pu_s, pu_s]
    exact he
  · rw [pu_n (show j ≠ i + 1 by omega), pu_n (show j + 1 ≠ i + 1 by omega)]
    exact h j (by omega)
theorem lyC_3 {G : Nat} {M : aM} {x x0 : nd} (hM : mOk G M) (hx : ndO x) : ∀ (k c i : Nat) (w v : zS × (Nat → Nat)), i + k ≤ 900 → zO x0 w.1 → zE w.1 ≤ 300 * i → sM3 (pu w.2 i (zE w.1)) i → lyC M x k c i w = some v → sM3 (pu v.2 (i + k) (zE v.1)) (i + k) := by
  intro k
  induction k with
  | zero =>
    intro c i w v _ h1 h2 h3 h
    injection h with h
    rw [← h]
    exact h3
  | succ k ih =>
    intro c i w v hi h1 h2 h3 h
    rw [lyC] at h
    cases hg : goL (suc M x c) w.1 with
    | none => rw [hg] at h; exact nomatch h
    | some y =>
      rw [hg] at h
      obtain ⟨-, okn⟩ := okE_nd (e0 := zE w.1) (by omega) (suc M x c) [] w.1 h1.2.1 (suc_nd hM hx) (fun y hy => nomatch hy) rfl (suc_O hM hx)
      have hy := okn y hg
      have := ih (c + 1) (i + 1) (y, pu w.2 i (zE w.1)) v (by omega) (h1.goL (suc_O hM hx) hg) (by show zE y ≤ _; omega) (sM3_pu h3 hy.2) h
      rw [show i + 1 + k = i + (k + 1) by omega] at this
      exact this
theorem lyN_3 {G : Nat} {M : aM} {x0 : nd} (hM : mOk G M) (hG : G ≤ 3) : ∀ (f n : Nat) (w v : zS × (Nat → Nat)), n ≤ zN w.1 → zO x0 w.1 → zE w.1 ≤ 300 * (n * G) → sMo (pu w.2 (n * G) (zE w.1)) (n * G) → sM3 (pu w.2 (n * G) (zE w.1)) (n * G) → lyN M G f n w = some v → sM3 v.2 (zN v.1 * G) := by
  intro f
  induction f with
  | zero => intro n w v _ _ _ _ _ h; exact nomatch h
  | succ f ih =>
    intro n w v hn h1 h2 h3 h4 h
    rw [lyN] at h
    have hN := h1.2.1
    by_cases c : n < zN w.1
    · rw [if_pos c] at h
      cases hl : lyC M (zX w.1 n) G 0 (n * G) w with
      | none => rw [hl] at h; exact nomatch h
      | some u =>
        rw [hl] at h
        have hb : n * G ≤ 299 * G := Nat.mul_le_mul_right _ (by omega)
        obtain ⟨a1, a2, a3⟩ := lyC_O hM (h1.2.2.2.1 n c) G 0 (n * G) w u (by omega) h1 h2 h3 hl
        have a4 := lyC_3 hM (h1.2.2.2.1 n c) G 0 (n * G) w u (by omega) h1 h2 h4 hl
        obtain ⟨b1, -⟩ := lyC_X _ _ _ _ _ hl
        have eG : (n + 1) * G = n * G + G := Nat.succ_mul n G
        exact ih (n + 1) u v (by omega) a1 (by rw [eG]; exact a2) (by rw [eG]; exact a3) (by rw [eG]; exact a4) h
    · rw [if_neg c] at h
      injection h with h
      rw [← h]
      have en : n = zN w.1 := by omega
      show sM3 (pu w.2 (n * G) (zE w.1)) (zN w.1 * G)
      rw [← en]; exact h4
theorem cpl_3 {G : Nat} {M : aM} {v : zS × (Nat → Nat)} (hM : mOk G M) (hG : G ≤ 3) (h : cpl M G = some v) : sM3 v.2 (zN v.1 * G) := by
  unfold cpl at h
  refine lyN_3 (x0 := (mB M, 0, 0, 0)) hM hG 301 0 (((1, fun _ => (mB M, 0, 0, 0)), (0, fun _ => 0)), fun _ => 0) v (Nat.zero_le _) ⟨Nat.le_refl _, (by decide : 1 ≤ 300), rfl, fun n _ => ⟨hM.b.1, (by decide : 0 < 16), Or.inl ⟨rfl, rfl, rfl⟩⟩, fun j hj => absurd hj (Nat.not_lt_zero j), fun a b ha hb _ => ?_⟩ (Nat.zero_le _) (fun j hj => absurd hj (by rw [Nat.zero_mul]; exact Nat.not_lt_zero j)) (fun j hj => absurd hj (by rw [Nat.zero_mul]; exact Nat.not_lt_zero j)) h
  have ha : a < 1 := ha
  have hb : b < 1 := hb
  omega
theorem gTie_B {b : gB} {g : Nat} {G : gG} (hG : gOk G) (h10 : GN G ≤ 1000) (hL : GL G = g) (hg3 : g ≤ 3) (hb : ∀ v s, v < GN G → s < g → bkO (b v s)) (hS : ∀ v s, v < GN G → s < g → GS G v s = gsB b v s) : gTie G (elB b g) := by
  refine ⟨hG, h10, ⟨fun p hp => by have := hp.1; omega, fun p hp => ⟨elB_so (fun s hs => hb p s hp.1 hs), fun e he => ?_⟩⟩, fun v hv => elB_k (fun s hs => hb v s hv.1 hs) (fun s hs => hS v s hv.1 hs) hL⟩
  obtain ⟨s, t, k, h1, h2, h3, h4⟩ := elB_mem.mp he
  have hbb := hb p s hp.1 h1
  have h5 := blk_b hbb (blk_mem.mpr ⟨t, k, h2, h3, h4⟩)
  refine ⟨by omega, hp.s hG (s := s) (by omega) ?_⟩
  rw [hS p s hp.1 h1, h4]
  unfold gsB
  exact List.mem_flatMap.mpr ⟨t, h2, List.mem_map.mpr ⟨k, List.mem_range.mpr h3, rfl⟩⟩
/-! states -/
def sts (X : Nat) : List Nat := (List.range 4).filter (fun t => X.testBit t)
theorem sts_mem {X t : Nat} : t ∈ sts X ↔ t < 4 ∧ X.testBit t = true := by
  unfold sts
  rw [List.mem_filter, List.mem_range]
theorem sts_so (X : Nat) : (sts X).Pairwise (fun a c => a < c) := List.Pairwise.filter _ (by decide)
def bSt (M : aM) : gB := fun v s => (sts (mE M s v), 1, fun t _ => t)
def G0 (M : aM) (g : Nat) : gG := (mN M, g, gsB (bSt M), fun v => (mF M).testBit v, fun v => (mB M).testBit v)
theorem bSt_o (M : aM) (v s : Nat) : bkO (bSt M v s) := ⟨fun t ht => (sts_mem.mp ht).1, sts_so _, by show 1 ≤ 512; decide⟩
theorem bSt_len (M : aM) (v s : Nat) : (gsB (bSt M) v s).length = (sts (mE M s v)).length := by
  unfold gsB
  rw [fmr_len]
  exact Nat.mul_one _
theorem bSt_at (M : aM) {v s i : Nat} (h : i < (sts (mE M s v)).length) : (gsB (bSt M) v s).getD i 0 = (sts (mE M s v)).getD i 0 := by
  unfold gsB
  rw [fmr_at _ i (by show i < (sts (mE M s v)).length * 1; omega)]
  show (sts (mE M s v)).getD (i / 1) 0 = _
  rw [Nat.div_one]
theorem bSt_mem {M : aM} {v s t : Nat} : t ∈ gsB (bSt M) v s ↔ t < 4 ∧ (mE M s v).testBit t = true := by
  unfold gsB
  rw [List.mem_flatMap]
  constructor
  · rintro ⟨u, h1, h2⟩
    obtain ⟨k, -, k2⟩ := List.mem_map.mp h2
    have k2 : u = t := k2
    rw [← k2]; exact sts_mem.mp h1
  · intro h
    exact ⟨t, sts_mem.mpr h, List.mem_map.mpr ⟨0, List.mem_range.mpr (by show 0 < 1; decide), rfl⟩⟩
theorem sts_4 : ∀ X, X < 16 → (sts X).length ≤ 4 := by decide +kernel
theorem tb_lt {X n t : Nat} (h : X < 2 ^ n) (ht : X.testBit t = true) : t < n := by
  refine Classical.byContradiction (fun q => ?_)
  have : 2 ^ n ≤ 2 ^ t := Nat.pow_le_pow_right (by decide) (by omega)
  rw [Nat.testBit_lt_two_pow (by omega)] at ht
  exact nomatch ht
theorem G0_ok {M : aM} {g : Nat} (hM : mOk g M) (hg : g ≤ 3) : gTie (G0 M g) (elB (bSt M) g) := by
  obtain ⟨m1, m2, m3, m4, m5, m6⟩ := hM
  have p4 : 2 ^ mN M ≤ 2 ^ 4 := Nat.pow_le_pow_right (by decide) m2
  refine gTie_B ⟨by show mN M ≤ 3000; omega, hg, fun v hv s hs => ⟨?_, fun t ht => ?_⟩⟩ (by show mN M ≤ 1000; omega) rfl hg (fun v s _ _ => bSt_o M v s) (fun v s _ _ => rfl)
  · show (gsB (bSt M) v s).length < 60000
    rw [bSt_len]
    have := sts_4 _ (Nat.lt_of_lt_of_le (m5 s v) p4)
    omega
  · have ht : t ∈ gsB (bSt M) v s := ht
    exact tb_lt (m5 s v) (bSt_mem.mp ht).2
theorem b_bit : ∀ X, X < 16 → ∀ t, t < 4 → (nI X >>> (nI t &&& 31)) &&& 1 = if X.testBit t = true then 1 else 0 := by decide +kernel
theorem b_bc : ∀ X, X < 16 → bc (nI X) = nI (sts X).length := by decide +kernel
theorem b_gl : ∀ N, N < 5 → ∀ X, X < 16 → X < 2 ^ N → ∀ i, i < 4 → i < (sts X).length → a_gl (nI X) (nI i) N 0 0 = nI ((sts X).getD i 0) := by decide +kernel
theorem b_qin {X t : Nat} (hX : X < 16) (ht : t < 4) : q_in (nI t) (nI X) = 0 ↔ X.testBit t = false := by
  unfold q_in
  rw [b_bit X hX t ht]
  cases X.testBit t
  · exact ⟨fun _ => rfl, fun _ => by decide⟩
  · exact ⟨fun q => absurd q (by decide), fun q => nomatch q⟩
theorem y_arM {g : Nat} {M : aM} {σ : sS} {i s v : Nat} (h : cMa g M σ i) (hs : s < 3) (hv : v < 4) : a_ar σ (27 + i) (nI v) (nI s) = nI (mE M s v) := by
  unfold a_ar
  rw [show (4 : Int32) = nI 4 from rfl, nI_mul, nI_add, rg_nI (by omega), show 27 + i + 3 = 30 + i by omega]
  exact h.2.2.2.2.2 s v hs hv
/-- the component's graph of states -/
theorem y_G0 {g : Nat} {M : aM} {σ : sS} {i : Nat} (h : cMa g M σ i) (hg : g ≤ 3) : gSt (G0 M g) (m_F (27 + i)) (m_N (27 + i)) (m_E (27 + i) (mN M)) (m_M (27 + i)) σ ∧ m_V (27 + i) σ [] = nI (GN (G0 M g)) ∧ h_L (27 + i) σ [] = nI (GL (G0 M g)) := by
  obtain ⟨⟨m1, m2, m3, m4, m5, m6⟩, n1, n2, n3, n4, n5⟩ := id h
  have p4 : 2 ^ mN M ≤ 2 ^ 4 := Nat.pow_le_pow_right (by decide) m2
  refine ⟨fun v hv => ?_, n1, n2⟩
  have hv : v < mN M := hv
  refine ⟨?_, ?_, fun s hs => ?_⟩
  · show q_in (nI v) (vI σ (27 + i) 3) = 0 ↔ _
    rw [n3]
    exact b_qin (by omega) (by omega)
  · show q_in (nI v) (vI σ (27 + i) 4) = 0 ↔ (mF M).testBit v = false
    rw [n4]
    exact b_qin (by omega) (by omega)
  · have hs : s < g := hs
    have hX : mE M s v < 16 := Nat.lt_of_lt_of_le (m5 s v) p4
    refine ⟨?_, fun k hk => ?_⟩
    · show bc (a_ar σ (27 + i) (nI v) (nI s)) = nI (gsB (bSt M) v s).length
      rw [y_arM h (by omega) (by omega), b_bc _ hX, bSt_len]
    · have hk : k < (gsB (bSt M) v s).length := hk
      rw [bSt_len] at hk
      have := sts_4 _ hX
      show a_gl (a_ar σ (27 + i) (nI v) (nI s)) (nI k) (mN M) 0 0 = nI ((gsB (bSt M) v s).getD k 0)
      rw [y_arM h (by omega) (by omega), b_gl (mN M) (by omega) _ hX (m5 s v) k (by omega) hk, bSt_at M hk]
/-! nodes -/
def bNo (v : zS × (Nat → Nat)) (g : Nat) : gB := fun n s => ([0], v.2 (n * g + s + 1) - v.2 (n * g + s), fun _ k => zT v.1 (v.2 (n * g + s) + k))
def G1 (v : zS × (Nat → Nat)) (g : Nat) : gG := (zN v.1, g, gsB (bNo v g), fun n => nfin (zX v.1 n), fun n => decide (n = 0))
theorem bNo_len (v : zS × (Nat → Nat)) (g n s : Nat) : (gsB (bNo v g) n s).length = v.2 (n * g + s + 1) - v.2 (n * g + s) := by
  unfold gsB
  rw [fmr_len]
  show 1 * (v.2 (n * g + s + 1) - v.2 (n * g + s)) = _
  exact Nat.one_mul _
theorem bNo_at (v : zS × (Nat → Nat)) {g n s i : Nat} (h : i < v.2 (n * g + s + 1) - v.2 (n * g + s)) : (gsB (bNo v g) n s).getD i 0 = zT v.1 (v.2 (n * g + s) + i) := by
  unfold gsB
  rw [fmr_at _ i (by show i < 1 * (v.2 (n * g + s + 1) - v.2 (n * g + s)); omega)]
  show zT v.1 (v.2 (n * g + s) + i % (v.2 (n * g + s + 1) - v.2 (n * g + s))) = _
  rw [Nat.mod_eq_of_lt h]
theorem n_in {n N g s : Nat} (hn : n < N) (hs : s < g) : n * g + s < N * g := by
  have : (n + 1) * g ≤ N * g := Nat.mul_le_mul_right _ hn
  rw [Nat.succ_mul] at this
  omega
theorem bNo_o {M : aM} {v : zS × (Nat → Nat)} {g n s : Nat} (h3 : sM3 v.2 (zN v.1 * g)) (hn : n < zN v.1) (hs : s < g) : bkO (bNo v g n s) ∧ v.2 (n * g + s + 1) - v.2 (n * g + s) ≤ 300 := by
  have := h3 (n * g + s) (n_in hn hs)
  refine ⟨⟨fun t ht => ?_, List.pairwise_singleton _ _, ?_⟩, by omega⟩
  · have ht : t ∈ [0] := ht
    rw [List.mem_singleton.mp ht]; decide
  · show v.2 (n * g + s + 1) - v.2 (n * g + s) ≤ 512
    omega
theorem bNo_m {M : aM} {v : zS × (Nat → Nat)} {g n s t : Nat} (hO : cO M g v) (hn : n < zN v.1) (hs : s < g) (ht : t ∈ gsB (bNo v g) n s) : t < zN v.1 := by
  unfold gsB at ht
  obtain ⟨u, -, h2⟩ := List.mem_flatMap.mp ht
  obtain ⟨k, k1, k2⟩ := List.mem_map.mp h2
  have k1 : k < v.2 (n * g + s + 1) - v.2 (n * g + s) := List.mem_range.mp k1
  have k2 : zT v.1 (v.2 (n * g + s) + k) = t := k2
  obtain ⟨o1, o2, o3, o4⟩ := hO
  have hj := n_in (N := zN v.1) hn hs
  have := o3.le (a := n * g + s + 1) (b := zN v.1 * g) (by omega) (Nat.le_refl _)
  rw [← k2]
  exact o1.2.2.2.2.1 _ (by omega)
theorem G1_ok {M : aM} {v : zS × (Nat → Nat)} {g : Nat} (hO : cO M g v) (h3 : sM3 v.2 (zN v.1 * g)) (hg : g ≤ 3) : gTie (G1 v g) (elB (bNo v g) g) := by
  have hN := hO.1.2.1
  refine gTie_B ⟨by show zN v.1 ≤ 3000; omega, hg, fun n hn s hs => ⟨?_, fun t ht => bNo_m hO hn hs ht⟩⟩ (by show zN v.1 ≤ 1000; omega) rfl hg (fun n s hn hs => (bNo_o (M := M) h3 hn hs).1) (fun n s _ _ => rfl)
  show (gsB (bNo v g) n s).length < 60000
  rw [bNo_len]
  have := (bNo_o (M := M) h3 hn hs).2
  omega
theorem nsg {n s g : Nat} : (nI n * nI g + nI s) = nI (n * g + s) := by rw [nI_mul, nI_add]
/-- the component's graph of nodes -/
theorem y_fn {M : aM} {c g n s : Nat} {v : zS × (Nat → Nat)} {σ : sS} (h : cCv c g v σ) (hO : cO M g v) (hg : g ≤ 3) (h2 : vI σ (c - 6) 2 = nI g) (hn : n < zN v.1) (hs : s < g) : p_fn σ c (nI n) (nI s) = nI (v.2 (n * g + s + 1) - v.2 (n * g + s)) := by
  unfold p_fn
  have hj := n_in (N := zN v.1) hn hs
  rw [h2, nsg, nI_1]
  exact y_sub h hO hg (by omega) (by omega)
theorem y_gl {M : aM} {c g n s k : Nat} {v : zS × (Nat → Nat)} {σ : sS} (h : cCv c g v σ) (hO : cO M g v) (hg : g ≤ 3) (h2 : vI σ (c - 6) 2 = nI g) (hn : n < zN v.1) (hs : s < g) (hk : k < v.2 (n * g + s + 1) - v.2 (n * g + s)) : p_gl σ c (nI n) (nI s) (nI k) = nI (zT v.1 (v.2 (n * g + s) + k)) := by
  unfold p_gl
  have hj := n_in (N := zN v.1) hn hs
  obtain ⟨o1, o2, o3, o4⟩ := id hO
  have l1 := o3.le (a := n * g + s + 1) (b := zN v.1 * g) (by omega) (Nat.le_refl _)
  have hb : zN v.1 * g ≤ 300 * 3 := Nat.mul_le_mul o1.2.1 hg
  rw [h2, nsg, rg_nI (by omega), h.2.2.2 (n * g + s) (by omega), nI_add, rg_nI (by omega), h.2.2.1 _ (by omega)]
theorem y_G1 {M : aM} {c g : Nat} {v : zS × (Nat → Nat)} {σ : sS} (h : cCv c g v σ) (hO : cO M g v) (h3 : sM3 v.2 (zN v.1 * g)) (hg : g ≤ 3) (h2 : vI σ (c - 6) 2 = nI g) : gSt (G1 v g) n_F (n_N c) (n_E c) (n_M c) σ ∧ n_V c σ [] = nI (GN (G1 v g)) ∧ n_L c σ [] = nI (GL (G1 v g)) := by
  have hN := hO.1.2.1
  refine ⟨fun n hn => ?_, h.1, h2⟩
  have hn : n < zN v.1 := hn
  refine ⟨?_, ?_, fun s hs => ⟨?_, fun k hk => ?_⟩⟩
  · show p_if (nI n) = 0 ↔ decide (n = 0) = false
    unfold p_if
    by_cases e : n = 0
    · rw [e, if_pos nI_0]
      exact ⟨fun q => absurd q (by decide), fun q => nomatch q⟩
    · rw [if_neg (fun q => e ((nI_k0 (by omega)).mp q))]
      exact ⟨fun _ => decide_eq_false e, fun _ => rfl⟩
  · show p_im σ c (nI n) = 0 ↔ nfin (zX v.1 n) = false
    rw [y_im h hN hn (hO.1.2.2.2.1 n hn)]
    cases nfin (zX v.1 n)
    · exact ⟨fun _ => rfl, fun _ => by decide⟩
    · exact ⟨fun q => absurd q (by decide), fun q => nomatch q⟩
  · show p_fn σ c (nI n) (nI s) = nI (gsB (bNo v g) n s).length
    rw [bNo_len]
    exact y_fn h hO hg h2 hn hs
  · have hk : k < (gsB (bNo v g) n s).length := hk
    rw [bNo_len] at hk
    show p_gl σ c (nI n) (nI s) (nI k) = nI ((gsB (bNo v g) n s).getD k 0)
    rw [bNo_at v hk]
    exact y_gl h hO hg h2 hn hs hk
