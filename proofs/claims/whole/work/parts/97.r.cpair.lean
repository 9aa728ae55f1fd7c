/-! the complement: where the component goes from a pair -/
theorem yA_ar {c G s f : Nat} {M : aM} {σ : sS} (hA : cAu c G M σ) (hs : s < 3) (hf : f < 4) : a_ar σ (c - 6) (nI f) (nI s) = nI (mE M s f) := by
  unfold a_ar
  rw [show nI s * 4 + nI f = nI (s * 4 + f) by rw [show (4 : Int32) = nI 4 from rfl, nI_mul, nI_add], rg_nI (by omega)]
  exact hA.2.2.2.2.2.1 s f hs hf
theorem yA_rc {c G t s : Nat} {M : aM} {σ : sS} (hA : cAu c G M σ) (ht : t < 16) (hs : s < 3) : ∀ n, n ≤ 4 → a_rc σ (c - 6) (nI t) (nI s) n = nI (aftN M t s n) := by
  have hb := b_pw _ hA.1.2.1
  intro n
  induction n with
  | zero => intro _; rfl
  | succ n ih =>
    intro hn
    unfold a_rc aftN
    rw [y_in ht (by omega), ih (by omega), yA_ar hA hs (by omega)]
    by_cases hbit : t.testBit n = true
    · rw [if_pos hbit, if_neg i1n0, if_pos hbit]
      exact b_or _ (by have := aftN_lt hA.1 t s n; omega) _ (hA.1.b.2.2 s n)
    · rw [if_neg hbit, if_pos rfl, if_neg hbit]
theorem yA_aft {c G t s : Nat} {M : aM} {σ : sS} (hA : cAu c G M σ) (ht : t < 2 ^ mN M) (hs : s < 3) : a_rc σ (c - 6) (nI t) (nI s) (mN M) = nI (aft M t s) := by
  have hb := b_pw _ hA.1.2.1
  rw [yA_rc hA (by omega) hs _ hA.1.2.1]
  unfold aft
  rw [aftN_N hA.1 ht 4 hA.1.2.1 (by omega)]
theorem mnI_n {a b : Nat} (ha : a < 8) (hb : b < 8) : mnI (nI a) (nI b) = nI (min a b) := by
  unfold mnI
  by_cases c : b < a
  · rw [if_pos (nI_lt c (by omega)), Nat.min_eq_right (by omega)]
  · rw [if_neg (fun q => c ((nI_ltI (by omega) (by omega)).mp q)), Nat.min_eq_left (by omega)]
theorem y_ci {c G s to : Nat} {M : aM} {x : nd} {σ : sS} (hA : cAu c G M σ) (hx : ndO x) (hg : x.2.1 ≠ 0) (hs : s < 3) (hto : to < 4) : ∀ n, n ≤ 4 → p_ci σ (c - 6) (nI (kyN x)) (nI s) (nI to) n = nI (mst M x.1 x.2.2.1 s to n) := by
  intro n
  induction n with
  | zero => intro _; rfl
  | succ n ih =>
    intro hn
    have m7 := mst_le (M := M) (t := x.1) (P := x.2.2.1) (c := s) (to := to) n
    have d8 : dg x.2.2.1 n < 8 := dg_lt
    rw [p_ci, mst, (ky_and hx).2, y_in hx.1 (by omega), ih (by omega), ky_ro hx hg (by omega), mnI_n (by omega) d8]
    unfold a_jn
    rw [yA_ar hA hs (by omega), y_in (hA.1.b.2.2 s n) hto]
    by_cases b1 : x.1.testBit n = true
    · rw [if_pos b1, if_neg i1n0]
      by_cases b2 : (mE M s n).testBit to = true
      · rw [if_pos b2, if_neg i1n0, if_pos ⟨b1, b2⟩]
      · rw [if_neg b2, if_pos rfl, if_neg (fun q => b2 q.2)]
    · rw [if_neg b1, if_pos rfl, if_neg (fun q => b1 q.1)]
theorem mst_N {M : aM} {t P s to N : Nat} (ht : t < 2 ^ N) : ∀ n, N ≤ n → mst M t P s to n = mst M t P s to N := by
  intro n
  induction n with
  | zero => intro h; rw [show N = 0 by omega]
  | succ n ih =>
    intro h
    by_cases e : N = n + 1
    · rw [e]
    · have hz : t.testBit n = false := Nat.testBit_lt_two_pow (Nat.lt_of_lt_of_le ht (Nat.pow_le_pow_right (by decide) (by omega)))
      rw [mst, if_neg (fun q => by rw [hz] at q; exact absurd q.1 (by decide)), ih (by omega)]
def cpN (f : Nat → Nat) : Nat → Nat
  | 0 => 0
  | i + 1 => cpN f i + f i * 8 ^ i
theorem cpN_lt {f : Nat → Nat} (h : ∀ i, f i < 8) : ∀ i, cpN f i < 8 ^ i := by
  intro i
  induction i with
  | zero => exact Nat.one_pos
  | succ i ih =>
    rw [cpN, Nat.pow_succ]
    have := h i
    have : f i * 8 ^ i ≤ 7 * 8 ^ i := Nat.mul_le_mul_right _ (by omega)
    omega
theorem k_wrN {s x d : Nat} (hs : s < 4) (hx : x < 8 ^ s) (hd : d < 8) : k_wr (nI x) (nI s) (nI d) = nI (x + d * 8 ^ s) := by
  unfold k_wr
  rcases s4 hs with rfl | rfl | rfl | rfl
  · have hx : x < 1 := hx
    rw [show x = 0 by omega]
    exact b_w0 d hd
  · exact b_w1 x hx d hd
  · exact b_w2 x hx d hd
  · exact b_w3 x hx d hd
theorem y_ca {c G s : Nat} {M : aM} {x : nd} {σ : sS} (hA : cAu c G M σ) (hx : ndO x) (hg : x.2.1 ≠ 0) (hs : s < 3) (hN : x.1 < 2 ^ mN M) : ∀ n, n ≤ 4 → p_ca σ (c - 6) (nI (kyN x)) (nI s) (mN M) n = nI (cpN (fun to => mst M x.1 x.2.2.1 s to 4) n) := by
  have m8 : ∀ to, mst M x.1 x.2.2.1 s to 4 < 8 := fun to => by have := mst_le (M := M) (t := x.1) (P := x.2.2.1) (c := s) (to := to) 4; omega
  intro n
  induction n with
  | zero => intro _; rfl
  | succ n ih =>
    intro hn
    rw [p_ca, ih (by omega), y_ci hA hx hg hs (by omega) _ hA.1.2.1, ← mst_N hN 4 hA.1.2.1, k_wrN (by omega) (cpN_lt m8 n) (m8 n)]
    rfl
theorem cpN_dg {f : Nat → Nat} (h : ∀ i, f i < 8) {n s : Nat} (hn : n ≤ 4) (hs : s < 4) : cpN f n / 2 ^ (3 * s) % 8 = if s < n then f s else 0 := by
  have h0 := h 0
  have h1 := h 1
  have h2 := h 2
  have h3 := h 3
  have e1 : cpN f 1 = f 0 := by show 0 + f 0 * 1 = _; omega
  have e2 : cpN f 2 = f 0 + f 1 * 8 := by show cpN f 1 + f 1 * 8 = _; rw [e1]
  have e3 : cpN f 3 = f 0 + f 1 * 8 + f 2 * 64 := by show cpN f 2 + f 2 * 64 = _; rw [e2]
  have e4 : cpN f 4 = f 0 + f 1 * 8 + f 2 * 64 + f 3 * 512 := by show cpN f 3 + f 3 * 512 = _; rw [e3]
  have hn' : n = 0 ∨ n = 1 ∨ n = 2 ∨ n = 3 ∨ n = 4 := by omega
  rcases hn' with rfl | rfl | rfl | rfl | rfl
  · show 0 / 2 ^ (3 * s) % 8 = _
    rw [Nat.zero_div, if_neg (Nat.not_lt_zero s)]
  · rw [e1]
    rcases s4 hs with rfl | rfl | rfl | rfl
    · rw [if_pos (by decide)]; show f 0 / 1 % 8 = f 0; omega
    · rw [if_neg (by decide)]; show f 0 / 8 % 8 = 0; omega
    · rw [if_neg (by decide)]; show f 0 / 64 % 8 = 0; omega
    · rw [if_neg (by decide)]; show f 0 / 512 % 8 = 0; omega
  · rw [e2]
    rcases s4 hs with rfl | rfl | rfl | rfl
    · rw [if_pos (by decide)]; show (f 0 + f 1 * 8) / 1 % 8 = f 0; omega
    · rw [if_pos (by decide)]; show (f 0 + f 1 * 8) / 8 % 8 = f 1; omega
    · rw [if_neg (by decide)]; show (f 0 + f 1 * 8) / 64 % 8 = 0; omega
    · rw [if_neg (by decide)]; show (f 0 + f 1 * 8) / 512 % 8 = 0; omega
  · rw [e3]
    rcases s4 hs with rfl | rfl | rfl | rfl
    · rw [if_pos (by decide)]; show (f 0 + f 1 * 8 + f 2 * 64) / 1 % 8 = f 0; omega
    · rw [if_pos (by decide)]; show (f 0 + f 1 * 8 + f 2 * 64) / 8 % 8 = f 1; omega
    · rw [if_pos (by decide)]; show (f 0 + f 1 * 8 + f 2 * 64) / 64 % 8 = f 2; omega
    · rw [if_neg (by decide)]; show (f 0 + f 1 * 8 + f 2 * 64) / 512 % 8 = 0; omega
  · rw [e4]
    rcases s4 hs with rfl | rfl | rfl | rfl
    · rw [if_pos (by decide)]; show (f 0 + f 1 * 8 + f 2 * 64 + f 3 * 512) / 1 % 8 = f 0; omega
    · rw [if_pos (by decide)]; show (f 0 + f 1 * 8 + f 2 * 64 + f 3 * 512) / 8 % 8 = f 1; omega
    · rw [if_pos (by decide)]; show (f 0 + f 1 * 8 + f 2 * 64 + f 3 * 512) / 64 % 8 = f 2; omega
    · rw [if_pos (by decide)]; show (f 0 + f 1 * 8 + f 2 * 64 + f 3 * 512) / 512 % 8 = f 3; omega
theorem rkS_cg {t f g : Nat} {cap cap' : Nat → Nat} (h : ∀ s, s < 4 → t.testBit s = true → cap s = cap' s) : rkS t f g cap = rkS t f g cap' := by
  refine filter_cg _ (fun Q _ => ?_)
  have st : ∀ s, s < 4 → okS t f cap Q s = okS t f cap' Q s := by
    intro s hs
    unfold okS
    by_cases c : t.testBit s = true
    · rw [h s hs c]
    · rw [(Bool.not_eq_true _).mp c]; rfl
  unfold tgB
  rw [st 0 (by decide), st 1 (by decide), st 2 (by decide), st 3 (by decide)]
theorem aftN_tb {M : aM} {t c to : Nat} : ∀ n, (aftN M t c n).testBit to = true → ∃ s, s < n ∧ t.testBit s = true ∧ (mE M c s).testBit to = true := by
  intro n
  induction n with
  | zero => intro h; rw [aftN, Nat.zero_testBit] at h; exact absurd h (by decide)
  | succ n ih =>
    intro h
    rw [aftN] at h
    by_cases b : t.testBit n = true
    · rw [if_pos b, Nat.testBit_or] at h
      rcases Bool.or_eq_true_iff.mp h with q | q
      · obtain ⟨s, s1, s2⟩ := ih q
        exact ⟨s, by omega, s2⟩
      · exact ⟨n, by omega, b, q⟩
    · rw [if_neg b] at h
      obtain ⟨s, s1, s2⟩ := ih h
      exact ⟨s, by omega, s2⟩
theorem mst_lt {M : aM} {t P c to s : Nat} (h1 : t.testBit s = true) (h2 : (mE M c s).testBit to = true) : ∀ n, s < n → mst M t P c to n ≤ dg P s := by
  intro n
  induction n with
  | zero => intro h; exact absurd h (Nat.not_lt_zero s)
  | succ n ih =>
    intro h
    rw [mst]
    by_cases e : s = n
    · subst e
      rw [if_pos ⟨h1, h2⟩]
      exact Nat.min_le_right _ _
    · have := ih (by omega)
      split
      · exact Nat.le_trans (Nat.min_le_left _ _) this
      · exact this
def sub (M : aM) (x : nd) : Prop := x.1 < 2 ^ mN M ∧ x.2.2.2 < 2 ^ mN M
theorem y_fp {B : Nat × Nat} {c s G : Nat} {M : aM} {x0 x : nd} {σ : sS} {z : zS} (hc : 33 ≤ c ∧ c ≤ 35) (hs : s < 3) (hA : cAu c G M σ) (h : cZ B c z σ) (hO : zO x0 z) (hx : ndO x) (hg : x.2.1 ≠ 0) (hS : sub M x) (hE : okE (sucP M x s (aft M x.1 s)) z) : gCo B c x0 (L2 c) σ (goL (sucP M x s (aft M x.1 s)) z) (p_fp σ c (nI (kyN x)) (nI s) (mN M) (nI (aft M x.1 s))) := by
  have hM := hA.1
  have ho : odd7 x.2.1 := by
    rcases hx.2.2 with q | q
    · exact absurd q.1 hg
    · exact q.1
  have hD : dOK x.1 x.2.1 x.2.2.1 := by
    rcases hx.2.2 with q | q
    · exact absurd q.1 hg
    · exact q.2.1
  have ht := aft_16 hM x.1 s
  have htN := aft_lt hM x.1 s
  have htb := fun to => aftN_tb (M := M) (t := x.1) (c := s) (to := to) 4
  have hb := b_pw _ hM.2.1
  have m8 : ∀ to, mst M x.1 x.2.2.1 s to 4 < 8 := fun to => by have := mst_le (M := M) (t := x.1) (P := x.2.2.1) (c := s) (to := to) 4; omega
  unfold sucP at hE ⊢
  have hcap : ∀ to, to < 4 → (aft M x.1 s).testBit to = true → mst M x.1 x.2.2.1 s to 4 ≤ x.2.1 := by
    intro to _ hb'
    obtain ⟨s', s1, s2, s3⟩ := htb to hb'
    exact Nat.le_trans (mst_lt s2 s3 4 s1) ((hD.2 s' s1).1 s2)
  have hcg : rkS (aft M x.1 s) (mF M) x.2.1 (fun to => if to < mN M then mst M x.1 x.2.2.1 s to 4 else 0) = rkS (aft M x.1 s) (mF M) x.2.1 (fun to => mst M x.1 x.2.2.1 s to 4) := by
    refine rkS_cg (fun to _ hb' => ?_)
    have : to < mN M := by
      refine Classical.byContradiction (fun q => ?_)
      have := Nat.testBit_lt_two_pow (Nat.lt_of_lt_of_le htN (Nat.pow_le_pow_right (n := 2) (by decide) (show mN M ≤ to by omega)))
      rw [this] at hb'
      exact absurd hb' (by decide)
    show (if to < mN M then _ else _) = _
    rw [if_pos this]
  obtain ⟨u1, u2, u3, u4⟩ := y_fu (σ := σ) (t := aft M x.1 s) (f := mF M) (g := x.2.1) (a := nI (cpN (fun to => mst M x.1 x.2.2.1 s to 4) (mN M))) (cap := fun to => if to < mN M then mst M x.1 x.2.2.1 s to 4 else 0) ht hM.b.2.1 ho (fun r hr => by
    rw [k_roN (by have := cpN_lt m8 (mN M); have : 8 ^ mN M ≤ 8 ^ 4 := Nat.pow_le_pow_right (by decide) hM.2.1; omega) hr, cpN_dg m8 hM.2.1 hr]) (fun r hr hb' => by
    show (if r < mN M then _ else _) ≤ _
    split
    · exact hcap r hr hb'
    · exact Nat.zero_le _) hA.2.2.2.2.2.2
  rw [hcg] at u1 u2
  have hl := rk_len (t := aft M x.1 s) (f := mF M) (g := x.2.1) (cap := fun to => mst M x.1 x.2.2.1 s to 4) ht ho
  have eab : p_ab σ c (nI (kyN x)) (nI s) (mN M) (nI (aft M x.1 s)) = k_fu σ (nI (aft M x.1 s)) (nI (mF M)) (nI x.2.1) (nI (cpN (fun to => mst M x.1 x.2.2.1 s to 4) (mN M))) := by
    unfold p_ab
    rw [hA.2.2.2.2.1, ky_go hx hg, y_ca hA hx hg hs hS.1 _ hM.2.1]
  have hf : fK σ (p_ab σ c (nI (kyN x)) (nI s) (mN M) (nI (aft M x.1 s))) := by rw [eab]; exact ⟨u3, u4⟩
  rw [← eab] at u1 u2
  have hA' := hA.k hc hf
  unfold p_fp p_ct
  rw [u1, nI_clamp (by omega), ky_ow hx]
  have emo : (if nI x.2.2.2 = 0 then nI (aft M x.1 s) else a_rc (p_ab σ c (nI (kyN x)) (nI s) (mN M) (nI (aft M x.1 s))) (c - 6) (nI x.2.2.2) (nI s) (mN M)) = nI (if x.2.2.2 = 0 then aft M x.1 s else aft M x.2.2.2 s) := by
    by_cases o0 : x.2.2.2 = 0
    · rw [if_pos (by rw [o0]; rfl), if_pos o0]
    · rw [if_neg (fun q => o0 ((nI_k0 (by have := hx.2.1; omega)).mp q)), if_neg o0, yA_aft hA' hS.2 hs]
  rw [emo]
  have hmo : (if x.2.2.2 = 0 then aft M x.1 s else aft M x.2.2.2 s) < 16 := by
    split
    · exact ht
    · exact aft_16 hM _ _
  have hp := y_gp (B := B) (x0 := x0) (R := rkS (aft M x.1 s) (mF M) x.2.1 (fun to => mst M x.1 x.2.2.1 s to 4)) hc ht hmo hg hl (rkS (aft M x.1 s) (mF M) x.2.1 (fun to => mst M x.1 x.2.2.1 s to 4)).length 0 _ z (by omega) (h.k hc hf) hO u2 (by rw [List.drop_zero]; exact hE)
  rw [List.drop_zero] at hp
  exact ⟨(hf.z (by unfold L2; simp) (by unfold L2; simp)).tr (hp.1.mo L12), hp.2⟩
theorem y_gf {B : Nat × Nat} {c s G : Nat} {M : aM} {x0 x : nd} {σ : sS} {z : zS} (hc : 33 ≤ c ∧ c ≤ 35) (hs : s < 3) (hA : cAu c G M σ) (h : cZ B c z σ) (hO : zO x0 z) (hx : ndO x) (hS : sub M x) (hE : okE (suc M x s) z) : gCo B c x0 (L2 c) σ (goL (suc M x s) z) (p_gf σ c (nI (kyN x)) (nI s) (mN M)) := by
  unfold p_gf suc at *
  rw [(ky_and hx).2, yA_aft hA hS.1 hs]
  by_cases g0 : x.2.1 = 0
  · rw [if_pos ((ky_and hx).1.mpr g0)]
    rw [if_pos g0] at hE ⊢
    exact y_fs hc (aft_16 hA.1 _ _) hA h hO hE
  · rw [if_neg (fun q => g0 ((ky_and hx).1.mp q))]
    rw [if_neg g0] at hE ⊢
    exact y_fp hc hs hA h hO hx g0 hS hE
