/-! the complement: the component's nodes -/
def fz (L : List Nat) (σ τ : sS) : Prop := (∀ b j, b ∉ L → vI τ b j = vI σ b j) ∧ (∀ b, b ∉ L → vU τ b = vU σ b) ∧ (∀ b, b ∉ L ∨ b < 20 → vC τ b = vC σ b) ∧ τ.2.1 = σ.2.1 ∧ τ.2.2.1 = σ.2.2.1
theorem fz.rf {L : List Nat} {σ : sS} : fz L σ σ := ⟨fun _ _ _ => rfl, fun _ _ => rfl, fun _ _ => rfl, rfl, rfl⟩
theorem fz.tr {L : List Nat} {σ τ υ : sS} (h : fz L σ τ) (k : fz L τ υ) : fz L σ υ := ⟨fun b j n => (k.1 b j n).trans (h.1 b j n), fun b n => (k.2.1 b n).trans (h.2.1 b n), fun b n => (k.2.2.1 b n).trans (h.2.2.1 b n), k.2.2.2.1.trans h.2.2.2.1, k.2.2.2.2.trans h.2.2.2.2⟩
theorem fz.mo {L L' : List Nat} {σ τ : sS} (h : fz L σ τ) (k : ∀ x, x ∈ L → x ∈ L') : fz L' σ τ := ⟨fun b j n => h.1 b j (fun q => n (k b q)), fun b n => h.2.1 b (fun q => n (k b q)), fun b n => h.2.2.1 b (n.imp (fun m q => m (k b q)) id), h.2.2.2⟩
theorem fz.u {L : List Nat} {σ : sS} {a k : Nat} {x : Int32} (h : a ∈ L) : fz L σ (uI σ a k x) := ⟨fun b j n => vI_q (fun q => n (q.1 ▸ h)), fun _ _ => rfl, fun _ _ => rfl, rfl, rfl⟩
theorem fz.p {L : List Nat} {σ : sS} {r : Nat} {x : Int32} (h : r ∈ L) (h20 : 20 ≤ r) : fz L σ (rqu σ r x) := by
  obtain ⟨f1, f2, f3, f4, f5, -⟩ := rqu_f (σ := σ) (r := r) (x := x)
  exact ⟨fun b j n => f1 b j (fun q => n (q ▸ h)), fun b n => f2 b (fun q => n (q ▸ h)), fun b n => f3 b (fun q => by rcases n with m | m; exact m (q ▸ h); omega), f4, f5⟩
/-! there is a free slot -/
theorem pigeon : ∀ (m n : Nat) (f : Nat → Nat), (∀ a, a < n → f a < m) → (∀ a b, a < n → b < n → f a = f b → a = b) → n ≤ m := by
  intro m
  induction m with
  | zero =>
    intro n f h _
    cases n with
    | zero => exact Nat.le_refl _
    | succ n => exact absurd (h 0 (by omega)) (Nat.not_lt_zero _)
  | succ m ih =>
    intro n f h hi
    by_cases he : ∃ a, a < n ∧ f a = m
    · obtain ⟨a0, a1, a2⟩ := he
      have := ih (n - 1) (fun a => if a < a0 then f a else f (a + 1)) (fun a ha => by
        show (if a < a0 then f a else f (a + 1)) < m
        split
        · next c =>
          have h1 := h a (by omega)
          have h2 : f a ≠ m := fun e => by have := hi a a0 (by omega) a1 (e.trans a2.symm); omega
          omega
        · next c =>
          have h1 := h (a + 1) (by omega)
          have h2 : f (a + 1) ≠ m := fun e => by have := hi (a + 1) a0 (by omega) a1 (e.trans a2.symm); omega
          omega) (fun a b ha hb e => by
        have e : (if a < a0 then f a else f (a + 1)) = (if b < a0 then f b else f (b + 1)) := e
        by_cases ca : a < a0
        · by_cases cb : b < a0
          · rw [if_pos ca, if_pos cb] at e
            exact hi a b (by omega) (by omega) e
          · rw [if_pos ca, if_neg cb] at e
            have := hi a (b + 1) (by omega) (by omega) e
            omega
        · by_cases cb : b < a0
          · rw [if_neg ca, if_pos cb] at e
            have := hi (a + 1) b (by omega) (by omega) e
            omega
          · rw [if_neg ca, if_neg cb] at e
            have := hi (a + 1) (b + 1) (by omega) (by omega) e
            omega)
      omega
    · have := ih n f (fun a ha => by
        have h1 := h a ha
        have h2 : f a ≠ m := fun e => he ⟨a, ha, e⟩
        omega) hi
      omega
def khs (K : Nat) : Nat := (((nI K ^^^ (nI K >>> ((7 : Int32) &&& 31))) ^^^ (nI K >>> ((13 : Int32) &&& 31))) &&& 1023).toNatClampNeg
theorem khs_e (K : Nat) : ((nI K ^^^ (nI K >>> ((7 : Int32) &&& 31))) ^^^ (nI K >>> ((13 : Int32) &&& 31))) &&& 1023 = nI (khs K) ∧ khs K < 1024 := by
  obtain ⟨j, h1, h2⟩ := pk_andE ((nI K ^^^ (nI K >>> ((7 : Int32) &&& 31))) ^^^ (nI K >>> ((13 : Int32) &&& 31))) (m := 1023) 10 (by decide)
  unfold khs
  rw [h2, nI_clamp (by omega)]
  exact ⟨rfl, h1⟩
/-- the index -/
def cIx (z : zS) (σ : sS) : Prop := (∀ s, s < 1024 → vI σ 26 s = 0 ∨ ∃ n, n < zN z ∧ vI σ 26 s = nI (n + 1)) ∧ (∀ n, n < zN z → ∃ k, k < 1024 ∧ vI σ 26 ((khs (kyN (zX z n)) + k) % 1024) = nI (n + 1) ∧ ∀ k', k' < k → vI σ 26 ((khs (kyN (zX z n)) + k') % 1024) ≠ 0) ∧ ∀ s s', s < 1024 → s' < 1024 → vI σ 26 s = vI σ 26 s' → vI σ 26 s ≠ 0 → s = s'
/-- the component holds nodes and edges -/
def cZ (B : Nat × Nat) (c : Nat) (z : zS) (σ : sS) : Prop := vI σ c 6 = 1 ∧ vI σ c 7 = nI (zN z) ∧ (∀ n, n < zN z → vI σ (c + 3) n = nI (kyN (zX z n))) ∧ (300 ≤ vC σ (c + 3) ∧ 1024 ≤ vC σ 26) ∧ cIx z σ ∧ vU σ (c + 9) = nI (zE z) ∧ (∀ j, j < zE z → vI σ (c + 9) j = nI (zT z j)) ∧ zE z ≤ 270000 ∧ Rm B σ
theorem cIx.free {z : zS} {σ : sS} (h : cIx z σ) (hN : zN z ≤ 300) : ∃ s, s < 1024 ∧ vI σ 26 s = 0 := by
  refine Classical.byContradiction (fun hc => ?_)
  have hn : ∀ s, s < 1024 → vI σ 26 s ≠ 0 := fun s hs e => hc ⟨s, hs, e⟩
  have key : ∀ s, s < 1024 → ((vI σ 26 s).toNatClampNeg - 1) < zN z ∧ vI σ 26 s = nI ((vI σ 26 s).toNatClampNeg - 1 + 1) := by
    intro s hs
    rcases h.1 s hs with e | ⟨n, n1, n2⟩
    · exact absurd e (hn s hs)
    · rw [n2, nI_clamp (by omega)]
      exact ⟨by omega, by congr 1⟩
  have := pigeon (zN z) 1024 (fun s => (vI σ 26 s).toNatClampNeg - 1) (fun s hs => (key s hs).1) (fun a b ha hb e => by
    refine h.2.2 a b ha hb ?_ (hn a ha)
    rw [(key a ha).2, (key b hb).2]
    exact congrArg (fun q => nI (q + 1)) e)
  omega
theorem sl_n {s : Nat} (h : s < 1024) : (nI s + 1) &&& 1023 = nI ((s + 1) % 1024) := by
  rw [nI_1, show (1023 : Int32) = nI (2 ^ 10 - 1) from rfl, nI_and, Nat.and_two_pow_sub_one_eq_mod]
theorem nI_s1 {n : Nat} (hn : n < 1000) : nI (n + 1) - 1 = nI n ∧ ¬ nI (n + 1) = 0 := ⟨nI_pred n, fun c => by have := (nI_k0 (by omega)).mp c; omega⟩
theorem y_soA {B : Nat × Nat} {c m k0 : Nat} {z : zS} {x0 : nd} {σ : sS} (h : cZ B c z σ) (hO : zO x0 z) (hm : m < zN z) (hk0 : k0 < 1024) (h1 : vI σ 26 ((khs (kyN (zX z m)) + k0) % 1024) = nI (m + 1)) (h2 : ∀ k', k' < k0 → vI σ 26 ((khs (kyN (zX z m)) + k') % 1024) ≠ 0) : ∀ (d j : Nat), j + d = k0 → ∃ s, s < 1024 ∧ p_so σ c (nI (kyN (zX z m))) (1024 - j) (nI ((khs (kyN (zX z m)) + j) % 1024)) = nI s ∧ vI σ 26 s = nI (m + 1) := by
  have hN := hO.2.1
  have step : ∀ j, j ≤ k0 → (∃ s, s < 1024 ∧ p_so σ c (nI (kyN (zX z m))) (1024 - j) (nI ((khs (kyN (zX z m)) + j) % 1024)) = nI s ∧ vI σ 26 s = nI (m + 1)) ∨ (j < k0 ∧ p_so σ c (nI (kyN (zX z m))) (1024 - j) (nI ((khs (kyN (zX z m)) + j) % 1024)) = p_so σ c (nI (kyN (zX z m))) (1024 - (j + 1)) (nI ((khs (kyN (zX z m)) + (j + 1)) % 1024))) := by
    intro j hj
    have hs : (khs (kyN (zX z m)) + j) % 1024 < 1024 := Nat.mod_lt _ (by decide)
    have hne : vI σ 26 ((khs (kyN (zX z m)) + j) % 1024) ≠ 0 := by
      by_cases e : j = k0
      · rw [e, h1]; exact (nI_s1 (by omega)).2
      · exact h2 j (by omega)
    rcases h.2.2.2.2.1.1 _ hs with e | ⟨n, n1, n2⟩
    · exact absurd e hne
    · have e0 : 1024 - j = (1024 - (j + 1)) + 1 := by omega
      rw [e0, p_so, rg_nI (by omega), n2, (nI_s1 (show n < 1000 by omega)).1, if_neg (nI_pos (by omega)), rg_nI (by omega), h.2.2.1 n n1]
      by_cases ek : nI (kyN (zX z n)) = nI (kyN (zX z m))
      · rw [if_pos ek]
        have k1 := kyN_lt (hO.2.2.2.1 n n1)
        have k2 := kyN_lt (hO.2.2.2.1 m hm)
        have e1 := kyN_inj (hO.2.2.2.1 n n1) (hO.2.2.2.1 m hm) (nI_ij (by omega) (by omega) ek)
        have e2 := hO.2.2.2.2.2 n m n1 hm e1
        exact Or.inl ⟨_, hs, rfl, by rw [n2, e2]⟩
      · rw [if_neg ek, sl_n hs]
        refine Or.inr ⟨?_, ?_⟩
        · rcases Nat.lt_or_ge j k0 with q | q
          · exact q
          · have : j = k0 := by omega
            rw [this, h1] at n2
            have := nI_ij (by omega) (by omega) n2
            exact absurd (by rw [show n = m by omega]) ek
        · congr 2
          omega
  intro d
  induction d with
  | zero =>
    intro j hj
    rcases step j (by omega) with q | q
    · exact q
    · have := q.1; omega
  | succ d ih =>
    intro j hj
    rcases step j (by omega) with q | q
    · exact q
    · rw [q.2]
      exact ih (j + 1) (by omega)
theorem y_soB {B : Nat × Nat} {c k0 : Nat} {x : nd} {z : zS} {σ : sS} (h : cZ B c z σ) (hN : zN z ≤ 300) (hnd : ∀ n, n < zN z → ndO (zX z n)) (hx : ndO x) (hn : ∀ n, n < zN z → zX z n ≠ x) (hk0 : k0 < 1024) (h1 : vI σ 26 ((khs (kyN x) + k0) % 1024) = 0) : ∀ (d j : Nat), j + d = k0 → ∃ k, k < 1024 ∧ p_so σ c (nI (kyN x)) (1024 - j) (nI ((khs (kyN x) + j) % 1024)) = nI ((khs (kyN x) + k) % 1024) ∧ vI σ 26 ((khs (kyN x) + k) % 1024) = 0 ∧ ∀ k', j ≤ k' → k' < k → vI σ 26 ((khs (kyN x) + k') % 1024) ≠ 0 := by
  intro d
  induction d with
  | zero =>
    intro j hj
    have e : j = k0 := by omega
    subst e
    refine ⟨j, hk0, ?_, h1, fun k' a b => by omega⟩
    have hs : (khs (kyN x) + j) % 1024 < 1024 := Nat.mod_lt _ (by decide)
    rw [show 1024 - j = (1024 - (j + 1)) + 1 by omega, p_so, rg_nI (by omega), h1, if_pos (by decide)]
  | succ d ih =>
    intro j hj
    have hs : (khs (kyN x) + j) % 1024 < 1024 := Nat.mod_lt _ (by decide)
    rcases h.2.2.2.2.1.1 _ hs with e | ⟨n, n1, n2⟩
    · refine ⟨j, by omega, ?_, e, fun k' a b => by omega⟩
      rw [show 1024 - j = (1024 - (j + 1)) + 1 by omega, p_so, rg_nI (by omega), e, if_pos (by decide)]
    · obtain ⟨k, k1, k2, k3, k4⟩ := ih (j + 1) (by omega)
      refine ⟨k, k1, ?_, k3, fun k' a b => ?_⟩
      · have ky1 := kyN_lt (hnd n n1)
        have ky2 := kyN_lt hx
        rw [show 1024 - j = (1024 - (j + 1)) + 1 by omega, p_so, rg_nI (by omega), n2, (nI_s1 (show n < 1000 by omega)).1, if_neg (nI_pos (by omega)), rg_nI (by omega), h.2.2.1 n n1, if_neg (fun ek => hn n n1 (kyN_inj (hnd n n1) hx (nI_ij (by omega) (by omega) ek))), sl_n hs, ← k2]
        congr 2
        omega
      · by_cases e : k' = j
        · rw [e, n2]; exact (nI_s1 (by omega)).2
        · exact k4 k' (by omega) b
theorem y_slA {B : Nat × Nat} {c m : Nat} {z : zS} {x0 : nd} {σ : sS} (h : cZ B c z σ) (hO : zO x0 z) (hm : m < zN z) : ∃ s, s < 1024 ∧ p_sl σ c (nI (kyN (zX z m))) = nI s ∧ vI σ 26 s = nI (m + 1) := by
  obtain ⟨k0, q1, q2, q3⟩ := h.2.2.2.2.1.2.1 m hm
  obtain ⟨e1, e2⟩ := khs_e (kyN (zX z m))
  obtain ⟨s, s1, s2, s3⟩ := y_soA h hO hm q1 q2 q3 k0 0 (by omega)
  refine ⟨s, s1, ?_, s3⟩
  unfold p_sl
  rw [e1]
  rw [Nat.add_zero, Nat.mod_eq_of_lt e2] at s2
  exact s2
theorem y_slB {B : Nat × Nat} {c : Nat} {x : nd} {z : zS} {σ : sS} (h : cZ B c z σ) (hN : zN z ≤ 300) (hnd : ∀ n, n < zN z → ndO (zX z n)) (hx : ndO x) (hn : ∀ n, n < zN z → zX z n ≠ x) : ∃ k, k < 1024 ∧ p_sl σ c (nI (kyN x)) = nI ((khs (kyN x) + k) % 1024) ∧ vI σ 26 ((khs (kyN x) + k) % 1024) = 0 ∧ ∀ k', k' < k → vI σ 26 ((khs (kyN x) + k') % 1024) ≠ 0 := by
  obtain ⟨s, s1, s2⟩ := h.2.2.2.2.1.free hN
  obtain ⟨e1, e2⟩ := khs_e (kyN x)
  have hj : (khs (kyN x) + (s + 1024 - khs (kyN x)) % 1024) % 1024 = s := by omega
  obtain ⟨k, k1, k2, k3, k4⟩ := y_soB h hN hnd hx hn (k0 := (s + 1024 - khs (kyN x)) % 1024) (Nat.mod_lt _ (by decide)) (by rw [hj]; exact s2) ((s + 1024 - khs (kyN x)) % 1024) 0 (by omega)
  refine ⟨k, k1, ?_, k3, fun k' hk' => k4 k' (by omega) hk'⟩
  unfold p_sl
  rw [e1]
  rw [Nat.add_zero, Nat.mod_eq_of_lt e2] at k2
  exact k2
