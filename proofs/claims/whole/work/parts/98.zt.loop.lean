/-! the law's loop; its start; its end -/
theorem lw_lt {sn k : Nat} (hn : sn ≤ 3072) (hk : k ≤ 600) : (nI sn - 6 < nI (6 * k)) ↔ sn < 6 * k + 6 := by
  rcases Nat.lt_or_ge sn 6 with c | c
  · have h1 : nI sn - 6 < 0 := (by decide +kernel : ∀ s, s < 6 → nI s - 6 < 0) sn c
    have h2 := i_lt.mp h1
    have e0 : (0 : Int32).toInt = 0 := rfl
    have e1 := nI_toInt (show 6 * k < 2 ^ 31 by omega)
    exact ⟨fun _ => by omega, fun _ => i_lt.mpr (by rw [e1]; omega)⟩
  · have e : nI sn - 6 = nI (sn - 6) := by
      have h := nI_add (sn - 6) 6
      rw [Nat.sub_add_cancel c] at h
      rw [← h]
      exact Int32.add_sub_cancel _ _
    rw [e, nI_ltI (by omega) (by omega)]
    omega
theorem lw_loop {F sn : Nat} {sq : Nat → Int32} {kx : sS → Option (Int32 × sS)} (hF : 40000000 < F) (hn : sn ≤ 3072) : ∀ (m k n : Nat) (b : Nat × Nat) (A : aS) (σ : sS), 6 * (k + m) ≤ sn → sn < 6 * (k + m) + 6 → m < n → LW b A σ → ∃ b' A' σ', L_L_law_23 F sn sq kx n (nI (6 * k)) σ = kx σ' ∧ LW b' A' σ' ∧ b'.1 ≤ b.1 + m ∧ b'.2 ≤ b.2 + 6 * m := by
  intro m
  induction m with
  | zero =>
    intro k n b A σ h1 h2 hm h
    obtain ⟨n, rfl⟩ : ∃ g, n = g + 1 := ⟨n - 1, by omega⟩
    refine ⟨b, A, σ, ?_, h, by omega, by omega⟩
    rw [L_L_law_23, if_pos ((lw_lt hn (by omega)).mpr (by omega))]
  | succ m ih =>
    intro k n b A σ h1 h2 hm h
    obtain ⟨n, rfl⟩ : ∃ g, n = g + 1 := ⟨n - 1, by omega⟩
    obtain ⟨b1, A1, σ1, e1, e2, e3, e4⟩ := lw_step (sq := sq) (kx := kx) (n := n) (k := k) hF hn (by omega) (fun q => by have := (lw_lt hn (by omega)).mp q; omega) h
    have e6 : nI (6 * k) + 6 = nI (6 * (k + 1)) := nI_add (6 * k) 6
    rw [e6] at e1
    obtain ⟨b2, A2, σ2, u1, u2, u3, u4⟩ := ih (k + 1) n b1 A1 σ1 (by omega) (by omega) (by omega) e2
    exact ⟨b2, A2, σ2, e1.trans u1, u2, by omega, by omega⟩
/-- the state at the start -/
def A00 : aS := ((0, fun _ => 0), (0, 0, -1), (0, 0, fun _ => (0, 0, 0, fun _ _ => 0)), (none, 0))
theorem s0_c0 : C0 A00 s00 := by
  refine ⟨⟨Nat.zero_le _, rfl, fun _ _ => rfl, rfl⟩, ⟨rfl, rfl, fun q => absurd q (by decide), fun _ => rfl, rfl⟩, ⟨Nat.zero_le _, Nat.zero_le _, rfl, fun a ha => ?_, fun a ha => absurd ha (Nat.not_lt_zero _)⟩, rfl⟩
  exact (by decide +kernel : ∀ a, a < 3 → cp_tab.getD (30 + a) 0 = 12) a ha
theorem s0_r0 : R0 A00 s00 := ⟨⟨Nat.zero_le _, rfl, fun _ _ => rfl⟩, ⟨rfl, rfl, rfl, rfl⟩, ⟨Nat.zero_le _, Nat.zero_le _, rfl, rfl, fun a ha => absurd ha (Nat.not_lt_zero _)⟩, rfl⟩
theorem s0_lw : LW (143, 316186) A00 s00 := by
  refine ⟨⟨s0_c0, ⟨⟨fun a ha => ?_, ?_, ?_⟩, ⟨rfl, rfl⟩, rfl⟩, ⟨fun r hr => ?_, ?_, ?_⟩, fun i hi => absurd hi (Nat.not_lt_zero _), fun _ _ _ => rfl, ⟨46, 47, Or.inl ⟨rfl, rfl⟩, rfl, rfl⟩⟩, ⟨s0_r0, fun i hi => absurd hi (Nat.not_lt_zero _)⟩, Or.inl rfl⟩
  · exact (by decide +kernel : ∀ a, a < 3 → cp_tab.getD (12 + a) 0 = 12) a ha
  · show 3 ≤ cp_tab.getD 4 0
    decide
  · show 3 ≤ cp_tab.getD 5 0
    decide
  · have h : ∀ r, r ∈ grR → cp_tab.getD r 0 = 0 := by decide +kernel
    have e : vC s00 r = 0 := h r hr
    rw [e]
    exact Nat.zero_le _
  · show 143 ≤ 143 + _
    omega
  · show 316186 ≤ 316186 + _
    omega
theorem gc_13 {n : Nat} (h : n ≤ 6000) : gc n ≤ 13 := by
  unfold gc
  split
  · omega
  · rw [if_neg (by omega)]
    rename_i c
    have := (Nat.log2_lt c).mpr (show n < 2 ^ 13 by omega)
    omega
theorem gc_21 {n : Nat} (h : n ≤ 270000) : gc n ≤ 21 := by
  unfold gc
  split
  · omega
  · split
    · omega
    · rename_i c _
      have := (Nat.log2_lt c).mpr (show n < 2 ^ 19 by omega)
      omega
theorem gw_12 {n : Nat} (h : n ≤ 6000) : gw n ≤ 12000 := by
  unfold gw
  rw [if_neg (by omega)]
  omega
theorem gw_81 {n : Nat} (h : n ≤ 270000) : gw n ≤ 810000 := by
  unfold gw
  split <;> omega
theorem sm_lm {f g : Nat → Nat} : ∀ l : List Nat, (∀ r, r ∈ l → f r ≤ g r) → sm f l ≤ sm g l
  | [], _ => Nat.le_refl _
  | r :: l, h => Nat.add_le_add (h r List.mem_cons_self) (sm_lm l (fun x hx => h x (List.mem_cons_of_mem _ hx)))
theorem lw_room {b : Nat × Nat} {A : aS} {σ : sS} (h : LW b A σ) : (vk σ).1 ≤ b.1 + 414 ∧ (vk σ).2 ≤ b.2 + 2754000 := by
  obtain ⟨h1, h2, h3⟩ := h.1.2.2.1
  have e1 : sm (fun r => gc (vC σ r)) grR ≤ sm (fun r => if r = 42 ∨ r = 43 ∨ r = 44 then 21 else 13) grR := by
    refine sm_lm _ (fun r hr => ?_)
    have q := h1 r hr
    unfold lim at q
    by_cases c : r = 42 ∨ r = 43 ∨ r = 44
    · rw [if_pos c] at q
      simp only [if_pos c]
      exact gc_21 q
    · rw [if_neg c] at q
      simp only [if_neg c]
      exact gc_13 q
  have e2 : sm (fun r => gw (vC σ r)) grR ≤ sm (fun r => if r = 42 ∨ r = 43 ∨ r = 44 then 810000 else 12000) grR := by
    refine sm_lm _ (fun r hr => ?_)
    have q := h1 r hr
    unfold lim at q
    by_cases c : r = 42 ∨ r = 43 ∨ r = 44
    · rw [if_pos c] at q
      simp only [if_pos c]
      exact gw_81 q
    · rw [if_neg c] at q
      simp only [if_neg c]
      exact gw_12 q
  have d1 : sm (fun r => if r = 42 ∨ r = 43 ∨ r = 44 then 21 else 13) grR = 414 := by decide +kernel
  have d2 : sm (fun r => if r = 42 ∨ r = 43 ∨ r = 44 then 810000 else 12000) grR = 2754000 := by decide +kernel
  rw [d1] at e1
  rw [d2] at e2
  have q1 : (vk σ).1 ≤ b.1 + sm (fun r => gc (vC σ r)) grR := h2
  have q2 : (vk σ).2 ≤ b.2 + sm (fun r => gw (vC σ r)) grR := h3
  omega
