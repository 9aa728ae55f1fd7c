/-! references that may be null -/
def q_at (σ : sS) (x : Int32) : Bool := decide (0 ≤ x) && (decide (x < vI σ 0 9) && decide (x < 3))
theorem q_at_of {σ : sS} {x : Int32} (h : q_at σ x = true) : 0 ≤ x ∧ x < vI σ 0 9 ∧ x < 3 := by simpa [q_at] using h
theorem inb_lt {x k : Int32} {n : Nat} (h0 : 0 ≤ x) (h : x < k) (hk : k = nI n) (hn : n < 2 ^ 31) : inb x n = true := by
  have e := nI_up h0
  have hx : x.toNatClampNeg < 2 ^ 31 := Int32.toNatClampNeg_lt x
  have h2 : x.toNatClampNeg < n := by
    rw [← e, hk] at h
    exact (nI_ltI hx hn).mp h
  simp [inb, h0, h2]
theorem c_X11_machineAt {ad : Nat → Nat} (σ : sS) {x : Int32} (hq : q_at σ x = true) : ab_X (sR ad) 1 mX11_machineAt [.ref (ad 0), .int x] σ (some (.ref (ad (27 + x.toNatClampNeg)))) σ := by
  obtain ⟨q1, q2, q3⟩ := q_at_of hq
  have h1 : ¬ x < 0 := Int32.not_lt.mpr q1
  have h2 : ¬ vI σ 0 9 ≤ x := Int32.not_le.mpr q2
  have h3 : ¬ 3 ≤ x := Int32.not_le.mpr q3
  have hb : inb x 3 = true := inb_lt q1 q3 rfl (by decide)
  refine ab_X.of (by decide) (Nat.le_of_ble_eq_true rfl) ?_
  refine r_iload_n dX11_machineAt_0 1 rfl ?_
  refine r_if_lt (t := 26) dX11_machineAt_1 (by decide) (fun hh => absurd hh h1) (fun _ => ?_)
  refine r_iload_n dX11_machineAt_4 1 rfl ?_
  refine r_aload_n dX11_machineAt_5 0 rfl ?_
  refine s_getI ok_X11 dX11_machineAt_6 (k := 9) (by decide) fl_X11_115 rfl rfl ?_
  refine r_icmp_ge (t := 26) dX11_machineAt_9 (by decide) (fun hh => absurd hh h2) (fun _ => ?_)
  refine r_iload_n dX11_machineAt_12 1 rfl ?_
  refine r_iconst (v := 3) dX11_machineAt_13 (by decide) ?_
  refine r_icmp_ge (t := 26) dX11_machineAt_14 (by decide) (fun hh => absurd hh h3) (fun _ => ?_)
  refine r_aload_n dX11_machineAt_17 0 rfl ?_
  refine s_getR (b := 17) ok_X11 dX11_machineAt_18 (k := 3) (by decide) fl_X11_34 rfl rfl rfl ?_
  refine r_iload_n dX11_machineAt_21 1 rfl ?_
  refine s_aald5 (b := 27 + x.toNatClampNeg) dX11_machineAt_22 rfl (inb_of hb) (sr_17 (inb_sp hb).2) ?_
  refine r_goto (t := 27) dX11_machineAt_23 (by decide) ?_
  refine r_aret rfl (Or.inl ⟨_, rfl⟩) (Or.inr ⟨_, rfl⟩) dX11_machineAt_27 ?_
  exact ⟨rfl, rfl⟩
theorem c_X11_machineAtN {ad : Nat → Nat} (σ : sS) {x : Int32} (hq : ¬ q_at σ x = true) : ab_X (sR ad) 1 mX11_machineAt [.ref (ad 0), .int x] σ (some .null) σ := by
  refine ab_X.of (by decide) (Nat.le_of_ble_eq_true rfl) ?_
  by_cases h1 : x < 0
  · skip
    refine r_iload_n dX11_machineAt_0 1 rfl ?_
    refine r_if_lt (t := 26) dX11_machineAt_1 (by decide) (fun _ => ?_) (fun hh => absurd h1 hh)
    refine r_null dX11_machineAt_26 ?_
    refine r_aret rfl (Or.inl ⟨_, rfl⟩) (Or.inl rfl) dX11_machineAt_27 ?_
    exact ⟨rfl, rfl⟩
  by_cases h9 : vI σ 0 9 ≤ x
  · skip
    refine r_iload_n dX11_machineAt_0 1 rfl ?_
    refine r_if_lt (t := 26) dX11_machineAt_1 (by decide) (fun hh => absurd hh h1) (fun _ => ?_)
    refine r_iload_n dX11_machineAt_4 1 rfl ?_
    refine r_aload_n dX11_machineAt_5 0 rfl ?_
    refine s_getI ok_X11 dX11_machineAt_6 (k := 9) (by decide) fl_X11_115 rfl rfl ?_
    refine r_icmp_ge (t := 26) dX11_machineAt_9 (by decide) (fun _ => ?_) (fun hh => absurd h9 hh)
    refine r_null dX11_machineAt_26 ?_
    refine r_aret rfl (Or.inl ⟨_, rfl⟩) (Or.inl rfl) dX11_machineAt_27 ?_
    exact ⟨rfl, rfl⟩
  by_cases h14 : 3 ≤ x
  · skip
    refine r_iload_n dX11_machineAt_0 1 rfl ?_
    refine r_if_lt (t := 26) dX11_machineAt_1 (by decide) (fun hh => absurd hh h1) (fun _ => ?_)
    refine r_iload_n dX11_machineAt_4 1 rfl ?_
    refine r_aload_n dX11_machineAt_5 0 rfl ?_
    refine s_getI ok_X11 dX11_machineAt_6 (k := 9) (by decide) fl_X11_115 rfl rfl ?_
    refine r_icmp_ge (t := 26) dX11_machineAt_9 (by decide) (fun hh => absurd hh h9) (fun _ => ?_)
    refine r_iload_n dX11_machineAt_12 1 rfl ?_
    refine r_iconst (v := 3) dX11_machineAt_13 (by decide) ?_
    refine r_icmp_ge (t := 26) dX11_machineAt_14 (by decide) (fun _ => ?_) (fun hh => absurd h14 hh)
    refine r_null dX11_machineAt_26 ?_
    refine r_aret rfl (Or.inl ⟨_, rfl⟩) (Or.inl rfl) dX11_machineAt_27 ?_
    exact ⟨rfl, rfl⟩
  exact absurd (by simp [q_at, Int32.not_lt.mp h1, Int32.not_le.mp h9, Int32.not_le.mp h14]) hq
theorem c_X11_complementAt {ad : Nat → Nat} (σ : sS) {x : Int32} (hq : q_at σ x = true) : ab_X (sR ad) 1 mX11_complementAt [.ref (ad 0), .int x] σ (some (.ref (ad (33 + x.toNatClampNeg)))) σ := by
  obtain ⟨q1, q2, q3⟩ := q_at_of hq
  have h1 : ¬ x < 0 := Int32.not_lt.mpr q1
  have h2 : ¬ vI σ 0 9 ≤ x := Int32.not_le.mpr q2
  have h3 : ¬ 3 ≤ x := Int32.not_le.mpr q3
  have hb : inb x 3 = true := inb_lt q1 q3 rfl (by decide)
  refine ab_X.of (by decide) (Nat.le_of_ble_eq_true rfl) ?_
  refine r_iload_n dX11_complementAt_0 1 rfl ?_
  refine r_if_lt (t := 26) dX11_complementAt_1 (by decide) (fun hh => absurd hh h1) (fun _ => ?_)
  refine r_iload_n dX11_complementAt_4 1 rfl ?_
  refine r_aload_n dX11_complementAt_5 0 rfl ?_
  refine s_getI ok_X11 dX11_complementAt_6 (k := 9) (by decide) fl_X11_115 rfl rfl ?_
  refine r_icmp_ge (t := 26) dX11_complementAt_9 (by decide) (fun hh => absurd hh h2) (fun _ => ?_)
  refine r_iload_n dX11_complementAt_12 1 rfl ?_
  refine r_iconst (v := 3) dX11_complementAt_13 (by decide) ?_
  refine r_icmp_ge (t := 26) dX11_complementAt_14 (by decide) (fun hh => absurd hh h3) (fun _ => ?_)
  refine r_aload_n dX11_complementAt_17 0 rfl ?_
  refine s_getR (b := 18) ok_X11 dX11_complementAt_18 (k := 4) (by decide) fl_X11_40 rfl rfl rfl ?_
  refine r_iload_n dX11_complementAt_21 1 rfl ?_
  refine s_aald6 (b := 33 + x.toNatClampNeg) dX11_complementAt_22 rfl (inb_of hb) (sr_18 (inb_sp hb).2) ?_
  refine r_goto (t := 27) dX11_complementAt_23 (by decide) ?_
  refine r_aret rfl (Or.inl ⟨_, rfl⟩) (Or.inr ⟨_, rfl⟩) dX11_complementAt_27 ?_
  exact ⟨rfl, rfl⟩
theorem c_X11_complementAtN {ad : Nat → Nat} (σ : sS) {x : Int32} (hq : ¬ q_at σ x = true) : ab_X (sR ad) 1 mX11_complementAt [.ref (ad 0), .int x] σ (some .null) σ := by
  refine ab_X.of (by decide) (Nat.le_of_ble_eq_true rfl) ?_
  by_cases h1 : x < 0
  · skip
    refine r_iload_n dX11_complementAt_0 1 rfl ?_
    refine r_if_lt (t := 26) dX11_complementAt_1 (by decide) (fun _ => ?_) (fun hh => absurd h1 hh)
    refine r_null dX11_complementAt_26 ?_
    refine r_aret rfl (Or.inl ⟨_, rfl⟩) (Or.inl rfl) dX11_complementAt_27 ?_
    exact ⟨rfl, rfl⟩
  by_cases h9 : vI σ 0 9 ≤ x
  · skip
    refine r_iload_n dX11_complementAt_0 1 rfl ?_
    refine r_if_lt (t := 26) dX11_complementAt_1 (by decide) (fun hh => absurd hh h1) (fun _ => ?_)
    refine r_iload_n dX11_complementAt_4 1 rfl ?_
    refine r_aload_n dX11_complementAt_5 0 rfl ?_
    refine s_getI ok_X11 dX11_complementAt_6 (k := 9) (by decide) fl_X11_115 rfl rfl ?_
    refine r_icmp_ge (t := 26) dX11_complementAt_9 (by decide) (fun _ => ?_) (fun hh => absurd h9 hh)
    refine r_null dX11_complementAt_26 ?_
    refine r_aret rfl (Or.inl ⟨_, rfl⟩) (Or.inl rfl) dX11_complementAt_27 ?_
    exact ⟨rfl, rfl⟩
  by_cases h14 : 3 ≤ x
  · skip
    refine r_iload_n dX11_complementAt_0 1 rfl ?_
    refine r_if_lt (t := 26) dX11_complementAt_1 (by decide) (fun hh => absurd hh h1) (fun _ => ?_)
    refine r_iload_n dX11_complementAt_4 1 rfl ?_
    refine r_aload_n dX11_complementAt_5 0 rfl ?_
    refine s_getI ok_X11 dX11_complementAt_6 (k := 9) (by decide) fl_X11_115 rfl rfl ?_
    refine r_icmp_ge (t := 26) dX11_complementAt_9 (by decide) (fun hh => absurd hh h9) (fun _ => ?_)
    refine r_iload_n dX11_complementAt_12 1 rfl ?_
    refine r_iconst (v := 3) dX11_complementAt_13 (by decide) ?_
    refine r_icmp_ge (t := 26) dX11_complementAt_14 (by decide) (fun _ => ?_) (fun hh => absurd h14 hh)
    refine r_null dX11_complementAt_26 ?_
    refine r_aret rfl (Or.inl ⟨_, rfl⟩) (Or.inl rfl) dX11_complementAt_27 ?_
    exact ⟨rfl, rfl⟩
  exact absurd (by simp [q_at, Int32.not_lt.mp h1, Int32.not_le.mp h9, Int32.not_le.mp h14]) hq
def q_lt (σ : sS) : Bool := decide (0 < vI σ 3 6) && (decide (vI σ 3 6 ≤ 3) && inb (vI σ 3 6 - 1) 3)
theorem c_latest {ad : Nat → Nat} (σ : sS) (hq : q_lt σ = true) : ab_X (sR ad) 1 mX5_latest [.ref (ad 3)] σ (some (.ref (ad (9 + (vI σ 3 6 - 1).toNatClampNeg)))) σ := by
  obtain ⟨q1, q2⟩ := Bool.and_eq_true_iff.mp hq
  obtain ⟨q3, hb⟩ := Bool.and_eq_true_iff.mp q2
  have h1 : ¬ vI σ 3 6 ≤ 0 := Int32.not_le.mpr (of_decide_eq_true q1)
  have h2 : ¬ 3 < vI σ 3 6 := Int32.not_lt.mpr (of_decide_eq_true q3)
  refine ab_X.of (by decide) (Nat.le_of_ble_eq_true rfl) ?_
  refine r_aload_n dX5_latest_0 0 rfl ?_
  refine s_getI ok_X5 dX5_latest_1 (k := 6) (by decide) fl_X5_40 rfl rfl ?_
  refine r_if_le (t := 29) dX5_latest_4 (by decide) (fun hh => absurd hh h1) (fun _ => ?_)
  refine r_aload_n dX5_latest_7 0 rfl ?_
  refine s_getI ok_X5 dX5_latest_8 (k := 6) (by decide) fl_X5_40 rfl rfl ?_
  refine r_iconst (v := 3) dX5_latest_11 (by decide) ?_
  refine r_icmp_gt (t := 29) dX5_latest_12 (by decide) (fun hh => absurd hh h2) (fun _ => ?_)
  refine r_aload_n dX5_latest_15 0 rfl ?_
  refine s_getR (b := 8) ok_X5 dX5_latest_16 (k := 3) (by decide) fl_X5_25 rfl rfl rfl ?_
  refine r_aload_n dX5_latest_19 0 rfl ?_
  refine s_getI ok_X5 dX5_latest_20 (k := 6) (by decide) fl_X5_40 rfl rfl ?_
  refine r_iconst (v := 1) dX5_latest_23 (by decide) ?_
  refine r_isub dX5_latest_24 ?_
  refine s_aald5 (b := 9 + (vI σ 3 6 - 1).toNatClampNeg) dX5_latest_25 rfl (inb_of hb) (sr_8 (inb_sp hb).2) ?_
  refine r_goto (t := 30) dX5_latest_26 (by decide) ?_
  refine r_aret rfl (Or.inl ⟨_, rfl⟩) (Or.inr ⟨_, rfl⟩) dX5_latest_30 ?_
  exact ⟨rfl, rfl⟩
theorem q_lt_in {x : Int32} (h1 : ¬ x ≤ 0) (h2 : ¬ 3 < x) : inb (x - 1) 3 = true := by
  have q1 : 0 < x := Int32.not_le.mp h1
  obtain ⟨j, hj, e⟩ := nI_of (x := x) (fun q => h1 (Int32.le_of_lt q))
  have h3 : j ≤ 3 := by
    have h4 := Int32.not_lt.mp h2
    rw [e] at h4
    exact (nI_leI hj (b := 3) (by decide)).mp h4
  have h0 : j ≠ 0 := fun q => h1 (by rw [e, q]; decide)
  have h5 : j = 1 ∨ j = 2 ∨ j = 3 := by omega
  rw [e]
  rcases h5 with rfl | rfl | rfl <;> decide
theorem c_latestN {ad : Nat → Nat} (σ : sS) (hq : ¬ q_lt σ = true) : ab_X (sR ad) 1 mX5_latest [.ref (ad 3)] σ (some .null) σ := by
  refine ab_X.of (by decide) (Nat.le_of_ble_eq_true rfl) ?_
  by_cases h4 : vI σ 3 6 ≤ 0
  · skip
    refine r_aload_n dX5_latest_0 0 rfl ?_
    refine s_getI ok_X5 dX5_latest_1 (k := 6) (by decide) fl_X5_40 rfl rfl ?_
    refine r_if_le (t := 29) dX5_latest_4 (by decide) (fun _ => ?_) (fun hh => absurd h4 hh)
    refine r_null dX5_latest_29 ?_
    refine r_aret rfl (Or.inl ⟨_, rfl⟩) (Or.inl rfl) dX5_latest_30 ?_
    exact ⟨rfl, rfl⟩
  by_cases h12 : 3 < vI σ 3 6
  · skip
    refine r_aload_n dX5_latest_0 0 rfl ?_
    refine s_getI ok_X5 dX5_latest_1 (k := 6) (by decide) fl_X5_40 rfl rfl ?_
    refine r_if_le (t := 29) dX5_latest_4 (by decide) (fun hh => absurd hh h4) (fun _ => ?_)
    refine r_aload_n dX5_latest_7 0 rfl ?_
    refine s_getI ok_X5 dX5_latest_8 (k := 6) (by decide) fl_X5_40 rfl rfl ?_
    refine r_iconst (v := 3) dX5_latest_11 (by decide) ?_
    refine r_icmp_gt (t := 29) dX5_latest_12 (by decide) (fun _ => ?_) (fun hh => absurd h12 hh)
    refine r_null dX5_latest_29 ?_
    refine r_aret rfl (Or.inl ⟨_, rfl⟩) (Or.inl rfl) dX5_latest_30 ?_
    exact ⟨rfl, rfl⟩
  exact absurd (by simp [q_lt, Int32.not_le.mp h4, Int32.not_lt.mp h12, q_lt_in h4 h12]) hq
