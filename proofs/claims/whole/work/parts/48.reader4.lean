/-! Reader.latest: the drafts are 9, 10, 11 -/
theorem dr_at : ∀ M, M < 3 → sr 8 (nI M).toNatClampNeg = some (9 + M) := by decide +kernel
theorem c_X5_latestN {ad : Nat → Nat} (σ : sS) (hM : vI σ 3 6 = 0) : ab_X (sR ad) 1 mX5_latest [.ref (ad 3)] σ (some .null) σ := by
  have hc : vI σ 3 6 ≤ 0 := by rw [hM]; decide
  refine ab_X.of (by decide) (Nat.le_of_ble_eq_true rfl) ?_
  refine r_aload_n dX5_latest_0 0 rfl ?_
  refine s_getI ok_X5 dX5_latest_1 (k := 6) (by decide) fl_X5_40 rfl rfl ?_
  refine r_if_le (t := 29) dX5_latest_4 (by decide) (fun _ => ?_) (fun hh => absurd hc hh)
  refine r_null dX5_latest_29 ?_
  refine r_aret rfl (Or.inl ⟨_, rfl⟩) (Or.inl rfl) dX5_latest_30 ?_
  exact ⟨rfl, rfl⟩
theorem c_X5_latest {ad : Nat → Nat} (σ : sS) {M : Nat} (hM : vI σ 3 6 = nI (M + 1)) (hM3 : M < 3) : ab_X (sR ad) 1 mX5_latest [.ref (ad 3)] σ (some (.ref (ad (9 + M)))) σ := by
  have hc : ¬ vI σ 3 6 ≤ 0 := by rw [hM]; exact nI_nle (by omega) (by omega)
  have hc2 : ¬ 3 < vI σ 3 6 := by rw [hM]; exact nI_nlt (b := M + 1) (a := 3) (by omega) (by decide)
  refine ab_X.of (by decide) (Nat.le_of_ble_eq_true rfl) ?_
  refine r_aload_n dX5_latest_0 0 rfl ?_
  refine s_getI ok_X5 dX5_latest_1 (k := 6) (by decide) fl_X5_40 rfl rfl ?_
  refine r_if_le (t := 29) dX5_latest_4 (by decide) (fun hh => absurd hh hc) (fun _ => ?_)
  refine r_aload_n dX5_latest_7 0 rfl ?_
  refine s_getI ok_X5 dX5_latest_8 (k := 6) (by decide) fl_X5_40 rfl rfl ?_
  refine r_iconst (v := 3) dX5_latest_11 (by decide) ?_
  refine r_icmp_gt (t := 29) dX5_latest_12 (by decide) (fun hh => absurd hh hc2) (fun _ => ?_)
  refine r_aload_n dX5_latest_15 0 rfl ?_
  refine s_getR (b := 8) ok_X5 dX5_latest_16 (k := 3) (by decide) fl_X5_25 rfl rfl rfl ?_
  refine r_aload_n dX5_latest_19 0 rfl ?_
  refine s_getI ok_X5 dX5_latest_20 (k := 6) (by decide) fl_X5_40 rfl rfl ?_
  refine r_iconst (v := 1) dX5_latest_23 (by decide) ?_
  refine r_isub dX5_latest_24 ?_
  rw [hM, nI_pred]
  refine s_aald5 (b := 9 + M) dX5_latest_25 rfl (vp_in_nI hM3 (by decide)) (dr_at M hM3) ?_
  refine r_goto (t := 30) dX5_latest_26 (by decide) ?_
  refine r_aret rfl (Or.inl ⟨_, rfl⟩) (Or.inr ⟨_, rfl⟩) dX5_latest_30 ?_
  exact ⟨rfl, rfl⟩
