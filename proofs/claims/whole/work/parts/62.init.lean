/-! constructors -/
theorem df_X7 {b : Nat} : ∀ j, j < 2 → defaultValue (tyX7 j) = vp_V (([1, 0] : List Nat).map (vd b)) j := by
  have h : ∀ j, j < 2 → defaultValue (tyX7 j) = vp_V (([1, 0] : List Nat).map (vd 0)) j := by decide +kernel
  exact h
theorem df_X0 {b : Nat} : ∀ j, j < 5 → defaultValue (tyX0 j) = vp_V (([1, 0, 0, 0, 0] : List Nat).map (vd b)) j := by
  have h : ∀ j, j < 5 → defaultValue (tyX0 j) = vp_V (([1, 0, 0, 0, 0] : List Nat).map (vd 0)) j := by decide +kernel
  exact h
theorem df_X9 {b : Nat} : ∀ j, j < 9 → defaultValue (tyX9 j) = vp_V (([1, 0, 0, 0, 0, 0, 0, 0, 0] : List Nat).map (vd b)) j := by
  have h : ∀ j, j < 9 → defaultValue (tyX9 j) = vp_V (([1, 0, 0, 0, 0, 0, 0, 0, 0] : List Nat).map (vd 0)) j := by decide +kernel
  exact h
theorem df_X5 {b : Nat} : ∀ j, j < 8 → defaultValue (tyX5 j) = vp_V (([1, 1, 1, 1, 1, 1, 0, 0] : List Nat).map (vd b)) j := by
  have h : ∀ j, j < 8 → defaultValue (tyX5 j) = vp_V (([1, 1, 1, 1, 1, 1, 0, 0] : List Nat).map (vd 0)) j := by decide +kernel
  exact h
theorem df_X4 {b : Nat} : ∀ j, j < 5 → defaultValue (tyX4 j) = vp_V (([1, 0, 0, 0, 0] : List Nat).map (vd b)) j := by
  have h : ∀ j, j < 5 → defaultValue (tyX4 j) = vp_V (([1, 0, 0, 0, 0] : List Nat).map (vd 0)) j := by decide +kernel
  exact h
theorem df_X1 {b : Nat} : ∀ j, j < 8 → defaultValue (tyX1 j) = vp_V (([1, 1, 1, 1, 1, 1, 0, 0] : List Nat).map (vd b)) j := by
  have h : ∀ j, j < 8 → defaultValue (tyX1 j) = vp_V (([1, 1, 1, 1, 1, 1, 0, 0] : List Nat).map (vd 0)) j := by decide +kernel
  exact h
theorem df_X3 {b : Nat} : ∀ j, j < 9 → defaultValue (tyX3 j) = vp_V (([1, 1, 1, 1, 1, 1, 0, 0, 0] : List Nat).map (vd b)) j := by
  have h : ∀ j, j < 9 → defaultValue (tyX3 j) = vp_V (([1, 1, 1, 1, 1, 1, 0, 0, 0] : List Nat).map (vd 0)) j := by decide +kernel
  exact h
theorem df_X6 {b : Nat} : ∀ j, j < 8 → defaultValue (tyX6 j) = vp_V (([1, 1, 1, 1, 1, 1, 1, 0] : List Nat).map (vd b)) j := by
  have h : ∀ j, j < 8 → defaultValue (tyX6 j) = vp_V (([1, 1, 1, 1, 1, 1, 1, 0] : List Nat).map (vd 0)) j := by decide +kernel
  exact h
theorem df_X10 {b : Nat} : ∀ j, j < 9 → defaultValue (tyX10 j) = vp_V (([1, 1, 1, 1, 1, 1, 1, 0, 0] : List Nat).map (vd b)) j := by
  have h : ∀ j, j < 9 → defaultValue (tyX10 j) = vp_V (([1, 1, 1, 1, 1, 1, 1, 0, 0] : List Nat).map (vd 0)) j := by decide +kernel
  exact h
theorem df_X8 {b : Nat} : ∀ j, j < 9 → defaultValue (tyX8 j) = vp_V (([1, 1, 1, 1, 1, 1, 0, 0, 0] : List Nat).map (vd b)) j := by
  have h : ∀ j, j < 9 → defaultValue (tyX8 j) = vp_V (([1, 1, 1, 1, 1, 1, 0, 0, 0] : List Nat).map (vd 0)) j := by decide +kernel
  exact h
theorem df_X11 {b : Nat} : ∀ j, j < 12 → defaultValue (tyX11 j) = vp_V (([1, 1, 1, 1, 1, 1, 1, 1, 1, 0, 0, 0] : List Nat).map (vd b)) j := by
  have h : ∀ j, j < 12 → defaultValue (tyX11 j) = vp_V (([1, 1, 1, 1, 1, 1, 1, 1, 1, 0, 0, 0] : List Nat).map (vd 0)) j := by decide +kernel
  exact h
theorem df_X12 {b : Nat} : ∀ j, j < 72 → defaultValue (tyX12 j) = vp_V (([0, 0, 0, 1, 0, 0, 0, 0, 0, 0, 0, 0, 0, 2, 1, 1, 1, 1, 1, 0, 0, 0, 0, 1, 1, 1, 1, 1, 1, 1, 1, 1, 0, 0, 0, 0, 1, 0, 0, 1, 1, 0, 0, 1, 1, 1, 1, 0, 0, 1, 1, 1, 1, 0, 1, 1, 1, 1, 1, 1, 1, 0, 0, 0, 1, 1, 1, 1, 0, 0, 0, 0] : List Nat).map (vd b)) j := by
  have h : ∀ j, j < 72 → defaultValue (tyX12 j) = vp_V (([0, 0, 0, 1, 0, 0, 0, 0, 0, 0, 0, 0, 0, 2, 1, 1, 1, 1, 1, 0, 0, 0, 0, 1, 1, 1, 1, 1, 1, 1, 1, 1, 0, 0, 0, 0, 1, 0, 0, 1, 1, 0, 0, 1, 1, 1, 1, 0, 0, 1, 1, 1, 1, 0, 1, 1, 1, 1, 1, 1, 1, 0, 0, 0, 1, 1, 1, 1, 0, 0, 0, 0] : List Nat).map (vd 0)) j := by decide +kernel
  exact h
set_option maxRecDepth 8000 in
def C_X2_init (x0 : Nat) (σ : cS) : Option cS := some σ
set_option maxRecDepth 8000 in
theorem lC_X2_init {b : Nat} {kk : Nat → Nat} {x0 : Nat} {σ τ : cS} (h : C_X2_init x0 σ = some τ) : ab_X (pC b kk) 2 mX2_init [.ref (b + x0)] σ none τ := by
  refine ab_X.of (by decide) (Nat.le_of_ble_eq_true rfl) ?_
  unfold C_X2_init at h
  refine r_aload_n dX2_init_0 0 rfl ?_
  refine r_obj dX2_init_1 (by decide) ml_X2_1 ob_i ob_c (by decide) ?_
  refine r_vret rfl dX2_init_4 ?_
  exact lfC h
set_option maxRecDepth 8000 in
def C_X7_init (x0 : Nat) (x1 : Int32) (σ : cS) : Option cS := grd (inb (mnI (mxI x1 0) 270000) 270301) (bnd σ.1.length (fun nq2 => bnd (cArr 1 (mnI (mxI x1 0) 270000).toNatClampNeg [] σ) (fun σ3 => bd (cPut 6 σ3 x0 0 (4 + nq2)) (fun σ5 => some σ5))))
set_option maxRecDepth 8000 in
theorem lC_X7_init {b : Nat} {kk : Nat → Nat} {x0 : Nat} {x1 : Int32} {σ τ : cS} (h : C_X7_init x0 x1 σ = some τ) : ab_X (pC b kk) 2 mX7_init [.ref (b + x0), .int x1] σ none τ := by
  refine ab_X.of (by decide) (Nat.le_of_ble_eq_true rfl) ?_
  unfold C_X7_init at h
  refine r_aload_n dX7_init_0 0 rfl ?_
  refine r_obj dX7_init_1 (by decide) ml_X7_3 ob_i ob_c (by decide) ?_
  refine r_aload_n dX7_init_4 0 rfl ?_
  refine r_iload_n dX7_init_5 1 rfl ?_
  refine r_iconst (v := 0) dX7_init_6 (by decide) ?_
  refine r_max dX7_init_7 (by omega) ml_X7_9 ma_maxs ma_i ma_maxc (by simp [Value.category]) ?_
  refine r_ldc (v := 270000) dX7_init_10 co_X7_17 ?_
  refine r_min dX7_init_12 (by omega) ml_X7_18 ma_mins ma_i ma_minc (by simp [Value.category]) ?_
  obtain ⟨qg1, h⟩ := grd_at h
  refine p_newI dX7_init_15 qg1 ?_
  refine r_topa (fun nq2 enq2 => ?_)
  replace h := bnd_at h enq2
  refine r_st (fun σ3 eσ3 => ?_)
  replace h := bnd_at h eσ3
  obtain ⟨σ5, qg4, h⟩ := bd_at h
  refine p_put (x := (4 + nq2)) ok_X7 dX7_init_17 (k := 0) (by decide) fl_X7_21 rfl vd_ref.symm rfl rfl qg4 ?_
  refine r_vret rfl dX7_init_20 ?_
  exact lfC h
set_option maxRecDepth 8000 in
def C_X0_init (x0 : Nat) (σ : cS) : Option cS := bd (C_X2_init x0 σ) (fun σ2 => bnd σ2.1.length (fun nq3 => bnd (cNew 6 2 [1, 0] σ2) (fun σ4 => bd (C_X7_init nq3 12 σ4) (fun σ6 => bd (cPut 0 σ6 x0 0 (4 + nq3)) (fun σ8 => some σ8)))))
set_option maxRecDepth 8000 in
theorem lC_X0_init {b : Nat} {kk : Nat → Nat} {x0 : Nat} {σ τ : cS} (h : C_X0_init x0 σ = some τ) : ab_X (pC b kk) 3 mX0_init [.ref (b + x0)] σ none τ := by
  refine ab_X.of (by decide) (Nat.le_of_ble_eq_true rfl) ?_
  unfold C_X0_init at h
  refine r_aload_n dX0_init_0 0 rfl ?_
  obtain ⟨σ2, qg1, h⟩ := bd_at h
  refine x_callIN0 (Y := mX2_init) (d' := 2) dX0_init_1 mn_X0_3 yi_X2_init (by omega) rfl rfl (by simp [Value.category]) (lC_X2_init qg1) ?_
  refine r_aload_n dX0_init_4 0 rfl ?_
  refine p_new (fs := [1, 0]) ok_X7 dX0_init_5 cl_X0_9 in_X7 wi_X7 df_X7 ?_
  refine r_topa (fun nq3 enq3 => ?_)
  replace h := bnd_at h enq3
  refine r_st (fun σ4 eσ4 => ?_)
  replace h := bnd_at h eσ4
  refine r_dup dX0_init_8 rfl ?_
  refine r_bipush (v := 12) dX0_init_9 (by decide) ?_
  obtain ⟨σ6, qg5, h⟩ := bd_at h
  refine x_callI0 (Y := mX7_init) (d' := 2) dX0_init_11 ml_X0_11 yi_X7_init (by omega) rfl rfl (by simp [Value.category]) (lC_X7_init qg5) ?_
  obtain ⟨σ8, qg7, h⟩ := bd_at h
  refine p_putF (x := (4 + nq3)) ok_X0 dX0_init_14 (k := 0) (by decide) fl_X0_14 rfl rfl rfl vd_ref.symm rfl rfl qg7 ?_
  refine r_vret rfl dX0_init_17 ?_
  exact lfC h
set_option maxRecDepth 8000 in
def C_X9_init (x0 : Nat) (σ : cS) : Option cS := bnd σ.1.length (fun nq1 => bnd (cNew 6 2 [1, 0] σ) (fun σ2 => bd (C_X7_init nq1 400 σ2) (fun σ4 => bd (cPut 8 σ4 x0 0 (4 + nq1)) (fun σ6 => bd (cPut 8 σ6 x0 8 3) (fun σ8 => some σ8)))))
set_option maxRecDepth 8000 in
theorem lC_X9_init {b : Nat} {kk : Nat → Nat} {x0 : Nat} {σ τ : cS} (h : C_X9_init x0 σ = some τ) : ab_X (pC b kk) 3 mX9_init [.ref (b + x0)] σ none τ := by
  refine ab_X.of (by decide) (Nat.le_of_ble_eq_true rfl) ?_
  unfold C_X9_init at h
  refine r_aload_n dX9_init_0 0 rfl ?_
  refine r_obj dX9_init_1 (by decide) ml_X9_3 ob_i ob_c (by decide) ?_
  refine r_aload_n dX9_init_4 0 rfl ?_
  refine p_new (fs := [1, 0]) ok_X7 dX9_init_5 cl_X9_9 in_X7 wi_X7 df_X7 ?_
  refine r_topa (fun nq1 enq1 => ?_)
  replace h := bnd_at h enq1
  refine r_st (fun σ2 eσ2 => ?_)
  replace h := bnd_at h eσ2
  refine r_dup dX9_init_8 rfl ?_
  refine r_sipush (v := 400) dX9_init_9 (by decide) ?_
  obtain ⟨σ4, qg3, h⟩ := bd_at h
  refine x_callI0 (Y := mX7_init) (d' := 2) dX9_init_12 ml_X9_13 yi_X7_init (by omega) rfl rfl (by simp [Value.category]) (lC_X7_init qg3) ?_
  obtain ⟨σ6, qg5, h⟩ := bd_at h
  refine p_putF (x := (4 + nq1)) ok_X9 dX9_init_15 (k := 0) (by decide) fl_X9_16 rfl rfl rfl vd_ref.symm rfl rfl qg5 ?_
  refine r_aload_n dX9_init_18 0 rfl ?_
  refine r_iconst (v := (-1)) dX9_init_19 (by decide) ?_
  obtain ⟨σ8, qg7, h⟩ := bd_at h
  refine p_put (x := 3) ok_X9 dX9_init_20 (k := 8) (by decide) fl_X9_20 rfl rfl rfl rfl qg7 ?_
  refine r_vret rfl dX9_init_23 ?_
  exact lfC h
set_option maxRecDepth 8000 in
def C_X5_init (x0 : Nat) (x1 : Nat) (σ : cS) : Option cS := bnd σ.1.length (fun nq1 => bnd (cNew 6 2 [1, 0] σ) (fun σ2 => bd (C_X7_init nq1 3 σ2) (fun σ4 => bd (cPut 4 σ4 x0 1 (4 + nq1)) (fun σ6 => bnd σ6.1.length (fun nq7 => bnd (cNew 6 2 [1, 0] σ6) (fun σ8 => bd (C_X7_init nq7 3 σ8) (fun σ10 => bd (cPut 4 σ10 x0 2 (4 + nq7)) (fun σ12 => bnd σ12.1.length (fun nq13 => bnd (cArr 4 (3 : Int32).toNatClampNeg (List.replicate (3 : Int32).toNatClampNeg 1) σ12) (fun σ14 => bd (cPut 4 σ14 x0 3 (4 + nq13)) (fun σ16 => bnd σ16.1.length (fun nq17 => bnd (cNew 6 2 [1, 0] σ16) (fun σ18 => bd (C_X7_init nq17 10 σ18) (fun σ20 => bd (cPut 4 σ20 x0 4 (4 + nq17)) (fun σ22 => bnd σ22.1.length (fun nq23 => bnd (cNew 6 2 [1, 0] σ22) (fun σ24 => bd (C_X7_init nq23 10 σ24) (fun σ26 => bd (cPut 4 σ26 x0 5 (4 + nq23)) (fun σ28 => bd (cPut 4 σ28 x0 0 (4 + x1)) (fun σ30 => bd (cGet 4 σ30 x0 3) (fun nq32 => bnd σ30.1.length (fun nq33 => bnd (cNew 0 5 [1, 0, 0, 0, 0] σ30) (fun σ34 => bd (C_X0_init nq33 σ34) (fun σ36 => bd (cAst 4 0 σ36 nq32 (0 : Int32).toNatClampNeg nq33) (fun σ38 => bd (cGet 4 σ38 x0 3) (fun nq40 => bnd σ38.1.length (fun nq41 => bnd (cNew 0 5 [1, 0, 0, 0, 0] σ38) (fun σ42 => bd (C_X0_init nq41 σ42) (fun σ44 => bd (cAst 4 0 σ44 nq40 (1 : Int32).toNatClampNeg nq41) (fun σ46 => bd (cGet 4 σ46 x0 3) (fun nq48 => bnd σ46.1.length (fun nq49 => bnd (cNew 0 5 [1, 0, 0, 0, 0] σ46) (fun σ50 => bd (C_X0_init nq49 σ50) (fun σ52 => bd (cAst 4 0 σ52 nq48 (2 : Int32).toNatClampNeg nq49) (fun σ54 => some σ54)))))))))))))))))))))))))))))))))))
set_option maxRecDepth 8000 in
theorem lC_X5_init {b : Nat} {kk : Nat → Nat} {x0 : Nat} {x1 : Nat} {σ τ : cS} (h : C_X5_init x0 x1 σ = some τ) : ab_X (pC b kk) 4 mX5_init [.ref (b + x0), .ref (b + x1)] σ none τ := by
  refine ab_X.of (by decide) (Nat.le_of_ble_eq_true rfl) ?_
  unfold C_X5_init at h
  refine r_aload_n dX5_init_0 0 rfl ?_
  refine r_obj dX5_init_1 (by decide) ml_X5_3 ob_i ob_c (by decide) ?_
  refine r_aload_n dX5_init_4 0 rfl ?_
  refine p_new (fs := [1, 0]) ok_X7 dX5_init_5 cl_X5_9 in_X7 wi_X7 df_X7 ?_
  refine r_topa (fun nq1 enq1 => ?_)
  replace h := bnd_at h enq1
  refine r_st (fun σ2 eσ2 => ?_)
  replace h := bnd_at h eσ2
  refine r_dup dX5_init_8 rfl ?_
  refine r_iconst (v := 3) dX5_init_9 (by decide) ?_
  obtain ⟨σ4, qg3, h⟩ := bd_at h
  refine x_callI0 (Y := mX7_init) (d' := 2) dX5_init_10 ml_X5_11 yi_X7_init (by omega) rfl rfl (by simp [Value.category]) (lC_X7_init qg3) ?_
  obtain ⟨σ6, qg5, h⟩ := bd_at h
  refine p_putF (x := (4 + nq1)) ok_X5 dX5_init_13 (k := 1) (by decide) fl_X5_14 rfl rfl rfl vd_ref.symm rfl rfl qg5 ?_
  refine r_aload_n dX5_init_16 0 rfl ?_
  refine p_new (fs := [1, 0]) ok_X7 dX5_init_17 cl_X5_9 in_X7 wi_X7 df_X7 ?_
  refine r_topa (fun nq7 enq7 => ?_)
  replace h := bnd_at h enq7
  refine r_st (fun σ8 eσ8 => ?_)
  replace h := bnd_at h eσ8
  refine r_dup dX5_init_20 rfl ?_
  refine r_iconst (v := 3) dX5_init_21 (by decide) ?_
  obtain ⟨σ10, qg9, h⟩ := bd_at h
  refine x_callI0 (Y := mX7_init) (d' := 2) dX5_init_22 ml_X5_11 yi_X7_init (by omega) rfl rfl (by simp [Value.category]) (lC_X7_init qg9) ?_
  obtain ⟨σ12, qg11, h⟩ := bd_at h
  refine p_putF (x := (4 + nq7)) ok_X5 dX5_init_25 (k := 2) (by decide) fl_X5_20 rfl rfl rfl vd_ref.symm rfl rfl qg11 ?_
  refine r_aload_n dX5_init_28 0 rfl ?_
  refine r_iconst (v := 3) dX5_init_29 (by decide) ?_
  refine p_anew (t := 4) (Or.inl ⟨rfl, rfl⟩) dX5_init_30 cl_X5_23 (by decide) ?_
  refine r_topa (fun nq13 enq13 => ?_)
  replace h := bnd_at h enq13
  refine r_st (fun σ14 eσ14 => ?_)
  replace h := bnd_at h eσ14
  obtain ⟨σ16, qg15, h⟩ := bd_at h
  refine p_putF (x := (4 + nq13)) ok_X5 dX5_init_33 (k := 3) (by decide) fl_X5_25 rfl rfl rfl vd_ref.symm rfl rfl qg15 ?_
  refine r_aload_n dX5_init_36 0 rfl ?_
  refine p_new (fs := [1, 0]) ok_X7 dX5_init_37 cl_X5_9 in_X7 wi_X7 df_X7 ?_
  refine r_topa (fun nq17 enq17 => ?_)
  replace h := bnd_at h enq17
  refine r_st (fun σ18 eσ18 => ?_)
  replace h := bnd_at h eσ18
  refine r_dup dX5_init_40 rfl ?_
  refine r_bipush (v := 10) dX5_init_41 (by decide) ?_
  obtain ⟨σ20, qg19, h⟩ := bd_at h
  refine x_callI0 (Y := mX7_init) (d' := 2) dX5_init_43 ml_X5_11 yi_X7_init (by omega) rfl rfl (by simp [Value.category]) (lC_X7_init qg19) ?_
  obtain ⟨σ22, qg21, h⟩ := bd_at h
  refine p_putF (x := (4 + nq17)) ok_X5 dX5_init_46 (k := 4) (by decide) fl_X5_29 rfl rfl rfl vd_ref.symm rfl rfl qg21 ?_
  refine r_aload_n dX5_init_49 0 rfl ?_
  refine p_new (fs := [1, 0]) ok_X7 dX5_init_50 cl_X5_9 in_X7 wi_X7 df_X7 ?_
  refine r_topa (fun nq23 enq23 => ?_)
  replace h := bnd_at h enq23
  refine r_st (fun σ24 eσ24 => ?_)
  replace h := bnd_at h eσ24
  refine r_dup dX5_init_53 rfl ?_
  refine r_bipush (v := 10) dX5_init_54 (by decide) ?_
  obtain ⟨σ26, qg25, h⟩ := bd_at h
  refine x_callI0 (Y := mX7_init) (d' := 2) dX5_init_56 ml_X5_11 yi_X7_init (by omega) rfl rfl (by simp [Value.category]) (lC_X7_init qg25) ?_
  obtain ⟨σ28, qg27, h⟩ := bd_at h
  refine p_putF (x := (4 + nq23)) ok_X5 dX5_init_59 (k := 5) (by decide) fl_X5_32 rfl rfl rfl vd_ref.symm rfl rfl qg27 ?_
  refine r_aload_n dX5_init_62 0 rfl ?_
  refine r_aload_n dX5_init_63 1 rfl ?_
  obtain ⟨σ30, qg29, h⟩ := bd_at h
  refine p_putF (x := (4 + x1)) ok_X5 dX5_init_64 (k := 0) (by decide) fl_X5_35 rfl rfl rfl vd_ref.symm rfl rfl qg29 ?_
  refine r_iconst (v := 0) dX5_init_67 (by decide) ?_
  refine r_istore_n (lo' := [(2, .int 0), (0, .ref (b + x0)), (1, .ref (b + x1))]) dX5_init_68 (by decide) rfl ?_
  refine r_iload_n dX5_init_69 0 rfl ?_
  refine r_iconst (v := 3) dX5_init_70 (by decide) ?_
  refine r_icmp_ge (t := 93) dX5_init_71 (by decide) (fun hh9 => absurd hh9 (by decide)) (fun _ => ?_)
  refine r_aload_n dX5_init_74 1 rfl ?_
  obtain ⟨nq32, qg31, h⟩ := bd_at h
  refine p_get ok_X5 dX5_init_75 (k := 3) (by decide) fl_X5_25 qg31 ?_
  refine r_iload_n dX5_init_78 0 rfl ?_
  refine p_new (fs := [1, 0, 0, 0, 0]) ok_X0 dX5_init_79 cl_X5_23 in_X0 wi_X0 df_X0 ?_
  refine r_topa (fun nq33 enq33 => ?_)
  replace h := bnd_at h enq33
  refine r_st (fun σ34 eσ34 => ?_)
  replace h := bnd_at h eσ34
  refine r_dup dX5_init_82 rfl ?_
  obtain ⟨σ36, qg35, h⟩ := bd_at h
  refine x_callIN0 (Y := mX0_init) (d' := 3) dX5_init_83 mn_X5_39 yi_X0_init (by omega) rfl rfl (by simp [Value.category]) (lC_X0_init qg35) ?_
  obtain ⟨σ38, qg37, h⟩ := bd_at h
  refine p_aast4 dX5_init_86 (by decide) qg37 ?_
  refine r_iinc (v := 1) (lo' := [(2, .int 1), (0, .ref (b + x0)), (1, .ref (b + x1))]) dX5_init_87 0 rfl (by decide) (by decide) rfl ?_
  refine r_goto (t := 69) dX5_init_90 (by decide) ?_
  refine r_iload_n dX5_init_69 0 rfl ?_
  refine r_iconst (v := 3) dX5_init_70 (by decide) ?_
  refine r_icmp_ge (t := 93) dX5_init_71 (by decide) (fun hh9 => absurd hh9 (by decide)) (fun _ => ?_)
  refine r_aload_n dX5_init_74 1 rfl ?_
  obtain ⟨nq40, qg39, h⟩ := bd_at h
  refine p_get ok_X5 dX5_init_75 (k := 3) (by decide) fl_X5_25 qg39 ?_
  refine r_iload_n dX5_init_78 0 rfl ?_
  refine p_new (fs := [1, 0, 0, 0, 0]) ok_X0 dX5_init_79 cl_X5_23 in_X0 wi_X0 df_X0 ?_
  refine r_topa (fun nq41 enq41 => ?_)
  replace h := bnd_at h enq41
  refine r_st (fun σ42 eσ42 => ?_)
  replace h := bnd_at h eσ42
  refine r_dup dX5_init_82 rfl ?_
  obtain ⟨σ44, qg43, h⟩ := bd_at h
  refine x_callIN0 (Y := mX0_init) (d' := 3) dX5_init_83 mn_X5_39 yi_X0_init (by omega) rfl rfl (by simp [Value.category]) (lC_X0_init qg43) ?_
  obtain ⟨σ46, qg45, h⟩ := bd_at h
  refine p_aast4 dX5_init_86 (by decide) qg45 ?_
  refine r_iinc (v := 2) (lo' := [(2, .int 2), (0, .ref (b + x0)), (1, .ref (b + x1))]) dX5_init_87 0 rfl (by decide) (by decide) rfl ?_
  refine r_goto (t := 69) dX5_init_90 (by decide) ?_
  refine r_iload_n dX5_init_69 0 rfl ?_
  refine r_iconst (v := 3) dX5_init_70 (by decide) ?_
  refine r_icmp_ge (t := 93) dX5_init_71 (by decide) (fun hh9 => absurd hh9 (by decide)) (fun _ => ?_)
  refine r_aload_n dX5_init_74 1 rfl ?_
  obtain ⟨nq48, qg47, h⟩ := bd_at h
  refine p_get ok_X5 dX5_init_75 (k := 3) (by decide) fl_X5_25 qg47 ?_
  refine r_iload_n dX5_init_78 0 rfl ?_
  refine p_new (fs := [1, 0, 0, 0, 0]) ok_X0 dX5_init_79 cl_X5_23 in_X0 wi_X0 df_X0 ?_
  refine r_topa (fun nq49 enq49 => ?_)
  replace h := bnd_at h enq49
  refine r_st (fun σ50 eσ50 => ?_)
  replace h := bnd_at h eσ50
  refine r_dup dX5_init_82 rfl ?_
  obtain ⟨σ52, qg51, h⟩ := bd_at h
  refine x_callIN0 (Y := mX0_init) (d' := 3) dX5_init_83 mn_X5_39 yi_X0_init (by omega) rfl rfl (by simp [Value.category]) (lC_X0_init qg51) ?_
  obtain ⟨σ54, qg53, h⟩ := bd_at h
  refine p_aast4 dX5_init_86 (by decide) qg53 ?_
  refine r_iinc (v := 3) (lo' := [(2, .int 3), (0, .ref (b + x0)), (1, .ref (b + x1))]) dX5_init_87 0 rfl (by decide) (by decide) rfl ?_
  refine r_goto (t := 69) dX5_init_90 (by decide) ?_
  refine r_iload_n dX5_init_69 0 rfl ?_
  refine r_iconst (v := 3) dX5_init_70 (by decide) ?_
  refine r_icmp_ge (t := 93) dX5_init_71 (by decide) (fun _ => ?_) (fun hh9 => absurd (by decide) hh9)
  refine r_vret rfl dX5_init_93 ?_
  exact lfC h
set_option maxRecDepth 8000 in
def C_X4_init (x0 : Nat) (σ : cS) : Option cS := bnd σ.1.length (fun nq1 => bnd (cNew 6 2 [1, 0] σ) (fun σ2 => bd (C_X7_init nq1 128 σ2) (fun σ4 => bd (cPut 3 σ4 x0 0 (4 + nq1)) (fun σ6 => some σ6))))
set_option maxRecDepth 8000 in
theorem lC_X4_init {b : Nat} {kk : Nat → Nat} {x0 : Nat} {σ τ : cS} (h : C_X4_init x0 σ = some τ) : ab_X (pC b kk) 3 mX4_init [.ref (b + x0)] σ none τ := by
  refine ab_X.of (by decide) (Nat.le_of_ble_eq_true rfl) ?_
  unfold C_X4_init at h
  refine r_aload_n dX4_init_0 0 rfl ?_
  refine r_obj dX4_init_1 (by decide) ml_X4_3 ob_i ob_c (by decide) ?_
  refine r_aload_n dX4_init_4 0 rfl ?_
  refine p_new (fs := [1, 0]) ok_X7 dX4_init_5 cl_X4_9 in_X7 wi_X7 df_X7 ?_
  refine r_topa (fun nq1 enq1 => ?_)
  replace h := bnd_at h enq1
  refine r_st (fun σ2 eσ2 => ?_)
  replace h := bnd_at h eσ2
  refine r_dup dX4_init_8 rfl ?_
  refine r_sipush (v := 128) dX4_init_9 (by decide) ?_
  obtain ⟨σ4, qg3, h⟩ := bd_at h
  refine x_callI0 (Y := mX7_init) (d' := 2) dX4_init_12 ml_X4_13 yi_X7_init (by omega) rfl rfl (by simp [Value.category]) (lC_X7_init qg3) ?_
  obtain ⟨σ6, qg5, h⟩ := bd_at h
  refine p_putF (x := (4 + nq1)) ok_X4 dX4_init_15 (k := 0) (by decide) fl_X4_16 rfl rfl rfl vd_ref.symm rfl rfl qg5 ?_
  refine r_vret rfl dX4_init_18 ?_
  exact lfC h
set_option maxRecDepth 8000 in
def C_X1_init (x0 : Nat) (x1 : Nat) (x2 : Nat) (x3 : Nat) (σ : cS) : Option cS := bd (C_X2_init x0 σ) (fun σ2 => bnd σ2.1.length (fun nq3 => bnd (cNew 6 2 [1, 0] σ2) (fun σ4 => bd (C_X7_init nq3 0 σ4) (fun σ6 => bd (cPut 1 σ6 x0 3 (4 + nq3)) (fun σ8 => bnd σ8.1.length (fun nq9 => bnd (cNew 6 2 [1, 0] σ8) (fun σ10 => bd (C_X7_init nq9 0 σ10) (fun σ12 => bd (cPut 1 σ12 x0 4 (4 + nq9)) (fun σ14 => bnd σ14.1.length (fun nq15 => bnd (cNew 6 2 [1, 0] σ14) (fun σ16 => bd (C_X7_init nq15 0 σ16) (fun σ18 => bd (cPut 1 σ18 x0 5 (4 + nq15)) (fun σ20 => bd (cPut 1 σ20 x0 0 (4 + x1)) (fun σ22 => bd (cPut 1 σ22 x0 1 (4 + x2)) (fun σ24 => bd (cPut 1 σ24 x0 2 (4 + x3)) (fun σ26 => some σ26))))))))))))))))
set_option maxRecDepth 8000 in
theorem lC_X1_init {b : Nat} {kk : Nat → Nat} {x0 : Nat} {x1 : Nat} {x2 : Nat} {x3 : Nat} {σ τ : cS} (h : C_X1_init x0 x1 x2 x3 σ = some τ) : ab_X (pC b kk) 3 mX1_init [.ref (b + x0), .ref (b + x1), .ref (b + x2), .ref (b + x3)] σ none τ := by
  refine ab_X.of (by decide) (Nat.le_of_ble_eq_true rfl) ?_
  unfold C_X1_init at h
  refine r_aload_n dX1_init_0 0 rfl ?_
  obtain ⟨σ2, qg1, h⟩ := bd_at h
  refine x_callIN0 (Y := mX2_init) (d' := 2) dX1_init_1 mn_X1_3 yi_X2_init (by omega) rfl rfl (by simp [Value.category]) (lC_X2_init qg1) ?_
  refine r_aload_n dX1_init_4 0 rfl ?_
  refine p_new (fs := [1, 0]) ok_X7 dX1_init_5 cl_X1_9 in_X7 wi_X7 df_X7 ?_
  refine r_topa (fun nq3 enq3 => ?_)
  replace h := bnd_at h enq3
  refine r_st (fun σ4 eσ4 => ?_)
  replace h := bnd_at h eσ4
  refine r_dup dX1_init_8 rfl ?_
  refine r_iconst (v := 0) dX1_init_9 (by decide) ?_
  obtain ⟨σ6, qg5, h⟩ := bd_at h
  refine x_callI0 (Y := mX7_init) (d' := 2) dX1_init_10 ml_X1_11 yi_X7_init (by omega) rfl rfl (by simp [Value.category]) (lC_X7_init qg5) ?_
  obtain ⟨σ8, qg7, h⟩ := bd_at h
  refine p_putF (x := (4 + nq3)) ok_X1 dX1_init_13 (k := 3) (by decide) fl_X1_14 rfl rfl rfl vd_ref.symm rfl rfl qg7 ?_
  refine r_aload_n dX1_init_16 0 rfl ?_
  refine p_new (fs := [1, 0]) ok_X7 dX1_init_17 cl_X1_9 in_X7 wi_X7 df_X7 ?_
  refine r_topa (fun nq9 enq9 => ?_)
  replace h := bnd_at h enq9
  refine r_st (fun σ10 eσ10 => ?_)
  replace h := bnd_at h eσ10
  refine r_dup dX1_init_20 rfl ?_
  refine r_iconst (v := 0) dX1_init_21 (by decide) ?_
  obtain ⟨σ12, qg11, h⟩ := bd_at h
  refine x_callI0 (Y := mX7_init) (d' := 2) dX1_init_22 ml_X1_11 yi_X7_init (by omega) rfl rfl (by simp [Value.category]) (lC_X7_init qg11) ?_
  obtain ⟨σ14, qg13, h⟩ := bd_at h
  refine p_putF (x := (4 + nq9)) ok_X1 dX1_init_25 (k := 4) (by decide) fl_X1_20 rfl rfl rfl vd_ref.symm rfl rfl qg13 ?_
  refine r_aload_n dX1_init_28 0 rfl ?_
  refine p_new (fs := [1, 0]) ok_X7 dX1_init_29 cl_X1_9 in_X7 wi_X7 df_X7 ?_
  refine r_topa (fun nq15 enq15 => ?_)
  replace h := bnd_at h enq15
  refine r_st (fun σ16 eσ16 => ?_)
  replace h := bnd_at h eσ16
  refine r_dup dX1_init_32 rfl ?_
  refine r_iconst (v := 0) dX1_init_33 (by decide) ?_
  obtain ⟨σ18, qg17, h⟩ := bd_at h
  refine x_callI0 (Y := mX7_init) (d' := 2) dX1_init_34 ml_X1_11 yi_X7_init (by omega) rfl rfl (by simp [Value.category]) (lC_X7_init qg17) ?_
  obtain ⟨σ20, qg19, h⟩ := bd_at h
  refine p_putF (x := (4 + nq15)) ok_X1 dX1_init_37 (k := 5) (by decide) fl_X1_23 rfl rfl rfl vd_ref.symm rfl rfl qg19 ?_
  refine r_aload_n dX1_init_40 0 rfl ?_
  refine r_aload_n dX1_init_41 1 rfl ?_
  obtain ⟨σ22, qg21, h⟩ := bd_at h
  refine p_putF (x := (4 + x1)) ok_X1 dX1_init_42 (k := 0) (by decide) fl_X1_26 rfl rfl rfl vd_ref.symm rfl rfl qg21 ?_
  refine r_aload_n dX1_init_45 0 rfl ?_
  refine r_aload_n dX1_init_46 2 rfl ?_
  obtain ⟨σ24, qg23, h⟩ := bd_at h
  refine p_putF (x := (4 + x2)) ok_X1 dX1_init_47 (k := 1) (by decide) fl_X1_30 rfl rfl rfl vd_ref.symm rfl rfl qg23 ?_
  refine r_aload_n dX1_init_50 0 rfl ?_
  refine r_aload_n dX1_init_51 3 rfl ?_
  obtain ⟨σ26, qg25, h⟩ := bd_at h
  refine p_putF (x := (4 + x3)) ok_X1 dX1_init_52 (k := 2) (by decide) fl_X1_34 rfl rfl rfl vd_ref.symm rfl rfl qg25 ?_
  refine r_vret rfl dX1_init_55 ?_
  exact lfC h
set_option maxRecDepth 8000 in
def C_X3_init (x0 : Nat) (σ : cS) : Option cS := bnd σ.1.length (fun nq1 => bnd (cNew 6 2 [1, 0] σ) (fun σ2 => bd (C_X7_init nq1 0 σ2) (fun σ4 => bd (cPut 2 σ4 x0 0 (4 + nq1)) (fun σ6 => bnd σ6.1.length (fun nq7 => bnd (cNew 6 2 [1, 0] σ6) (fun σ8 => bd (C_X7_init nq7 0 σ8) (fun σ10 => bd (cPut 2 σ10 x0 1 (4 + nq7)) (fun σ12 => bnd σ12.1.length (fun nq13 => bnd (cNew 6 2 [1, 0] σ12) (fun σ14 => bd (C_X7_init nq13 0 σ14) (fun σ16 => bd (cPut 2 σ16 x0 2 (4 + nq13)) (fun σ18 => bnd σ18.1.length (fun nq19 => bnd (cNew 6 2 [1, 0] σ18) (fun σ20 => bd (C_X7_init nq19 0 σ20) (fun σ22 => bd (cPut 2 σ22 x0 3 (4 + nq19)) (fun σ24 => bnd σ24.1.length (fun nq25 => bnd (cNew 6 2 [1, 0] σ24) (fun σ26 => bd (C_X7_init nq25 0 σ26) (fun σ28 => bd (cPut 2 σ28 x0 4 (4 + nq25)) (fun σ30 => bnd σ30.1.length (fun nq31 => bnd (cNew 6 2 [1, 0] σ30) (fun σ32 => bd (C_X7_init nq31 0 σ32) (fun σ34 => bd (cPut 2 σ34 x0 5 (4 + nq31)) (fun σ36 => some σ36))))))))))))))))))))))))
set_option maxRecDepth 8000 in
theorem lC_X3_init {b : Nat} {kk : Nat → Nat} {x0 : Nat} {σ τ : cS} (h : C_X3_init x0 σ = some τ) : ab_X (pC b kk) 3 mX3_init [.ref (b + x0)] σ none τ := by
  refine ab_X.of (by decide) (Nat.le_of_ble_eq_true rfl) ?_
  unfold C_X3_init at h
  refine r_aload_n dX3_init_0 0 rfl ?_
  refine r_obj dX3_init_1 (by decide) ml_X3_3 ob_i ob_c (by decide) ?_
  refine r_aload_n dX3_init_4 0 rfl ?_
  refine p_new (fs := [1, 0]) ok_X7 dX3_init_5 cl_X3_9 in_X7 wi_X7 df_X7 ?_
  refine r_topa (fun nq1 enq1 => ?_)
  replace h := bnd_at h enq1
  refine r_st (fun σ2 eσ2 => ?_)
  replace h := bnd_at h eσ2
  refine r_dup dX3_init_8 rfl ?_
  refine r_iconst (v := 0) dX3_init_9 (by decide) ?_
  obtain ⟨σ4, qg3, h⟩ := bd_at h
  refine x_callI0 (Y := mX7_init) (d' := 2) dX3_init_10 ml_X3_11 yi_X7_init (by omega) rfl rfl (by simp [Value.category]) (lC_X7_init qg3) ?_
  obtain ⟨σ6, qg5, h⟩ := bd_at h
  refine p_putF (x := (4 + nq1)) ok_X3 dX3_init_13 (k := 0) (by decide) fl_X3_14 rfl rfl rfl vd_ref.symm rfl rfl qg5 ?_
  refine r_aload_n dX3_init_16 0 rfl ?_
  refine p_new (fs := [1, 0]) ok_X7 dX3_init_17 cl_X3_9 in_X7 wi_X7 df_X7 ?_
  refine r_topa (fun nq7 enq7 => ?_)
  replace h := bnd_at h enq7
  refine r_st (fun σ8 eσ8 => ?_)
  replace h := bnd_at h eσ8
  refine r_dup dX3_init_20 rfl ?_
  refine r_iconst (v := 0) dX3_init_21 (by decide) ?_
  obtain ⟨σ10, qg9, h⟩ := bd_at h
  refine x_callI0 (Y := mX7_init) (d' := 2) dX3_init_22 ml_X3_11 yi_X7_init (by omega) rfl rfl (by simp [Value.category]) (lC_X7_init qg9) ?_
  obtain ⟨σ12, qg11, h⟩ := bd_at h
  refine p_putF (x := (4 + nq7)) ok_X3 dX3_init_25 (k := 1) (by decide) fl_X3_18 rfl rfl rfl vd_ref.symm rfl rfl qg11 ?_
  refine r_aload_n dX3_init_28 0 rfl ?_
  refine p_new (fs := [1, 0]) ok_X7 dX3_init_29 cl_X3_9 in_X7 wi_X7 df_X7 ?_
  refine r_topa (fun nq13 enq13 => ?_)
  replace h := bnd_at h enq13
  refine r_st (fun σ14 eσ14 => ?_)
  replace h := bnd_at h eσ14
  refine r_dup dX3_init_32 rfl ?_
  refine r_iconst (v := 0) dX3_init_33 (by decide) ?_
  obtain ⟨σ16, qg15, h⟩ := bd_at h
  refine x_callI0 (Y := mX7_init) (d' := 2) dX3_init_34 ml_X3_11 yi_X7_init (by omega) rfl rfl (by simp [Value.category]) (lC_X7_init qg15) ?_
  obtain ⟨σ18, qg17, h⟩ := bd_at h
  refine p_putF (x := (4 + nq13)) ok_X3 dX3_init_37 (k := 2) (by decide) fl_X3_21 rfl rfl rfl vd_ref.symm rfl rfl qg17 ?_
  refine r_aload_n dX3_init_40 0 rfl ?_
  refine p_new (fs := [1, 0]) ok_X7 dX3_init_41 cl_X3_9 in_X7 wi_X7 df_X7 ?_
  refine r_topa (fun nq19 enq19 => ?_)
  replace h := bnd_at h enq19
  refine r_st (fun σ20 eσ20 => ?_)
  replace h := bnd_at h eσ20
  refine r_dup dX3_init_44 rfl ?_
  refine r_iconst (v := 0) dX3_init_45 (by decide) ?_
  obtain ⟨σ22, qg21, h⟩ := bd_at h
  refine x_callI0 (Y := mX7_init) (d' := 2) dX3_init_46 ml_X3_11 yi_X7_init (by omega) rfl rfl (by simp [Value.category]) (lC_X7_init qg21) ?_
  obtain ⟨σ24, qg23, h⟩ := bd_at h
  refine p_putF (x := (4 + nq19)) ok_X3 dX3_init_49 (k := 3) (by decide) fl_X3_24 rfl rfl rfl vd_ref.symm rfl rfl qg23 ?_
  refine r_aload_n dX3_init_52 0 rfl ?_
  refine p_new (fs := [1, 0]) ok_X7 dX3_init_53 cl_X3_9 in_X7 wi_X7 df_X7 ?_
  refine r_topa (fun nq25 enq25 => ?_)
  replace h := bnd_at h enq25
  refine r_st (fun σ26 eσ26 => ?_)
  replace h := bnd_at h eσ26
  refine r_dup dX3_init_56 rfl ?_
  refine r_iconst (v := 0) dX3_init_57 (by decide) ?_
  obtain ⟨σ28, qg27, h⟩ := bd_at h
  refine x_callI0 (Y := mX7_init) (d' := 2) dX3_init_58 ml_X3_11 yi_X7_init (by omega) rfl rfl (by simp [Value.category]) (lC_X7_init qg27) ?_
  obtain ⟨σ30, qg29, h⟩ := bd_at h
  refine p_putF (x := (4 + nq25)) ok_X3 dX3_init_61 (k := 4) (by decide) fl_X3_27 rfl rfl rfl vd_ref.symm rfl rfl qg29 ?_
  refine r_aload_n dX3_init_64 0 rfl ?_
  refine p_new (fs := [1, 0]) ok_X7 dX3_init_65 cl_X3_9 in_X7 wi_X7 df_X7 ?_
  refine r_topa (fun nq31 enq31 => ?_)
  replace h := bnd_at h enq31
  refine r_st (fun σ32 eσ32 => ?_)
  replace h := bnd_at h eσ32
  refine r_dup dX3_init_68 rfl ?_
  refine r_iconst (v := 0) dX3_init_69 (by decide) ?_
  obtain ⟨σ34, qg33, h⟩ := bd_at h
  refine x_callI0 (Y := mX7_init) (d' := 2) dX3_init_70 ml_X3_11 yi_X7_init (by omega) rfl rfl (by simp [Value.category]) (lC_X7_init qg33) ?_
  obtain ⟨σ36, qg35, h⟩ := bd_at h
  refine p_putF (x := (4 + nq31)) ok_X3 dX3_init_73 (k := 5) (by decide) fl_X3_30 rfl rfl rfl vd_ref.symm rfl rfl qg35 ?_
  refine r_vret rfl dX3_init_76 ?_
  exact lfC h
set_option maxRecDepth 8000 in
def C_X6_init (x0 : Nat) (x1 : Nat) (x2 : Nat) (σ : cS) : Option cS := bd (C_X2_init x0 σ) (fun σ2 => bnd σ2.1.length (fun nq3 => bnd (cNew 6 2 [1, 0] σ2) (fun σ4 => bd (C_X7_init nq3 0 σ4) (fun σ6 => bd (cPut 5 σ6 x0 1 (4 + nq3)) (fun σ8 => bnd σ8.1.length (fun nq9 => bnd (cNew 6 2 [1, 0] σ8) (fun σ10 => bd (C_X7_init nq9 0 σ10) (fun σ12 => bd (cPut 5 σ12 x0 2 (4 + nq9)) (fun σ14 => bnd σ14.1.length (fun nq15 => bnd (cNew 6 2 [1, 0] σ14) (fun σ16 => bd (C_X7_init nq15 0 σ16) (fun σ18 => bd (cPut 5 σ18 x0 3 (4 + nq15)) (fun σ20 => bnd σ20.1.length (fun nq21 => bnd (cNew 6 2 [1, 0] σ20) (fun σ22 => bd (C_X7_init nq21 0 σ22) (fun σ24 => bd (cPut 5 σ24 x0 4 (4 + nq21)) (fun σ26 => bd (cGet 5 σ26 x0 4) (fun nq28 => bd (cPut 5 σ26 x0 6 (4 + nq28)) (fun σ30 => bd (cPut 5 σ30 x0 0 (4 + x1)) (fun σ32 => bd (cPut 5 σ32 x0 5 (4 + x2)) (fun σ34 => some σ34)))))))))))))))))))))
set_option maxRecDepth 8000 in
theorem lC_X6_init {b : Nat} {kk : Nat → Nat} {x0 : Nat} {x1 : Nat} {x2 : Nat} {σ τ : cS} (h : C_X6_init x0 x1 x2 σ = some τ) : ab_X (pC b kk) 3 mX6_init [.ref (b + x0), .ref (b + x1), .ref (b + x2)] σ none τ := by
  refine ab_X.of (by decide) (Nat.le_of_ble_eq_true rfl) ?_
  unfold C_X6_init at h
  refine r_aload_n dX6_init_0 0 rfl ?_
  obtain ⟨σ2, qg1, h⟩ := bd_at h
  refine x_callIN0 (Y := mX2_init) (d' := 2) dX6_init_1 mn_X6_3 yi_X2_init (by omega) rfl rfl (by simp [Value.category]) (lC_X2_init qg1) ?_
  refine r_aload_n dX6_init_4 0 rfl ?_
  refine p_new (fs := [1, 0]) ok_X7 dX6_init_5 cl_X6_9 in_X7 wi_X7 df_X7 ?_
  refine r_topa (fun nq3 enq3 => ?_)
  replace h := bnd_at h enq3
  refine r_st (fun σ4 eσ4 => ?_)
  replace h := bnd_at h eσ4
  refine r_dup dX6_init_8 rfl ?_
  refine r_iconst (v := 0) dX6_init_9 (by decide) ?_
  obtain ⟨σ6, qg5, h⟩ := bd_at h
  refine x_callI0 (Y := mX7_init) (d' := 2) dX6_init_10 ml_X6_11 yi_X7_init (by omega) rfl rfl (by simp [Value.category]) (lC_X7_init qg5) ?_
  obtain ⟨σ8, qg7, h⟩ := bd_at h
  refine p_put (x := (4 + nq3)) ok_X6 dX6_init_13 (k := 1) (by decide) fl_X6_14 rfl vd_ref.symm rfl rfl qg7 ?_
  refine r_aload_n dX6_init_16 0 rfl ?_
  refine p_new (fs := [1, 0]) ok_X7 dX6_init_17 cl_X6_9 in_X7 wi_X7 df_X7 ?_
  refine r_topa (fun nq9 enq9 => ?_)
  replace h := bnd_at h enq9
  refine r_st (fun σ10 eσ10 => ?_)
  replace h := bnd_at h eσ10
  refine r_dup dX6_init_20 rfl ?_
  refine r_iconst (v := 0) dX6_init_21 (by decide) ?_
  obtain ⟨σ12, qg11, h⟩ := bd_at h
  refine x_callI0 (Y := mX7_init) (d' := 2) dX6_init_22 ml_X6_11 yi_X7_init (by omega) rfl rfl (by simp [Value.category]) (lC_X7_init qg11) ?_
  obtain ⟨σ14, qg13, h⟩ := bd_at h
  refine p_put (x := (4 + nq9)) ok_X6 dX6_init_25 (k := 2) (by decide) fl_X6_20 rfl vd_ref.symm rfl rfl qg13 ?_
  refine r_aload_n dX6_init_28 0 rfl ?_
  refine p_new (fs := [1, 0]) ok_X7 dX6_init_29 cl_X6_9 in_X7 wi_X7 df_X7 ?_
  refine r_topa (fun nq15 enq15 => ?_)
  replace h := bnd_at h enq15
  refine r_st (fun σ16 eσ16 => ?_)
  replace h := bnd_at h eσ16
  refine r_dup dX6_init_32 rfl ?_
  refine r_iconst (v := 0) dX6_init_33 (by decide) ?_
  obtain ⟨σ18, qg17, h⟩ := bd_at h
  refine x_callI0 (Y := mX7_init) (d' := 2) dX6_init_34 ml_X6_11 yi_X7_init (by omega) rfl rfl (by simp [Value.category]) (lC_X7_init qg17) ?_
  obtain ⟨σ20, qg19, h⟩ := bd_at h
  refine p_putF (x := (4 + nq15)) ok_X6 dX6_init_37 (k := 3) (by decide) fl_X6_23 rfl rfl rfl vd_ref.symm rfl rfl qg19 ?_
  refine r_aload_n dX6_init_40 0 rfl ?_
  refine p_new (fs := [1, 0]) ok_X7 dX6_init_41 cl_X6_9 in_X7 wi_X7 df_X7 ?_
  refine r_topa (fun nq21 enq21 => ?_)
  replace h := bnd_at h enq21
  refine r_st (fun σ22 eσ22 => ?_)
  replace h := bnd_at h eσ22
  refine r_dup dX6_init_44 rfl ?_
  refine r_iconst (v := 0) dX6_init_45 (by decide) ?_
  obtain ⟨σ24, qg23, h⟩ := bd_at h
  refine x_callI0 (Y := mX7_init) (d' := 2) dX6_init_46 ml_X6_11 yi_X7_init (by omega) rfl rfl (by simp [Value.category]) (lC_X7_init qg23) ?_
  obtain ⟨σ26, qg25, h⟩ := bd_at h
  refine p_putF (x := (4 + nq21)) ok_X6 dX6_init_49 (k := 4) (by decide) fl_X6_26 rfl rfl rfl vd_ref.symm rfl rfl qg25 ?_
  refine r_aload_n dX6_init_52 0 rfl ?_
  refine r_aload_n dX6_init_53 0 rfl ?_
  obtain ⟨nq28, qg27, h⟩ := bd_at h
  refine p_get ok_X6 dX6_init_54 (k := 4) (by decide) fl_X6_26 qg27 ?_
  obtain ⟨σ30, qg29, h⟩ := bd_at h
  refine p_put (x := (4 + nq28)) ok_X6 dX6_init_57 (k := 6) (by decide) fl_X6_29 rfl vd_ref.symm rfl rfl qg29 ?_
  refine r_aload_n dX6_init_60 0 rfl ?_
  refine r_aload_n dX6_init_61 1 rfl ?_
  obtain ⟨σ32, qg31, h⟩ := bd_at h
  refine p_putF (x := (4 + x1)) ok_X6 dX6_init_62 (k := 0) (by decide) fl_X6_32 rfl rfl rfl vd_ref.symm rfl rfl qg31 ?_
  refine r_aload_n dX6_init_65 0 rfl ?_
  refine r_aload_n dX6_init_66 2 rfl ?_
  obtain ⟨σ34, qg33, h⟩ := bd_at h
  refine p_put (x := (4 + x2)) ok_X6 dX6_init_67 (k := 5) (by decide) fl_X6_36 rfl vd_ref.symm rfl rfl qg33 ?_
  refine r_vret rfl dX6_init_70 ?_
  exact lfC h
set_option maxRecDepth 8000 in
def C_X10_init (x0 : Nat) (x1 : Nat) (x2 : Nat) (σ : cS) : Option cS := bd (C_X2_init x0 σ) (fun σ2 => bnd σ2.1.length (fun nq3 => bnd (cNew 6 2 [1, 0] σ2) (fun σ4 => bd (C_X7_init nq3 0 σ4) (fun σ6 => bd (cPut 9 σ6 x0 0 (4 + nq3)) (fun σ8 => bnd σ8.1.length (fun nq9 => bnd (cNew 6 2 [1, 0] σ8) (fun σ10 => bd (C_X7_init nq9 0 σ10) (fun σ12 => bd (cPut 9 σ12 x0 1 (4 + nq9)) (fun σ14 => bnd σ14.1.length (fun nq15 => bnd (cNew 6 2 [1, 0] σ14) (fun σ16 => bd (C_X7_init nq15 0 σ16) (fun σ18 => bd (cPut 9 σ18 x0 2 (4 + nq15)) (fun σ20 => bnd σ20.1.length (fun nq21 => bnd (cNew 6 2 [1, 0] σ20) (fun σ22 => bd (C_X7_init nq21 0 σ22) (fun σ24 => bd (cPut 9 σ24 x0 3 (4 + nq21)) (fun σ26 => bnd σ26.1.length (fun nq27 => bnd (cNew 6 2 [1, 0] σ26) (fun σ28 => bd (C_X7_init nq27 0 σ28) (fun σ30 => bd (cPut 9 σ30 x0 4 (4 + nq27)) (fun σ32 => bd (cPut 9 σ32 x0 5 (4 + x1)) (fun σ34 => bd (cPut 9 σ34 x0 6 (4 + x2)) (fun σ36 => some σ36)))))))))))))))))))))))
set_option maxRecDepth 8000 in
theorem lC_X10_init {b : Nat} {kk : Nat → Nat} {x0 : Nat} {x1 : Nat} {x2 : Nat} {σ τ : cS} (h : C_X10_init x0 x1 x2 σ = some τ) : ab_X (pC b kk) 3 mX10_init [.ref (b + x0), .ref (b + x1), .ref (b + x2)] σ none τ := by
  refine ab_X.of (by decide) (Nat.le_of_ble_eq_true rfl) ?_
  unfold C_X10_init at h
  refine r_aload_n dX10_init_0 0 rfl ?_
  obtain ⟨σ2, qg1, h⟩ := bd_at h
  refine x_callIN0 (Y := mX2_init) (d' := 2) dX10_init_1 mn_X10_3 yi_X2_init (by omega) rfl rfl (by simp [Value.category]) (lC_X2_init qg1) ?_
  refine r_aload_n dX10_init_4 0 rfl ?_
  refine p_new (fs := [1, 0]) ok_X7 dX10_init_5 cl_X10_9 in_X7 wi_X7 df_X7 ?_
  refine r_topa (fun nq3 enq3 => ?_)
  replace h := bnd_at h enq3
  refine r_st (fun σ4 eσ4 => ?_)
  replace h := bnd_at h eσ4
  refine r_dup dX10_init_8 rfl ?_
  refine r_iconst (v := 0) dX10_init_9 (by decide) ?_
  obtain ⟨σ6, qg5, h⟩ := bd_at h
  refine x_callI0 (Y := mX7_init) (d' := 2) dX10_init_10 ml_X10_11 yi_X7_init (by omega) rfl rfl (by simp [Value.category]) (lC_X7_init qg5) ?_
  obtain ⟨σ8, qg7, h⟩ := bd_at h
  refine p_putF (x := (4 + nq3)) ok_X10 dX10_init_13 (k := 0) (by decide) fl_X10_14 rfl rfl rfl vd_ref.symm rfl rfl qg7 ?_
  refine r_aload_n dX10_init_16 0 rfl ?_
  refine p_new (fs := [1, 0]) ok_X7 dX10_init_17 cl_X10_9 in_X7 wi_X7 df_X7 ?_
  refine r_topa (fun nq9 enq9 => ?_)
  replace h := bnd_at h enq9
  refine r_st (fun σ10 eσ10 => ?_)
  replace h := bnd_at h eσ10
  refine r_dup dX10_init_20 rfl ?_
  refine r_iconst (v := 0) dX10_init_21 (by decide) ?_
  obtain ⟨σ12, qg11, h⟩ := bd_at h
  refine x_callI0 (Y := mX7_init) (d' := 2) dX10_init_22 ml_X10_11 yi_X7_init (by omega) rfl rfl (by simp [Value.category]) (lC_X7_init qg11) ?_
  obtain ⟨σ14, qg13, h⟩ := bd_at h
  refine p_putF (x := (4 + nq9)) ok_X10 dX10_init_25 (k := 1) (by decide) fl_X10_20 rfl rfl rfl vd_ref.symm rfl rfl qg13 ?_
  refine r_aload_n dX10_init_28 0 rfl ?_
  refine p_new (fs := [1, 0]) ok_X7 dX10_init_29 cl_X10_9 in_X7 wi_X7 df_X7 ?_
  refine r_topa (fun nq15 enq15 => ?_)
  replace h := bnd_at h enq15
  refine r_st (fun σ16 eσ16 => ?_)
  replace h := bnd_at h eσ16
  refine r_dup dX10_init_32 rfl ?_
  refine r_iconst (v := 0) dX10_init_33 (by decide) ?_
  obtain ⟨σ18, qg17, h⟩ := bd_at h
  refine x_callI0 (Y := mX7_init) (d' := 2) dX10_init_34 ml_X10_11 yi_X7_init (by omega) rfl rfl (by simp [Value.category]) (lC_X7_init qg17) ?_
  obtain ⟨σ20, qg19, h⟩ := bd_at h
  refine p_putF (x := (4 + nq15)) ok_X10 dX10_init_37 (k := 2) (by decide) fl_X10_23 rfl rfl rfl vd_ref.symm rfl rfl qg19 ?_
  refine r_aload_n dX10_init_40 0 rfl ?_
  refine p_new (fs := [1, 0]) ok_X7 dX10_init_41 cl_X10_9 in_X7 wi_X7 df_X7 ?_
  refine r_topa (fun nq21 enq21 => ?_)
  replace h := bnd_at h enq21
  refine r_st (fun σ22 eσ22 => ?_)
  replace h := bnd_at h eσ22
  refine r_dup dX10_init_44 rfl ?_
  refine r_iconst (v := 0) dX10_init_45 (by decide) ?_
  obtain ⟨σ24, qg23, h⟩ := bd_at h
  refine x_callI0 (Y := mX7_init) (d' := 2) dX10_init_46 ml_X10_11 yi_X7_init (by omega) rfl rfl (by simp [Value.category]) (lC_X7_init qg23) ?_
  obtain ⟨σ26, qg25, h⟩ := bd_at h
  refine p_putF (x := (4 + nq21)) ok_X10 dX10_init_49 (k := 3) (by decide) fl_X10_26 rfl rfl rfl vd_ref.symm rfl rfl qg25 ?_
  refine r_aload_n dX10_init_52 0 rfl ?_
  refine p_new (fs := [1, 0]) ok_X7 dX10_init_53 cl_X10_9 in_X7 wi_X7 df_X7 ?_
  refine r_topa (fun nq27 enq27 => ?_)
  replace h := bnd_at h enq27
  refine r_st (fun σ28 eσ28 => ?_)
  replace h := bnd_at h eσ28
  refine r_dup dX10_init_56 rfl ?_
  refine r_iconst (v := 0) dX10_init_57 (by decide) ?_
  obtain ⟨σ30, qg29, h⟩ := bd_at h
  refine x_callI0 (Y := mX7_init) (d' := 2) dX10_init_58 ml_X10_11 yi_X7_init (by omega) rfl rfl (by simp [Value.category]) (lC_X7_init qg29) ?_
  obtain ⟨σ32, qg31, h⟩ := bd_at h
  refine p_putF (x := (4 + nq27)) ok_X10 dX10_init_61 (k := 4) (by decide) fl_X10_29 rfl rfl rfl vd_ref.symm rfl rfl qg31 ?_
  refine r_aload_n dX10_init_64 0 rfl ?_
  refine r_aload_n dX10_init_65 1 rfl ?_
  obtain ⟨σ34, qg33, h⟩ := bd_at h
  refine p_put (x := (4 + x1)) ok_X10 dX10_init_66 (k := 5) (by decide) fl_X10_32 rfl vd_ref.symm rfl rfl qg33 ?_
  refine r_aload_n dX10_init_69 0 rfl ?_
  refine r_aload_n dX10_init_70 2 rfl ?_
  obtain ⟨σ36, qg35, h⟩ := bd_at h
  refine p_put (x := (4 + x2)) ok_X10 dX10_init_71 (k := 6) (by decide) fl_X10_36 rfl vd_ref.symm rfl rfl qg35 ?_
  refine r_vret rfl dX10_init_74 ?_
  exact lfC h
set_option maxRecDepth 8000 in
def C_X8_init (x0 : Nat) (x1 : Nat) (σ : cS) : Option cS := bnd σ.1.length (fun nq1 => bnd (cNew 6 2 [1, 0] σ) (fun σ2 => bd (C_X7_init nq1 0 σ2) (fun σ4 => bd (cPut 7 σ4 x0 1 (4 + nq1)) (fun σ6 => bnd σ6.1.length (fun nq7 => bnd (cNew 6 2 [1, 0] σ6) (fun σ8 => bd (C_X7_init nq7 0 σ8) (fun σ10 => bd (cPut 7 σ10 x0 2 (4 + nq7)) (fun σ12 => bnd σ12.1.length (fun nq13 => bnd (cNew 6 2 [1, 0] σ12) (fun σ14 => bd (C_X7_init nq13 0 σ14) (fun σ16 => bd (cPut 7 σ16 x0 3 (4 + nq13)) (fun σ18 => bnd σ18.1.length (fun nq19 => bnd (cNew 6 2 [1, 0] σ18) (fun σ20 => bd (C_X7_init nq19 0 σ20) (fun σ22 => bd (cPut 7 σ22 x0 4 (4 + nq19)) (fun σ24 => bnd σ24.1.length (fun nq25 => bnd (cNew 6 2 [1, 0] σ24) (fun σ26 => bd (C_X7_init nq25 0 σ26) (fun σ28 => bd (cPut 7 σ28 x0 5 (4 + nq25)) (fun σ30 => bd (cPut 7 σ30 x0 0 (4 + x1)) (fun σ32 => some σ32)))))))))))))))))))))
set_option maxRecDepth 8000 in
theorem lC_X8_init {b : Nat} {kk : Nat → Nat} {x0 : Nat} {x1 : Nat} {σ τ : cS} (h : C_X8_init x0 x1 σ = some τ) : ab_X (pC b kk) 3 mX8_init [.ref (b + x0), .ref (b + x1)] σ none τ := by
  refine ab_X.of (by decide) (Nat.le_of_ble_eq_true rfl) ?_
  unfold C_X8_init at h
  refine r_aload_n dX8_init_0 0 rfl ?_
  refine r_obj dX8_init_1 (by decide) ml_X8_3 ob_i ob_c (by decide) ?_
  refine r_aload_n dX8_init_4 0 rfl ?_
  refine p_new (fs := [1, 0]) ok_X7 dX8_init_5 cl_X8_9 in_X7 wi_X7 df_X7 ?_
  refine r_topa (fun nq1 enq1 => ?_)
  replace h := bnd_at h enq1
  refine r_st (fun σ2 eσ2 => ?_)
  replace h := bnd_at h eσ2
  refine r_dup dX8_init_8 rfl ?_
  refine r_iconst (v := 0) dX8_init_9 (by decide) ?_
  obtain ⟨σ4, qg3, h⟩ := bd_at h
  refine x_callI0 (Y := mX7_init) (d' := 2) dX8_init_10 ml_X8_11 yi_X7_init (by omega) rfl rfl (by simp [Value.category]) (lC_X7_init qg3) ?_
  obtain ⟨σ6, qg5, h⟩ := bd_at h
  refine p_putF (x := (4 + nq1)) ok_X8 dX8_init_13 (k := 1) (by decide) fl_X8_14 rfl rfl rfl vd_ref.symm rfl rfl qg5 ?_
  refine r_aload_n dX8_init_16 0 rfl ?_
  refine p_new (fs := [1, 0]) ok_X7 dX8_init_17 cl_X8_9 in_X7 wi_X7 df_X7 ?_
  refine r_topa (fun nq7 enq7 => ?_)
  replace h := bnd_at h enq7
  refine r_st (fun σ8 eσ8 => ?_)
  replace h := bnd_at h eσ8
  refine r_dup dX8_init_20 rfl ?_
  refine r_iconst (v := 0) dX8_init_21 (by decide) ?_
  obtain ⟨σ10, qg9, h⟩ := bd_at h
  refine x_callI0 (Y := mX7_init) (d' := 2) dX8_init_22 ml_X8_11 yi_X7_init (by omega) rfl rfl (by simp [Value.category]) (lC_X7_init qg9) ?_
  obtain ⟨σ12, qg11, h⟩ := bd_at h
  refine p_putF (x := (4 + nq7)) ok_X8 dX8_init_25 (k := 2) (by decide) fl_X8_20 rfl rfl rfl vd_ref.symm rfl rfl qg11 ?_
  refine r_aload_n dX8_init_28 0 rfl ?_
  refine p_new (fs := [1, 0]) ok_X7 dX8_init_29 cl_X8_9 in_X7 wi_X7 df_X7 ?_
  refine r_topa (fun nq13 enq13 => ?_)
  replace h := bnd_at h enq13
  refine r_st (fun σ14 eσ14 => ?_)
  replace h := bnd_at h eσ14
  refine r_dup dX8_init_32 rfl ?_
  refine r_iconst (v := 0) dX8_init_33 (by decide) ?_
  obtain ⟨σ16, qg15, h⟩ := bd_at h
  refine x_callI0 (Y := mX7_init) (d' := 2) dX8_init_34 ml_X8_11 yi_X7_init (by omega) rfl rfl (by simp [Value.category]) (lC_X7_init qg15) ?_
  obtain ⟨σ18, qg17, h⟩ := bd_at h
  refine p_putF (x := (4 + nq13)) ok_X8 dX8_init_37 (k := 3) (by decide) fl_X8_23 rfl rfl rfl vd_ref.symm rfl rfl qg17 ?_
  refine r_aload_n dX8_init_40 0 rfl ?_
  refine p_new (fs := [1, 0]) ok_X7 dX8_init_41 cl_X8_9 in_X7 wi_X7 df_X7 ?_
  refine r_topa (fun nq19 enq19 => ?_)
  replace h := bnd_at h enq19
  refine r_st (fun σ20 eσ20 => ?_)
  replace h := bnd_at h eσ20
  refine r_dup dX8_init_44 rfl ?_
  refine r_iconst (v := 0) dX8_init_45 (by decide) ?_
  obtain ⟨σ22, qg21, h⟩ := bd_at h
  refine x_callI0 (Y := mX7_init) (d' := 2) dX8_init_46 ml_X8_11 yi_X7_init (by omega) rfl rfl (by simp [Value.category]) (lC_X7_init qg21) ?_
  obtain ⟨σ24, qg23, h⟩ := bd_at h
  refine p_putF (x := (4 + nq19)) ok_X8 dX8_init_49 (k := 4) (by decide) fl_X8_26 rfl rfl rfl vd_ref.symm rfl rfl qg23 ?_
  refine r_aload_n dX8_init_52 0 rfl ?_
  refine p_new (fs := [1, 0]) ok_X7 dX8_init_53 cl_X8_9 in_X7 wi_X7 df_X7 ?_
  refine r_topa (fun nq25 enq25 => ?_)
  replace h := bnd_at h enq25
  refine r_st (fun σ26 eσ26 => ?_)
  replace h := bnd_at h eσ26
  refine r_dup dX8_init_56 rfl ?_
  refine r_iconst (v := 0) dX8_init_57 (by decide) ?_
  obtain ⟨σ28, qg27, h⟩ := bd_at h
  refine x_callI0 (Y := mX7_init) (d' := 2) dX8_init_58 ml_X8_11 yi_X7_init (by omega) rfl rfl (by simp [Value.category]) (lC_X7_init qg27) ?_
  obtain ⟨σ30, qg29, h⟩ := bd_at h
  refine p_putF (x := (4 + nq25)) ok_X8 dX8_init_61 (k := 5) (by decide) fl_X8_29 rfl rfl rfl vd_ref.symm rfl rfl qg29 ?_
  refine r_aload_n dX8_init_64 0 rfl ?_
  refine r_aload_n dX8_init_65 1 rfl ?_
  obtain ⟨σ32, qg31, h⟩ := bd_at h
  refine p_putF (x := (4 + x1)) ok_X8 dX8_init_66 (k := 0) (by decide) fl_X8_32 rfl rfl rfl vd_ref.symm rfl rfl qg31 ?_
  refine r_vret rfl dX8_init_69 ?_
  exact lfC h
set_option maxRecDepth 8000 in
def C_X11_init (x0 : Nat) (σ : cS) : Option cS := bnd σ.1.length (fun nq1 => bnd (cNew 8 9 [1, 0, 0, 0, 0, 0, 0, 0, 0] σ) (fun σ2 => bd (C_X9_init nq1 σ2) (fun σ4 => bd (cPut 10 σ4 x0 0 (4 + nq1)) (fun σ6 => bnd σ6.1.length (fun nq7 => bnd (cNew 4 8 [1, 1, 1, 1, 1, 1, 0, 0] σ6) (fun σ8 => bd (cGet 10 σ8 x0 0) (fun nq10 => bd (C_X5_init nq7 nq10 σ8) (fun σ12 => bd (cPut 10 σ12 x0 1 (4 + nq7)) (fun σ14 => bnd σ14.1.length (fun nq15 => bnd (cNew 3 5 [1, 0, 0, 0, 0] σ14) (fun σ16 => bd (C_X4_init nq15 σ16) (fun σ18 => bd (cPut 10 σ18 x0 2 (4 + nq15)) (fun σ20 => bnd σ20.1.length (fun nq21 => bnd (cArr 4 (3 : Int32).toNatClampNeg (List.replicate (3 : Int32).toNatClampNeg 1) σ20) (fun σ22 => bd (cPut 10 σ22 x0 3 (4 + nq21)) (fun σ24 => bnd σ24.1.length (fun nq25 => bnd (cArr 5 (3 : Int32).toNatClampNeg (List.replicate (3 : Int32).toNatClampNeg 1) σ24) (fun σ26 => bd (cPut 10 σ26 x0 4 (4 + nq25)) (fun σ28 => bnd σ28.1.length (fun nq29 => bnd (cNew 2 9 [1, 1, 1, 1, 1, 1, 0, 0, 0] σ28) (fun σ30 => bd (C_X3_init nq29 σ30) (fun σ32 => bd (cPut 10 σ32 x0 5 (4 + nq29)) (fun σ34 => bnd σ34.1.length (fun nq35 => bnd (cNew 7 9 [1, 1, 1, 1, 1, 1, 0, 0, 0] σ34) (fun σ36 => bd (cGet 10 σ36 x0 5) (fun nq38 => bd (C_X8_init nq35 nq38 σ36) (fun σ40 => bd (cPut 10 σ40 x0 8 (4 + nq35)) (fun σ42 => bnd σ42.1.length (fun nq43 => bnd (cNew 6 2 [1, 0] σ42) (fun σ44 => bd (C_X7_init nq43 0 σ44) (fun σ46 => bd (cGet 10 σ46 x0 3) (fun nq48 => bnd σ46.1.length (fun nq49 => bnd (cNew 0 5 [1, 0, 0, 0, 0] σ46) (fun σ50 => bd (C_X0_init nq49 σ50) (fun σ52 => bd (cAst 4 0 σ52 nq48 (0 : Int32).toNatClampNeg nq49) (fun σ54 => bd (cGet 10 σ54 x0 4) (fun nq56 => bnd σ54.1.length (fun nq57 => bnd (cNew 1 8 [1, 1, 1, 1, 1, 1, 0, 0] σ54) (fun σ58 => bd (cGet 10 σ58 x0 3) (fun nq60 => bd (cAld 4 σ58 nq60 (0 : Int32).toNatClampNeg) (fun nq62 => bd (cGet 10 σ58 x0 2) (fun nq64 => bd (C_X1_init nq57 nq62 nq64 nq43 σ58) (fun σ66 => bd (cAst 5 1 σ66 nq56 (0 : Int32).toNatClampNeg nq57) (fun σ68 => bd (cGet 10 σ68 x0 3) (fun nq70 => bnd σ68.1.length (fun nq71 => bnd (cNew 0 5 [1, 0, 0, 0, 0] σ68) (fun σ72 => bd (C_X0_init nq71 σ72) (fun σ74 => bd (cAst 4 0 σ74 nq70 (1 : Int32).toNatClampNeg nq71) (fun σ76 => bd (cGet 10 σ76 x0 4) (fun nq78 => bnd σ76.1.length (fun nq79 => bnd (cNew 1 8 [1, 1, 1, 1, 1, 1, 0, 0] σ76) (fun σ80 => bd (cGet 10 σ80 x0 3) (fun nq82 => bd (cAld 4 σ80 nq82 (1 : Int32).toNatClampNeg) (fun nq84 => bd (cGet 10 σ80 x0 2) (fun nq86 => bd (C_X1_init nq79 nq84 nq86 nq43 σ80) (fun σ88 => bd (cAst 5 1 σ88 nq78 (1 : Int32).toNatClampNeg nq79) (fun σ90 => bd (cGet 10 σ90 x0 3) (fun nq92 => bnd σ90.1.length (fun nq93 => bnd (cNew 0 5 [1, 0, 0, 0, 0] σ90) (fun σ94 => bd (C_X0_init nq93 σ94) (fun σ96 => bd (cAst 4 0 σ96 nq92 (2 : Int32).toNatClampNeg nq93) (fun σ98 => bd (cGet 10 σ98 x0 4) (fun nq100 => bnd σ98.1.length (fun nq101 => bnd (cNew 1 8 [1, 1, 1, 1, 1, 1, 0, 0] σ98) (fun σ102 => bd (cGet 10 σ102 x0 3) (fun nq104 => bd (cAld 4 σ102 nq104 (2 : Int32).toNatClampNeg) (fun nq106 => bd (cGet 10 σ102 x0 2) (fun nq108 => bd (C_X1_init nq101 nq106 nq108 nq43 σ102) (fun σ110 => bd (cAst 5 1 σ110 nq100 (2 : Int32).toNatClampNeg nq101) (fun σ112 => bnd σ112.1.length (fun nq113 => bnd (cNew 5 8 [1, 1, 1, 1, 1, 1, 1, 0] σ112) (fun σ114 => bd (cGet 10 σ114 x0 5) (fun nq116 => bd (cGet 10 σ114 x0 3) (fun nq118 => bd (cAld 4 σ114 nq118 (0 : Int32).toNatClampNeg) (fun nq120 => bd (C_X6_init nq113 nq116 nq120 σ114) (fun σ122 => bd (cPut 10 σ122 x0 6 (4 + nq113)) (fun σ124 => bnd σ124.1.length (fun nq125 => bnd (cNew 9 9 [1, 1, 1, 1, 1, 1, 1, 0, 0] σ124) (fun σ126 => bd (cGet 10 σ126 x0 3) (fun nq128 => bd (cAld 4 σ126 nq128 (0 : Int32).toNatClampNeg) (fun nq130 => bd (cGet 10 σ126 x0 4) (fun nq132 => bd (cAld 5 σ126 nq132 (0 : Int32).toNatClampNeg) (fun nq134 => bd (C_X10_init nq125 nq130 nq134 σ126) (fun σ136 => bd (cPut 10 σ136 x0 7 (4 + nq125)) (fun σ138 => some σ138)))))))))))))))))))))))))))))))))))))))))))))))))))))))))))))))))))))))))))))))))))))
set_option maxRecDepth 8000 in
theorem lC_X11_init {b : Nat} {kk : Nat → Nat} {x0 : Nat} {σ τ : cS} (h : C_X11_init x0 σ = some τ) : ab_X (pC b kk) 5 mX11_init [.ref (b + x0)] σ none τ := by
  refine ab_X.of (by decide) (Nat.le_of_ble_eq_true rfl) ?_
  unfold C_X11_init at h
  refine r_aload_n dX11_init_0 0 rfl ?_
  refine r_obj dX11_init_1 (by decide) ml_X11_1 ob_i ob_c (by decide) ?_
  refine r_aload_n dX11_init_4 0 rfl ?_
  refine p_new (fs := [1, 0, 0, 0, 0, 0, 0, 0, 0]) ok_X9 dX11_init_5 cl_X11_7 in_X9 wi_X9 df_X9 ?_
  refine r_topa (fun nq1 enq1 => ?_)
  replace h := bnd_at h enq1
  refine r_st (fun σ2 eσ2 => ?_)
  replace h := bnd_at h eσ2
  refine r_dup dX11_init_8 rfl ?_
  obtain ⟨σ4, qg3, h⟩ := bd_at h
  refine x_callIN0 (Y := mX9_init) (d' := 3) dX11_init_9 mn_X11_9 yi_X9_init (by omega) rfl rfl (by simp [Value.category]) (lC_X9_init qg3) ?_
  obtain ⟨σ6, qg5, h⟩ := bd_at h
  refine p_putF (x := (4 + nq1)) ok_X11 dX11_init_12 (k := 0) (by decide) fl_X11_10 rfl rfl rfl vd_ref.symm rfl rfl qg5 ?_
  refine r_aload_n dX11_init_15 0 rfl ?_
  refine p_new (fs := [1, 1, 1, 1, 1, 1, 0, 0]) ok_X5 dX11_init_16 cl_X11_16 in_X5 wi_X5 df_X5 ?_
  refine r_topa (fun nq7 enq7 => ?_)
  replace h := bnd_at h enq7
  refine r_st (fun σ8 eσ8 => ?_)
  replace h := bnd_at h eσ8
  refine r_dup dX11_init_19 rfl ?_
  refine r_aload_n dX11_init_20 0 rfl ?_
  obtain ⟨nq10, qg9, h⟩ := bd_at h
  refine p_get ok_X11 dX11_init_21 (k := 0) (by decide) fl_X11_10 qg9 ?_
  obtain ⟨σ12, qg11, h⟩ := bd_at h
  refine x_callI0 (Y := mX5_init) (d' := 4) dX11_init_24 ml_X11_18 yi_X5_init (by omega) rfl rfl (by simp [Value.category]) (lC_X5_init qg11) ?_
  obtain ⟨σ14, qg13, h⟩ := bd_at h
  refine p_putF (x := (4 + nq7)) ok_X11 dX11_init_27 (k := 1) (by decide) fl_X11_21 rfl rfl rfl vd_ref.symm rfl rfl qg13 ?_
  refine r_aload_n dX11_init_30 0 rfl ?_
  refine p_new (fs := [1, 0, 0, 0, 0]) ok_X4 dX11_init_31 cl_X11_25 in_X4 wi_X4 df_X4 ?_
  refine r_topa (fun nq15 enq15 => ?_)
  replace h := bnd_at h enq15
  refine r_st (fun σ16 eσ16 => ?_)
  replace h := bnd_at h eσ16
  refine r_dup dX11_init_34 rfl ?_
  obtain ⟨σ18, qg17, h⟩ := bd_at h
  refine x_callIN0 (Y := mX4_init) (d' := 3) dX11_init_35 mn_X11_27 yi_X4_init (by omega) rfl rfl (by simp [Value.category]) (lC_X4_init qg17) ?_
  obtain ⟨σ20, qg19, h⟩ := bd_at h
  refine p_putF (x := (4 + nq15)) ok_X11 dX11_init_38 (k := 2) (by decide) fl_X11_28 rfl rfl rfl vd_ref.symm rfl rfl qg19 ?_
  refine r_aload_n dX11_init_41 0 rfl ?_
  refine r_iconst (v := 3) dX11_init_42 (by decide) ?_
  refine p_anew (t := 4) (Or.inl ⟨rfl, rfl⟩) dX11_init_43 cl_X11_32 (by decide) ?_
  refine r_topa (fun nq21 enq21 => ?_)
  replace h := bnd_at h enq21
  refine r_st (fun σ22 eσ22 => ?_)
  replace h := bnd_at h eσ22
  obtain ⟨σ24, qg23, h⟩ := bd_at h
  refine p_putF (x := (4 + nq21)) ok_X11 dX11_init_46 (k := 3) (by decide) fl_X11_34 rfl rfl rfl vd_ref.symm rfl rfl qg23 ?_
  refine r_aload_n dX11_init_49 0 rfl ?_
  refine r_iconst (v := 3) dX11_init_50 (by decide) ?_
  refine p_anew (t := 5) (Or.inr ⟨rfl, rfl⟩) dX11_init_51 cl_X11_38 (by decide) ?_
  refine r_topa (fun nq25 enq25 => ?_)
  replace h := bnd_at h enq25
  refine r_st (fun σ26 eσ26 => ?_)
  replace h := bnd_at h eσ26
  obtain ⟨σ28, qg27, h⟩ := bd_at h
  refine p_putF (x := (4 + nq25)) ok_X11 dX11_init_54 (k := 4) (by decide) fl_X11_40 rfl rfl rfl vd_ref.symm rfl rfl qg27 ?_
  refine r_aload_n dX11_init_57 0 rfl ?_
  refine p_new (fs := [1, 1, 1, 1, 1, 1, 0, 0, 0]) ok_X3 dX11_init_58 cl_X11_44 in_X3 wi_X3 df_X3 ?_
  refine r_topa (fun nq29 enq29 => ?_)
  replace h := bnd_at h enq29
  refine r_st (fun σ30 eσ30 => ?_)
  replace h := bnd_at h eσ30
  refine r_dup dX11_init_61 rfl ?_
  obtain ⟨σ32, qg31, h⟩ := bd_at h
  refine x_callIN0 (Y := mX3_init) (d' := 3) dX11_init_62 mn_X11_46 yi_X3_init (by omega) rfl rfl (by simp [Value.category]) (lC_X3_init qg31) ?_
  obtain ⟨σ34, qg33, h⟩ := bd_at h
  refine p_putF (x := (4 + nq29)) ok_X11 dX11_init_65 (k := 5) (by decide) fl_X11_47 rfl rfl rfl vd_ref.symm rfl rfl qg33 ?_
  refine r_aload_n dX11_init_68 0 rfl ?_
  refine p_new (fs := [1, 1, 1, 1, 1, 1, 0, 0, 0]) ok_X8 dX11_init_69 cl_X11_51 in_X8 wi_X8 df_X8 ?_
  refine r_topa (fun nq35 enq35 => ?_)
  replace h := bnd_at h enq35
  refine r_st (fun σ36 eσ36 => ?_)
  replace h := bnd_at h eσ36
  refine r_dup dX11_init_72 rfl ?_
  refine r_aload_n dX11_init_73 0 rfl ?_
  obtain ⟨nq38, qg37, h⟩ := bd_at h
  refine p_get ok_X11 dX11_init_74 (k := 5) (by decide) fl_X11_47 qg37 ?_
  obtain ⟨σ40, qg39, h⟩ := bd_at h
  refine x_callI0 (Y := mX8_init) (d' := 3) dX11_init_77 ml_X11_53 yi_X8_init (by omega) rfl rfl (by simp [Value.category]) (lC_X8_init qg39) ?_
  obtain ⟨σ42, qg41, h⟩ := bd_at h
  refine p_putF (x := (4 + nq35)) ok_X11 dX11_init_80 (k := 8) (by decide) fl_X11_56 rfl rfl rfl vd_ref.symm rfl rfl qg41 ?_
  refine p_new (fs := [1, 0]) ok_X7 dX11_init_83 cl_X11_60 in_X7 wi_X7 df_X7 ?_
  refine r_topa (fun nq43 enq43 => ?_)
  replace h := bnd_at h enq43
  refine r_st (fun σ44 eσ44 => ?_)
  replace h := bnd_at h eσ44
  refine r_dup dX11_init_86 rfl ?_
  refine r_iconst (v := 0) dX11_init_87 (by decide) ?_
  obtain ⟨σ46, qg45, h⟩ := bd_at h
  refine x_callI0 (Y := mX7_init) (d' := 2) dX11_init_88 ml_X11_62 yi_X7_init (by omega) rfl rfl (by simp [Value.category]) (lC_X7_init qg45) ?_
  refine r_astore_n (lo' := [(1, .ref (b + nq43)), (0, .ref (b + x0))]) dX11_init_91 (by decide) rfl ?_
  refine r_iconst (v := 0) dX11_init_92 (by decide) ?_
  refine r_istore_n (lo' := [(2, .int 0), (1, .ref (b + nq43)), (0, .ref (b + x0))]) dX11_init_93 (by decide) rfl ?_
  refine r_iload_n dX11_init_94 0 rfl ?_
  refine r_iconst (v := 3) dX11_init_95 (by decide) ?_
  refine r_icmp_ge (t := 142) dX11_init_96 (by decide) (fun hh9 => absurd hh9 (by decide)) (fun _ => ?_)
  refine r_aload_n dX11_init_99 2 rfl ?_
  obtain ⟨nq48, qg47, h⟩ := bd_at h
  refine p_get ok_X11 dX11_init_100 (k := 3) (by decide) fl_X11_34 qg47 ?_
  refine r_iload_n dX11_init_103 0 rfl ?_
  refine p_new (fs := [1, 0, 0, 0, 0]) ok_X0 dX11_init_104 cl_X11_32 in_X0 wi_X0 df_X0 ?_
  refine r_topa (fun nq49 enq49 => ?_)
  replace h := bnd_at h enq49
  refine r_st (fun σ50 eσ50 => ?_)
  replace h := bnd_at h eσ50
  refine r_dup dX11_init_107 rfl ?_
  obtain ⟨σ52, qg51, h⟩ := bd_at h
  refine x_callIN0 (Y := mX0_init) (d' := 3) dX11_init_108 mn_X11_65 yi_X0_init (by omega) rfl rfl (by simp [Value.category]) (lC_X0_init qg51) ?_
  obtain ⟨σ54, qg53, h⟩ := bd_at h
  refine p_aast4 dX11_init_111 (by decide) qg53 ?_
  refine r_aload_n dX11_init_112 2 rfl ?_
  obtain ⟨nq56, qg55, h⟩ := bd_at h
  refine p_get ok_X11 dX11_init_113 (k := 4) (by decide) fl_X11_40 qg55 ?_
  refine r_iload_n dX11_init_116 0 rfl ?_
  refine p_new (fs := [1, 1, 1, 1, 1, 1, 0, 0]) ok_X1 dX11_init_117 cl_X11_38 in_X1 wi_X1 df_X1 ?_
  refine r_topa (fun nq57 enq57 => ?_)
  replace h := bnd_at h enq57
  refine r_st (fun σ58 eσ58 => ?_)
  replace h := bnd_at h eσ58
  refine r_dup dX11_init_120 rfl ?_
  refine r_aload_n dX11_init_121 2 rfl ?_
  obtain ⟨nq60, qg59, h⟩ := bd_at h
  refine p_get ok_X11 dX11_init_122 (k := 3) (by decide) fl_X11_34 qg59 ?_
  refine r_iload_n dX11_init_125 0 rfl ?_
  obtain ⟨nq62, qg61, h⟩ := bd_at h
  refine p_aald4 dX11_init_126 (by decide) qg61 ?_
  refine r_aload_n dX11_init_127 2 rfl ?_
  obtain ⟨nq64, qg63, h⟩ := bd_at h
  refine p_get ok_X11 dX11_init_128 (k := 2) (by decide) fl_X11_28 qg63 ?_
  refine r_aload_n dX11_init_131 1 rfl ?_
  obtain ⟨σ66, qg65, h⟩ := bd_at h
  refine x_callI0 (Y := mX1_init) (d' := 3) dX11_init_132 ml_X11_66 yi_X1_init (by omega) rfl rfl (by simp [Value.category]) (lC_X1_init qg65) ?_
  obtain ⟨σ68, qg67, h⟩ := bd_at h
  refine p_aast5 dX11_init_135 (by decide) qg67 ?_
  refine r_iinc (v := 1) (lo' := [(2, .int 1), (1, .ref (b + nq43)), (0, .ref (b + x0))]) dX11_init_136 0 rfl (by decide) (by decide) rfl ?_
  refine r_goto (t := 94) dX11_init_139 (by decide) ?_
  refine r_iload_n dX11_init_94 0 rfl ?_
  refine r_iconst (v := 3) dX11_init_95 (by decide) ?_
  refine r_icmp_ge (t := 142) dX11_init_96 (by decide) (fun hh9 => absurd hh9 (by decide)) (fun _ => ?_)
  refine r_aload_n dX11_init_99 2 rfl ?_
  obtain ⟨nq70, qg69, h⟩ := bd_at h
  refine p_get ok_X11 dX11_init_100 (k := 3) (by decide) fl_X11_34 qg69 ?_
  refine r_iload_n dX11_init_103 0 rfl ?_
  refine p_new (fs := [1, 0, 0, 0, 0]) ok_X0 dX11_init_104 cl_X11_32 in_X0 wi_X0 df_X0 ?_
  refine r_topa (fun nq71 enq71 => ?_)
  replace h := bnd_at h enq71
  refine r_st (fun σ72 eσ72 => ?_)
  replace h := bnd_at h eσ72
  refine r_dup dX11_init_107 rfl ?_
  obtain ⟨σ74, qg73, h⟩ := bd_at h
  refine x_callIN0 (Y := mX0_init) (d' := 3) dX11_init_108 mn_X11_65 yi_X0_init (by omega) rfl rfl (by simp [Value.category]) (lC_X0_init qg73) ?_
  obtain ⟨σ76, qg75, h⟩ := bd_at h
  refine p_aast4 dX11_init_111 (by decide) qg75 ?_
  refine r_aload_n dX11_init_112 2 rfl ?_
  obtain ⟨nq78, qg77, h⟩ := bd_at h
  refine p_get ok_X11 dX11_init_113 (k := 4) (by decide) fl_X11_40 qg77 ?_
  refine r_iload_n dX11_init_116 0 rfl ?_
  refine p_new (fs := [1, 1, 1, 1, 1, 1, 0, 0]) ok_X1 dX11_init_117 cl_X11_38 in_X1 wi_X1 df_X1 ?_
  refine r_topa (fun nq79 enq79 => ?_)
  replace h := bnd_at h enq79
  refine r_st (fun σ80 eσ80 => ?_)
  replace h := bnd_at h eσ80
  refine r_dup dX11_init_120 rfl ?_
  refine r_aload_n dX11_init_121 2 rfl ?_
  obtain ⟨nq82, qg81, h⟩ := bd_at h
  refine p_get ok_X11 dX11_init_122 (k := 3) (by decide) fl_X11_34 qg81 ?_
  refine r_iload_n dX11_init_125 0 rfl ?_
  obtain ⟨nq84, qg83, h⟩ := bd_at h
  refine p_aald4 dX11_init_126 (by decide) qg83 ?_
  refine r_aload_n dX11_init_127 2 rfl ?_
  obtain ⟨nq86, qg85, h⟩ := bd_at h
  refine p_get ok_X11 dX11_init_128 (k := 2) (by decide) fl_X11_28 qg85 ?_
  refine r_aload_n dX11_init_131 1 rfl ?_
  obtain ⟨σ88, qg87, h⟩ := bd_at h
  refine x_callI0 (Y := mX1_init) (d' := 3) dX11_init_132 ml_X11_66 yi_X1_init (by omega) rfl rfl (by simp [Value.category]) (lC_X1_init qg87) ?_
  obtain ⟨σ90, qg89, h⟩ := bd_at h
  refine p_aast5 dX11_init_135 (by decide) qg89 ?_
  refine r_iinc (v := 2) (lo' := [(2, .int 2), (1, .ref (b + nq43)), (0, .ref (b + x0))]) dX11_init_136 0 rfl (by decide) (by decide) rfl ?_
  refine r_goto (t := 94) dX11_init_139 (by decide) ?_
  refine r_iload_n dX11_init_94 0 rfl ?_
  refine r_iconst (v := 3) dX11_init_95 (by decide) ?_
  refine r_icmp_ge (t := 142) dX11_init_96 (by decide) (fun hh9 => absurd hh9 (by decide)) (fun _ => ?_)
  refine r_aload_n dX11_init_99 2 rfl ?_
  obtain ⟨nq92, qg91, h⟩ := bd_at h
  refine p_get ok_X11 dX11_init_100 (k := 3) (by decide) fl_X11_34 qg91 ?_
  refine r_iload_n dX11_init_103 0 rfl ?_
  refine p_new (fs := [1, 0, 0, 0, 0]) ok_X0 dX11_init_104 cl_X11_32 in_X0 wi_X0 df_X0 ?_
  refine r_topa (fun nq93 enq93 => ?_)
  replace h := bnd_at h enq93
  refine r_st (fun σ94 eσ94 => ?_)
  replace h := bnd_at h eσ94
  refine r_dup dX11_init_107 rfl ?_
  obtain ⟨σ96, qg95, h⟩ := bd_at h
  refine x_callIN0 (Y := mX0_init) (d' := 3) dX11_init_108 mn_X11_65 yi_X0_init (by omega) rfl rfl (by simp [Value.category]) (lC_X0_init qg95) ?_
  obtain ⟨σ98, qg97, h⟩ := bd_at h
  refine p_aast4 dX11_init_111 (by decide) qg97 ?_
  refine r_aload_n dX11_init_112 2 rfl ?_
  obtain ⟨nq100, qg99, h⟩ := bd_at h
  refine p_get ok_X11 dX11_init_113 (k := 4) (by decide) fl_X11_40 qg99 ?_
  refine r_iload_n dX11_init_116 0 rfl ?_
  refine p_new (fs := [1, 1, 1, 1, 1, 1, 0, 0]) ok_X1 dX11_init_117 cl_X11_38 in_X1 wi_X1 df_X1 ?_
  refine r_topa (fun nq101 enq101 => ?_)
  replace h := bnd_at h enq101
  refine r_st (fun σ102 eσ102 => ?_)
  replace h := bnd_at h eσ102
  refine r_dup dX11_init_120 rfl ?_
  refine r_aload_n dX11_init_121 2 rfl ?_
  obtain ⟨nq104, qg103, h⟩ := bd_at h
  refine p_get ok_X11 dX11_init_122 (k := 3) (by decide) fl_X11_34 qg103 ?_
  refine r_iload_n dX11_init_125 0 rfl ?_
  obtain ⟨nq106, qg105, h⟩ := bd_at h
  refine p_aald4 dX11_init_126 (by decide) qg105 ?_
  refine r_aload_n dX11_init_127 2 rfl ?_
  obtain ⟨nq108, qg107, h⟩ := bd_at h
  refine p_get ok_X11 dX11_init_128 (k := 2) (by decide) fl_X11_28 qg107 ?_
  refine r_aload_n dX11_init_131 1 rfl ?_
  obtain ⟨σ110, qg109, h⟩ := bd_at h
  refine x_callI0 (Y := mX1_init) (d' := 3) dX11_init_132 ml_X11_66 yi_X1_init (by omega) rfl rfl (by simp [Value.category]) (lC_X1_init qg109) ?_
  obtain ⟨σ112, qg111, h⟩ := bd_at h
  refine p_aast5 dX11_init_135 (by decide) qg111 ?_
  refine r_iinc (v := 3) (lo' := [(2, .int 3), (1, .ref (b + nq43)), (0, .ref (b + x0))]) dX11_init_136 0 rfl (by decide) (by decide) rfl ?_
  refine r_goto (t := 94) dX11_init_139 (by decide) ?_
  refine r_iload_n dX11_init_94 0 rfl ?_
  refine r_iconst (v := 3) dX11_init_95 (by decide) ?_
  refine r_icmp_ge (t := 142) dX11_init_96 (by decide) (fun _ => ?_) (fun hh9 => absurd (by decide) hh9)
  refine r_aload_n dX11_init_142 2 rfl ?_
  refine p_new (fs := [1, 1, 1, 1, 1, 1, 1, 0]) ok_X6 dX11_init_143 cl_X11_69 in_X6 wi_X6 df_X6 ?_
  refine r_topa (fun nq113 enq113 => ?_)
  replace h := bnd_at h enq113
  refine r_st (fun σ114 eσ114 => ?_)
  replace h := bnd_at h eσ114
  refine r_dup dX11_init_146 rfl ?_
  refine r_aload_n dX11_init_147 2 rfl ?_
  obtain ⟨nq116, qg115, h⟩ := bd_at h
  refine p_get ok_X11 dX11_init_148 (k := 5) (by decide) fl_X11_47 qg115 ?_
  refine r_aload_n dX11_init_151 2 rfl ?_
  obtain ⟨nq118, qg117, h⟩ := bd_at h
  refine p_get ok_X11 dX11_init_152 (k := 3) (by decide) fl_X11_34 qg117 ?_
  refine r_iconst (v := 0) dX11_init_155 (by decide) ?_
  obtain ⟨nq120, qg119, h⟩ := bd_at h
  refine p_aald4 dX11_init_156 (by decide) qg119 ?_
  obtain ⟨σ122, qg121, h⟩ := bd_at h
  refine x_callI0 (Y := mX6_init) (d' := 3) dX11_init_157 ml_X11_71 yi_X6_init (by omega) rfl rfl (by simp [Value.category]) (lC_X6_init qg121) ?_
  obtain ⟨σ124, qg123, h⟩ := bd_at h
  refine p_putF (x := (4 + nq113)) ok_X11 dX11_init_160 (k := 6) (by decide) fl_X11_74 rfl rfl rfl vd_ref.symm rfl rfl qg123 ?_
  refine r_aload_n dX11_init_163 2 rfl ?_
  refine p_new (fs := [1, 1, 1, 1, 1, 1, 1, 0, 0]) ok_X10 dX11_init_164 cl_X11_78 in_X10 wi_X10 df_X10 ?_
  refine r_topa (fun nq125 enq125 => ?_)
  replace h := bnd_at h enq125
  refine r_st (fun σ126 eσ126 => ?_)
  replace h := bnd_at h eσ126
  refine r_dup dX11_init_167 rfl ?_
  refine r_aload_n dX11_init_168 2 rfl ?_
  obtain ⟨nq128, qg127, h⟩ := bd_at h
  refine p_get ok_X11 dX11_init_169 (k := 3) (by decide) fl_X11_34 qg127 ?_
  refine r_iconst (v := 0) dX11_init_172 (by decide) ?_
  obtain ⟨nq130, qg129, h⟩ := bd_at h
  refine p_aald4 dX11_init_173 (by decide) qg129 ?_
  refine r_aload_n dX11_init_174 2 rfl ?_
  obtain ⟨nq132, qg131, h⟩ := bd_at h
  refine p_get ok_X11 dX11_init_175 (k := 4) (by decide) fl_X11_40 qg131 ?_
  refine r_iconst (v := 0) dX11_init_178 (by decide) ?_
  obtain ⟨nq134, qg133, h⟩ := bd_at h
  refine p_aald5 dX11_init_179 (by decide) qg133 ?_
  obtain ⟨σ136, qg135, h⟩ := bd_at h
  refine x_callI0 (Y := mX10_init) (d' := 3) dX11_init_180 ml_X11_80 yi_X10_init (by omega) rfl rfl (by simp [Value.category]) (lC_X10_init qg135) ?_
  obtain ⟨σ138, qg137, h⟩ := bd_at h
  refine p_putF (x := (4 + nq125)) ok_X11 dX11_init_183 (k := 7) (by decide) fl_X11_83 rfl rfl rfl vd_ref.symm rfl rfl qg137 ?_
  refine r_vret rfl dX11_init_186 ?_
  exact lfC h
set_option maxRecDepth 8000 in
def C_X12_init (x0 : Nat) (σ : cS) : Option cS := bd (cPut 11 σ x0 2 3) (fun σ2 => bnd σ2.1.length (fun nq3 => bnd (cArr 1 (400 : Int32).toNatClampNeg [] σ2) (fun σ4 => bd (cPut 11 σ4 x0 3 (4 + nq3)) (fun σ6 => bnd σ6.1.length (fun nq7 => bnd (cArr 1 (6 : Int32).toNatClampNeg [] σ6) (fun σ8 => bd (cPut 11 σ8 x0 14 (4 + nq7)) (fun σ10 => bnd σ10.1.length (fun nq11 => bnd (cArr 1 (6 : Int32).toNatClampNeg [] σ10) (fun σ12 => bd (cPut 11 σ12 x0 15 (4 + nq11)) (fun σ14 => bnd σ14.1.length (fun nq15 => bnd (cArr 1 (6 : Int32).toNatClampNeg [] σ14) (fun σ16 => bd (cPut 11 σ16 x0 16 (4 + nq15)) (fun σ18 => bnd σ18.1.length (fun nq19 => bnd (cArr 1 (96 : Int32).toNatClampNeg [] σ18) (fun σ20 => bd (cPut 11 σ20 x0 17 (4 + nq19)) (fun σ22 => bnd σ22.1.length (fun nq23 => bnd (cArr 2 (3 : Int32).toNatClampNeg [] σ22) (fun σ24 => bd (cPut 11 σ24 x0 18 (4 + nq23)) (fun σ26 => bnd σ26.1.length (fun nq27 => bnd (cArr 1 (4 : Int32).toNatClampNeg [] σ26) (fun σ28 => bd (cPut 11 σ28 x0 23 (4 + nq27)) (fun σ30 => bnd σ30.1.length (fun nq31 => bnd (cArr 1 (300 : Int32).toNatClampNeg [] σ30) (fun σ32 => bd (cPut 11 σ32 x0 24 (4 + nq31)) (fun σ34 => bnd σ34.1.length (fun nq35 => bnd (cArr 1 (300 : Int32).toNatClampNeg [] σ34) (fun σ36 => bd (cPut 11 σ36 x0 25 (4 + nq35)) (fun σ38 => bnd σ38.1.length (fun nq39 => bnd (cArr 1 (300 : Int32).toNatClampNeg [] σ38) (fun σ40 => bd (cPut 11 σ40 x0 26 (4 + nq39)) (fun σ42 => bnd σ42.1.length (fun nq43 => bnd (cArr 1 (300 : Int32).toNatClampNeg [] σ42) (fun σ44 => bd (cPut 11 σ44 x0 27 (4 + nq43)) (fun σ46 => bnd σ46.1.length (fun nq47 => bnd (cArr 1 (300 : Int32).toNatClampNeg [] σ46) (fun σ48 => bd (cPut 11 σ48 x0 28 (4 + nq47)) (fun σ50 => bnd σ50.1.length (fun nq51 => bnd (cArr 1 (1024 : Int32).toNatClampNeg [] σ50) (fun σ52 => bd (cPut 11 σ52 x0 29 (4 + nq51)) (fun σ54 => bnd σ54.1.length (fun nq55 => bnd (cArr 1 (901 : Int32).toNatClampNeg [] σ54) (fun σ56 => bd (cPut 11 σ56 x0 30 (4 + nq55)) (fun σ58 => bnd σ58.1.length (fun nq59 => bnd (cArr 1 (270300 : Int32).toNatClampNeg [] σ58) (fun σ60 => bd (cPut 11 σ60 x0 31 (4 + nq59)) (fun σ62 => bd (cPut 11 σ62 x0 32 3) (fun σ64 => bnd σ64.1.length (fun nq65 => bnd (cArr 1 (4 : Int32).toNatClampNeg [] σ64) (fun σ66 => bd (cPut 11 σ66 x0 36 (4 + nq65)) (fun σ68 => bnd σ68.1.length (fun nq69 => bnd (cArr 1 (10 : Int32).toNatClampNeg [] σ68) (fun σ70 => bd (cPut 11 σ70 x0 39 (4 + nq69)) (fun σ72 => bnd σ72.1.length (fun nq73 => bnd (cArr 1 (10 : Int32).toNatClampNeg [] σ72) (fun σ74 => bd (cPut 11 σ74 x0 40 (4 + nq73)) (fun σ76 => bnd σ76.1.length (fun nq77 => bnd (cArr 1 (1000 : Int32).toNatClampNeg [] σ76) (fun σ78 => bd (cPut 11 σ78 x0 43 (4 + nq77)) (fun σ80 => bnd σ80.1.length (fun nq81 => bnd (cArr 1 (1000 : Int32).toNatClampNeg [] σ80) (fun σ82 => bd (cPut 11 σ82 x0 44 (4 + nq81)) (fun σ84 => bnd σ84.1.length (fun nq85 => bnd (cArr 1 (1000 : Int32).toNatClampNeg [] σ84) (fun σ86 => bd (cPut 11 σ86 x0 45 (4 + nq85)) (fun σ88 => bnd σ88.1.length (fun nq89 => bnd (cArr 1 (2400 : Int32).toNatClampNeg [] σ88) (fun σ90 => bd (cPut 11 σ90 x0 46 (4 + nq89)) (fun σ92 => bnd σ92.1.length (fun nq93 => bnd (cArr 1 (3000 : Int32).toNatClampNeg [] σ92) (fun σ94 => bd (cPut 11 σ94 x0 49 (4 + nq93)) (fun σ96 => bnd σ96.1.length (fun nq97 => bnd (cArr 1 (3000 : Int32).toNatClampNeg [] σ96) (fun σ98 => bd (cPut 11 σ98 x0 50 (4 + nq97)) (fun σ100 => bnd σ100.1.length (fun nq101 => bnd (cArr 1 (3000 : Int32).toNatClampNeg [] σ100) (fun σ102 => bd (cPut 11 σ102 x0 51 (4 + nq101)) (fun σ104 => bnd σ104.1.length (fun nq105 => bnd (cArr 3 (3000 : Int32).toNatClampNeg [] σ104) (fun σ106 => bd (cPut 11 σ106 x0 52 (4 + nq105)) (fun σ108 => bnd σ108.1.length (fun nq109 => bnd (cArr 1 (3000 : Int32).toNatClampNeg [] σ108) (fun σ110 => bd (cPut 11 σ110 x0 54 (4 + nq109)) (fun σ112 => bnd σ112.1.length (fun nq113 => bnd (cArr 1 (3000 : Int32).toNatClampNeg [] σ112) (fun σ114 => bd (cPut 11 σ114 x0 55 (4 + nq113)) (fun σ116 => bnd σ116.1.length (fun nq117 => bnd (cArr 1 (3000 : Int32).toNatClampNeg [] σ116) (fun σ118 => bd (cPut 11 σ118 x0 56 (4 + nq117)) (fun σ120 => bnd σ120.1.length (fun nq121 => bnd (cArr 1 (3000 : Int32).toNatClampNeg [] σ120) (fun σ122 => bd (cPut 11 σ122 x0 57 (4 + nq121)) (fun σ124 => bnd σ124.1.length (fun nq125 => bnd (cArr 1 (3000 : Int32).toNatClampNeg [] σ124) (fun σ126 => bd (cPut 11 σ126 x0 58 (4 + nq125)) (fun σ128 => bnd σ128.1.length (fun nq129 => bnd (cArr 3 (3000 : Int32).toNatClampNeg [] σ128) (fun σ130 => bd (cPut 11 σ130 x0 59 (4 + nq129)) (fun σ132 => bnd σ132.1.length (fun nq133 => bnd (cArr 3 (3000 : Int32).toNatClampNeg [] σ132) (fun σ134 => bd (cPut 11 σ134 x0 60 (4 + nq133)) (fun σ136 => bnd σ136.1.length (fun nq137 => bnd (cArr 3 (300 : Int32).toNatClampNeg [] σ136) (fun σ138 => bd (cPut 11 σ138 x0 64 (4 + nq137)) (fun σ140 => bnd σ140.1.length (fun nq141 => bnd (cArr 3 (300 : Int32).toNatClampNeg [] σ140) (fun σ142 => bd (cPut 11 σ142 x0 65 (4 + nq141)) (fun σ144 => bnd σ144.1.length (fun nq145 => bnd (cArr 1 (1000 : Int32).toNatClampNeg [] σ144) (fun σ146 => bd (cPut 11 σ146 x0 66 (4 + nq145)) (fun σ148 => bnd σ148.1.length (fun nq149 => bnd (cArr 1 (1001 : Int32).toNatClampNeg [] σ148) (fun σ150 => bd (cPut 11 σ150 x0 67 (4 + nq149)) (fun σ152 => some σ152)))))))))))))))))))))))))))))))))))))))))))))))))))))))))))))))))))))))))))))))))))))))))))))))))))))))))))))))))
set_option maxRecDepth 8000 in
theorem lC_X12_init {b : Nat} {kk : Nat → Nat} {x0 : Nat} {σ τ : cS} (h : C_X12_init x0 σ = some τ) : ab_X (pC b kk) 2 mX12_init [.ref (b + x0)] σ none τ := by
  refine ab_X.of (by decide) (Nat.le_of_ble_eq_true rfl) ?_
  unfold C_X12_init at h
  refine r_aload_n dX12_init_0 0 rfl ?_
  refine r_obj dX12_init_1 (by decide) ml_X12_1 ob_i ob_c (by decide) ?_
  refine r_aload_n dX12_init_4 0 rfl ?_
  refine r_iconst (v := (-1)) dX12_init_5 (by decide) ?_
  obtain ⟨σ2, qg1, h⟩ := bd_at h
  refine p_put (x := 3) ok_X12 dX12_init_6 (k := 2) (by decide) fl_X12_9 rfl rfl rfl rfl qg1 ?_
  refine r_aload_n dX12_init_9 0 rfl ?_
  refine r_sipush (v := 400) dX12_init_10 (by decide) ?_
  refine p_newI dX12_init_13 (by decide) ?_
  refine r_topa (fun nq3 enq3 => ?_)
  replace h := bnd_at h enq3
  refine r_st (fun σ4 eσ4 => ?_)
  replace h := bnd_at h eσ4
  obtain ⟨σ6, qg5, h⟩ := bd_at h
  refine p_putF (x := (4 + nq3)) ok_X12 dX12_init_15 (k := 3) (by decide) fl_X12_13 rfl rfl rfl vd_ref.symm rfl rfl qg5 ?_
  refine r_aload_n dX12_init_18 0 rfl ?_
  refine r_bipush (v := 6) dX12_init_19 (by decide) ?_
  refine p_newI dX12_init_21 (by decide) ?_
  refine r_topa (fun nq7 enq7 => ?_)
  replace h := bnd_at h enq7
  refine r_st (fun σ8 eσ8 => ?_)
  replace h := bnd_at h eσ8
  obtain ⟨σ10, qg9, h⟩ := bd_at h
  refine p_putF (x := (4 + nq7)) ok_X12 dX12_init_23 (k := 14) (by decide) fl_X12_17 rfl rfl rfl vd_ref.symm rfl rfl qg9 ?_
  refine r_aload_n dX12_init_26 0 rfl ?_
  refine r_bipush (v := 6) dX12_init_27 (by decide) ?_
  refine p_newI dX12_init_29 (by decide) ?_
  refine r_topa (fun nq11 enq11 => ?_)
  replace h := bnd_at h enq11
  refine r_st (fun σ12 eσ12 => ?_)
  replace h := bnd_at h eσ12
  obtain ⟨σ14, qg13, h⟩ := bd_at h
  refine p_putF (x := (4 + nq11)) ok_X12 dX12_init_31 (k := 15) (by decide) fl_X12_20 rfl rfl rfl vd_ref.symm rfl rfl qg13 ?_
  refine r_aload_n dX12_init_34 0 rfl ?_
  refine r_bipush (v := 6) dX12_init_35 (by decide) ?_
  refine p_newI dX12_init_37 (by decide) ?_
  refine r_topa (fun nq15 enq15 => ?_)
  replace h := bnd_at h enq15
  refine r_st (fun σ16 eσ16 => ?_)
  replace h := bnd_at h eσ16
  obtain ⟨σ18, qg17, h⟩ := bd_at h
  refine p_putF (x := (4 + nq15)) ok_X12 dX12_init_39 (k := 16) (by decide) fl_X12_23 rfl rfl rfl vd_ref.symm rfl rfl qg17 ?_
  refine r_aload_n dX12_init_42 0 rfl ?_
  refine r_bipush (v := 96) dX12_init_43 (by decide) ?_
  refine p_newI dX12_init_45 (by decide) ?_
  refine r_topa (fun nq19 enq19 => ?_)
  replace h := bnd_at h enq19
  refine r_st (fun σ20 eσ20 => ?_)
  replace h := bnd_at h eσ20
  obtain ⟨σ22, qg21, h⟩ := bd_at h
  refine p_putF (x := (4 + nq19)) ok_X12 dX12_init_47 (k := 17) (by decide) fl_X12_26 rfl rfl rfl vd_ref.symm rfl rfl qg21 ?_
  refine r_aload_n dX12_init_50 0 rfl ?_
  refine r_iconst (v := 3) dX12_init_51 (by decide) ?_
  refine p_newL dX12_init_52 (by decide) ?_
  refine r_topa (fun nq23 enq23 => ?_)
  replace h := bnd_at h enq23
  refine r_st (fun σ24 eσ24 => ?_)
  replace h := bnd_at h eσ24
  obtain ⟨σ26, qg25, h⟩ := bd_at h
  refine p_putF (x := (4 + nq23)) ok_X12 dX12_init_54 (k := 18) (by decide) fl_X12_29 rfl rfl rfl vd_ref.symm rfl rfl qg25 ?_
  refine r_aload_n dX12_init_57 0 rfl ?_
  refine r_iconst (v := 4) dX12_init_58 (by decide) ?_
  refine p_newI dX12_init_59 (by decide) ?_
  refine r_topa (fun nq27 enq27 => ?_)
  replace h := bnd_at h enq27
  refine r_st (fun σ28 eσ28 => ?_)
  replace h := bnd_at h eσ28
  obtain ⟨σ30, qg29, h⟩ := bd_at h
  refine p_putF (x := (4 + nq27)) ok_X12 dX12_init_61 (k := 23) (by decide) fl_X12_33 rfl rfl rfl vd_ref.symm rfl rfl qg29 ?_
  refine r_aload_n dX12_init_64 0 rfl ?_
  refine r_sipush (v := 300) dX12_init_65 (by decide) ?_
  refine p_newI dX12_init_68 (by decide) ?_
  refine r_topa (fun nq31 enq31 => ?_)
  replace h := bnd_at h enq31
  refine r_st (fun σ32 eσ32 => ?_)
  replace h := bnd_at h eσ32
  obtain ⟨σ34, qg33, h⟩ := bd_at h
  refine p_putF (x := (4 + nq31)) ok_X12 dX12_init_70 (k := 24) (by decide) fl_X12_36 rfl rfl rfl vd_ref.symm rfl rfl qg33 ?_
  refine r_aload_n dX12_init_73 0 rfl ?_
  refine r_sipush (v := 300) dX12_init_74 (by decide) ?_
  refine p_newI dX12_init_77 (by decide) ?_
  refine r_topa (fun nq35 enq35 => ?_)
  replace h := bnd_at h enq35
  refine r_st (fun σ36 eσ36 => ?_)
  replace h := bnd_at h eσ36
  obtain ⟨σ38, qg37, h⟩ := bd_at h
  refine p_putF (x := (4 + nq35)) ok_X12 dX12_init_79 (k := 25) (by decide) fl_X12_39 rfl rfl rfl vd_ref.symm rfl rfl qg37 ?_
  refine r_aload_n dX12_init_82 0 rfl ?_
  refine r_sipush (v := 300) dX12_init_83 (by decide) ?_
  refine p_newI dX12_init_86 (by decide) ?_
  refine r_topa (fun nq39 enq39 => ?_)
  replace h := bnd_at h enq39
  refine r_st (fun σ40 eσ40 => ?_)
  replace h := bnd_at h eσ40
  obtain ⟨σ42, qg41, h⟩ := bd_at h
  refine p_putF (x := (4 + nq39)) ok_X12 dX12_init_88 (k := 26) (by decide) fl_X12_42 rfl rfl rfl vd_ref.symm rfl rfl qg41 ?_
  refine r_aload_n dX12_init_91 0 rfl ?_
  refine r_sipush (v := 300) dX12_init_92 (by decide) ?_
  refine p_newI dX12_init_95 (by decide) ?_
  refine r_topa (fun nq43 enq43 => ?_)
  replace h := bnd_at h enq43
  refine r_st (fun σ44 eσ44 => ?_)
  replace h := bnd_at h eσ44
  obtain ⟨σ46, qg45, h⟩ := bd_at h
  refine p_putF (x := (4 + nq43)) ok_X12 dX12_init_97 (k := 27) (by decide) fl_X12_45 rfl rfl rfl vd_ref.symm rfl rfl qg45 ?_
  refine r_aload_n dX12_init_100 0 rfl ?_
  refine r_sipush (v := 300) dX12_init_101 (by decide) ?_
  refine p_newI dX12_init_104 (by decide) ?_
  refine r_topa (fun nq47 enq47 => ?_)
  replace h := bnd_at h enq47
  refine r_st (fun σ48 eσ48 => ?_)
  replace h := bnd_at h eσ48
  obtain ⟨σ50, qg49, h⟩ := bd_at h
  refine p_putF (x := (4 + nq47)) ok_X12 dX12_init_106 (k := 28) (by decide) fl_X12_48 rfl rfl rfl vd_ref.symm rfl rfl qg49 ?_
  refine r_aload_n dX12_init_109 0 rfl ?_
  refine r_sipush (v := 1024) dX12_init_110 (by decide) ?_
  refine p_newI dX12_init_113 (by decide) ?_
  refine r_topa (fun nq51 enq51 => ?_)
  replace h := bnd_at h enq51
  refine r_st (fun σ52 eσ52 => ?_)
  replace h := bnd_at h eσ52
  obtain ⟨σ54, qg53, h⟩ := bd_at h
  refine p_putF (x := (4 + nq51)) ok_X12 dX12_init_115 (k := 29) (by decide) fl_X12_51 rfl rfl rfl vd_ref.symm rfl rfl qg53 ?_
  refine r_aload_n dX12_init_118 0 rfl ?_
  refine r_sipush (v := 901) dX12_init_119 (by decide) ?_
  refine p_newI dX12_init_122 (by decide) ?_
  refine r_topa (fun nq55 enq55 => ?_)
  replace h := bnd_at h enq55
  refine r_st (fun σ56 eσ56 => ?_)
  replace h := bnd_at h eσ56
  obtain ⟨σ58, qg57, h⟩ := bd_at h
  refine p_putF (x := (4 + nq55)) ok_X12 dX12_init_124 (k := 30) (by decide) fl_X12_54 rfl rfl rfl vd_ref.symm rfl rfl qg57 ?_
  refine r_aload_n dX12_init_127 0 rfl ?_
  refine r_ldc (v := 270300) dX12_init_128 co_X12_57 ?_
  refine p_newI dX12_init_130 (by decide) ?_
  refine r_topa (fun nq59 enq59 => ?_)
  replace h := bnd_at h enq59
  refine r_st (fun σ60 eσ60 => ?_)
  replace h := bnd_at h eσ60
  obtain ⟨σ62, qg61, h⟩ := bd_at h
  refine p_putF (x := (4 + nq59)) ok_X12 dX12_init_132 (k := 31) (by decide) fl_X12_58 rfl rfl rfl vd_ref.symm rfl rfl qg61 ?_
  refine r_aload_n dX12_init_135 0 rfl ?_
  refine r_iconst (v := (-1)) dX12_init_136 (by decide) ?_
  obtain ⟨σ64, qg63, h⟩ := bd_at h
  refine p_put (x := 3) ok_X12 dX12_init_137 (k := 32) (by decide) fl_X12_61 rfl rfl rfl rfl qg63 ?_
  refine r_aload_n dX12_init_140 0 rfl ?_
  refine r_iconst (v := 4) dX12_init_141 (by decide) ?_
  refine p_newI dX12_init_142 (by decide) ?_
  refine r_topa (fun nq65 enq65 => ?_)
  replace h := bnd_at h enq65
  refine r_st (fun σ66 eσ66 => ?_)
  replace h := bnd_at h eσ66
  obtain ⟨σ68, qg67, h⟩ := bd_at h
  refine p_putF (x := (4 + nq65)) ok_X12 dX12_init_144 (k := 36) (by decide) fl_X12_64 rfl rfl rfl vd_ref.symm rfl rfl qg67 ?_
  refine r_aload_n dX12_init_147 0 rfl ?_
  refine r_bipush (v := 10) dX12_init_148 (by decide) ?_
  refine p_newI dX12_init_150 (by decide) ?_
  refine r_topa (fun nq69 enq69 => ?_)
  replace h := bnd_at h enq69
  refine r_st (fun σ70 eσ70 => ?_)
  replace h := bnd_at h eσ70
  obtain ⟨σ72, qg71, h⟩ := bd_at h
  refine p_putF (x := (4 + nq69)) ok_X12 dX12_init_152 (k := 39) (by decide) fl_X12_67 rfl rfl rfl vd_ref.symm rfl rfl qg71 ?_
  refine r_aload_n dX12_init_155 0 rfl ?_
  refine r_bipush (v := 10) dX12_init_156 (by decide) ?_
  refine p_newI dX12_init_158 (by decide) ?_
  refine r_topa (fun nq73 enq73 => ?_)
  replace h := bnd_at h enq73
  refine r_st (fun σ74 eσ74 => ?_)
  replace h := bnd_at h eσ74
  obtain ⟨σ76, qg75, h⟩ := bd_at h
  refine p_putF (x := (4 + nq73)) ok_X12 dX12_init_160 (k := 40) (by decide) fl_X12_70 rfl rfl rfl vd_ref.symm rfl rfl qg75 ?_
  refine r_aload_n dX12_init_163 0 rfl ?_
  refine r_sipush (v := 1000) dX12_init_164 (by decide) ?_
  refine p_newI dX12_init_167 (by decide) ?_
  refine r_topa (fun nq77 enq77 => ?_)
  replace h := bnd_at h enq77
  refine r_st (fun σ78 eσ78 => ?_)
  replace h := bnd_at h eσ78
  obtain ⟨σ80, qg79, h⟩ := bd_at h
  refine p_putF (x := (4 + nq77)) ok_X12 dX12_init_169 (k := 43) (by decide) fl_X12_73 rfl rfl rfl vd_ref.symm rfl rfl qg79 ?_
  refine r_aload_n dX12_init_172 0 rfl ?_
  refine r_sipush (v := 1000) dX12_init_173 (by decide) ?_
  refine p_newI dX12_init_176 (by decide) ?_
  refine r_topa (fun nq81 enq81 => ?_)
  replace h := bnd_at h enq81
  refine r_st (fun σ82 eσ82 => ?_)
  replace h := bnd_at h eσ82
  obtain ⟨σ84, qg83, h⟩ := bd_at h
  refine p_putF (x := (4 + nq81)) ok_X12 dX12_init_178 (k := 44) (by decide) fl_X12_76 rfl rfl rfl vd_ref.symm rfl rfl qg83 ?_
  refine r_aload_n dX12_init_181 0 rfl ?_
  refine r_sipush (v := 1000) dX12_init_182 (by decide) ?_
  refine p_newI dX12_init_185 (by decide) ?_
  refine r_topa (fun nq85 enq85 => ?_)
  replace h := bnd_at h enq85
  refine r_st (fun σ86 eσ86 => ?_)
  replace h := bnd_at h eσ86
  obtain ⟨σ88, qg87, h⟩ := bd_at h
  refine p_putF (x := (4 + nq85)) ok_X12 dX12_init_187 (k := 45) (by decide) fl_X12_79 rfl rfl rfl vd_ref.symm rfl rfl qg87 ?_
  refine r_aload_n dX12_init_190 0 rfl ?_
  refine r_sipush (v := 2400) dX12_init_191 (by decide) ?_
  refine p_newI dX12_init_194 (by decide) ?_
  refine r_topa (fun nq89 enq89 => ?_)
  replace h := bnd_at h enq89
  refine r_st (fun σ90 eσ90 => ?_)
  replace h := bnd_at h eσ90
  obtain ⟨σ92, qg91, h⟩ := bd_at h
  refine p_putF (x := (4 + nq89)) ok_X12 dX12_init_196 (k := 46) (by decide) fl_X12_82 rfl rfl rfl vd_ref.symm rfl rfl qg91 ?_
  refine r_aload_n dX12_init_199 0 rfl ?_
  refine r_sipush (v := 3000) dX12_init_200 (by decide) ?_
  refine p_newI dX12_init_203 (by decide) ?_
  refine r_topa (fun nq93 enq93 => ?_)
  replace h := bnd_at h enq93
  refine r_st (fun σ94 eσ94 => ?_)
  replace h := bnd_at h eσ94
  obtain ⟨σ96, qg95, h⟩ := bd_at h
  refine p_putF (x := (4 + nq93)) ok_X12 dX12_init_205 (k := 49) (by decide) fl_X12_85 rfl rfl rfl vd_ref.symm rfl rfl qg95 ?_
  refine r_aload_n dX12_init_208 0 rfl ?_
  refine r_sipush (v := 3000) dX12_init_209 (by decide) ?_
  refine p_newI dX12_init_212 (by decide) ?_
  refine r_topa (fun nq97 enq97 => ?_)
  replace h := bnd_at h enq97
  refine r_st (fun σ98 eσ98 => ?_)
  replace h := bnd_at h eσ98
  obtain ⟨σ100, qg99, h⟩ := bd_at h
  refine p_putF (x := (4 + nq97)) ok_X12 dX12_init_214 (k := 50) (by decide) fl_X12_88 rfl rfl rfl vd_ref.symm rfl rfl qg99 ?_
  refine r_aload_n dX12_init_217 0 rfl ?_
  refine r_sipush (v := 3000) dX12_init_218 (by decide) ?_
  refine p_newI dX12_init_221 (by decide) ?_
  refine r_topa (fun nq101 enq101 => ?_)
  replace h := bnd_at h enq101
  refine r_st (fun σ102 eσ102 => ?_)
  replace h := bnd_at h eσ102
  obtain ⟨σ104, qg103, h⟩ := bd_at h
  refine p_putF (x := (4 + nq101)) ok_X12 dX12_init_223 (k := 51) (by decide) fl_X12_91 rfl rfl rfl vd_ref.symm rfl rfl qg103 ?_
  refine r_aload_n dX12_init_226 0 rfl ?_
  refine r_sipush (v := 3000) dX12_init_227 (by decide) ?_
  refine p_newZ dX12_init_230 (by decide) ?_
  refine r_topa (fun nq105 enq105 => ?_)
  replace h := bnd_at h enq105
  refine r_st (fun σ106 eσ106 => ?_)
  replace h := bnd_at h eσ106
  obtain ⟨σ108, qg107, h⟩ := bd_at h
  refine p_putF (x := (4 + nq105)) ok_X12 dX12_init_232 (k := 52) (by decide) fl_X12_94 rfl rfl rfl vd_ref.symm rfl rfl qg107 ?_
  refine r_aload_n dX12_init_235 0 rfl ?_
  refine r_sipush (v := 3000) dX12_init_236 (by decide) ?_
  refine p_newI dX12_init_239 (by decide) ?_
  refine r_topa (fun nq109 enq109 => ?_)
  replace h := bnd_at h enq109
  refine r_st (fun σ110 eσ110 => ?_)
  replace h := bnd_at h eσ110
  obtain ⟨σ112, qg111, h⟩ := bd_at h
  refine p_putF (x := (4 + nq109)) ok_X12 dX12_init_241 (k := 54) (by decide) fl_X12_98 rfl rfl rfl vd_ref.symm rfl rfl qg111 ?_
  refine r_aload_n dX12_init_244 0 rfl ?_
  refine r_sipush (v := 3000) dX12_init_245 (by decide) ?_
  refine p_newI dX12_init_248 (by decide) ?_
  refine r_topa (fun nq113 enq113 => ?_)
  replace h := bnd_at h enq113
  refine r_st (fun σ114 eσ114 => ?_)
  replace h := bnd_at h eσ114
  obtain ⟨σ116, qg115, h⟩ := bd_at h
  refine p_putF (x := (4 + nq113)) ok_X12 dX12_init_250 (k := 55) (by decide) fl_X12_101 rfl rfl rfl vd_ref.symm rfl rfl qg115 ?_
  refine r_aload_n dX12_init_253 0 rfl ?_
  refine r_sipush (v := 3000) dX12_init_254 (by decide) ?_
  refine p_newI dX12_init_257 (by decide) ?_
  refine r_topa (fun nq117 enq117 => ?_)
  replace h := bnd_at h enq117
  refine r_st (fun σ118 eσ118 => ?_)
  replace h := bnd_at h eσ118
  obtain ⟨σ120, qg119, h⟩ := bd_at h
  refine p_putF (x := (4 + nq117)) ok_X12 dX12_init_259 (k := 56) (by decide) fl_X12_104 rfl rfl rfl vd_ref.symm rfl rfl qg119 ?_
  refine r_aload_n dX12_init_262 0 rfl ?_
  refine r_sipush (v := 3000) dX12_init_263 (by decide) ?_
  refine p_newI dX12_init_266 (by decide) ?_
  refine r_topa (fun nq121 enq121 => ?_)
  replace h := bnd_at h enq121
  refine r_st (fun σ122 eσ122 => ?_)
  replace h := bnd_at h eσ122
  obtain ⟨σ124, qg123, h⟩ := bd_at h
  refine p_putF (x := (4 + nq121)) ok_X12 dX12_init_268 (k := 57) (by decide) fl_X12_107 rfl rfl rfl vd_ref.symm rfl rfl qg123 ?_
  refine r_aload_n dX12_init_271 0 rfl ?_
  refine r_sipush (v := 3000) dX12_init_272 (by decide) ?_
  refine p_newI dX12_init_275 (by decide) ?_
  refine r_topa (fun nq125 enq125 => ?_)
  replace h := bnd_at h enq125
  refine r_st (fun σ126 eσ126 => ?_)
  replace h := bnd_at h eσ126
  obtain ⟨σ128, qg127, h⟩ := bd_at h
  refine p_putF (x := (4 + nq125)) ok_X12 dX12_init_277 (k := 58) (by decide) fl_X12_110 rfl rfl rfl vd_ref.symm rfl rfl qg127 ?_
  refine r_aload_n dX12_init_280 0 rfl ?_
  refine r_sipush (v := 3000) dX12_init_281 (by decide) ?_
  refine p_newZ dX12_init_284 (by decide) ?_
  refine r_topa (fun nq129 enq129 => ?_)
  replace h := bnd_at h enq129
  refine r_st (fun σ130 eσ130 => ?_)
  replace h := bnd_at h eσ130
  obtain ⟨σ132, qg131, h⟩ := bd_at h
  refine p_putF (x := (4 + nq129)) ok_X12 dX12_init_286 (k := 59) (by decide) fl_X12_113 rfl rfl rfl vd_ref.symm rfl rfl qg131 ?_
  refine r_aload_n dX12_init_289 0 rfl ?_
  refine r_sipush (v := 3000) dX12_init_290 (by decide) ?_
  refine p_newZ dX12_init_293 (by decide) ?_
  refine r_topa (fun nq133 enq133 => ?_)
  replace h := bnd_at h enq133
  refine r_st (fun σ134 eσ134 => ?_)
  replace h := bnd_at h eσ134
  obtain ⟨σ136, qg135, h⟩ := bd_at h
  refine p_putF (x := (4 + nq133)) ok_X12 dX12_init_295 (k := 60) (by decide) fl_X12_116 rfl rfl rfl vd_ref.symm rfl rfl qg135 ?_
  refine r_aload_n dX12_init_298 0 rfl ?_
  refine r_sipush (v := 300) dX12_init_299 (by decide) ?_
  refine p_newZ dX12_init_302 (by decide) ?_
  refine r_topa (fun nq137 enq137 => ?_)
  replace h := bnd_at h enq137
  refine r_st (fun σ138 eσ138 => ?_)
  replace h := bnd_at h eσ138
  obtain ⟨σ140, qg139, h⟩ := bd_at h
  refine p_putF (x := (4 + nq137)) ok_X12 dX12_init_304 (k := 64) (by decide) fl_X12_119 rfl rfl rfl vd_ref.symm rfl rfl qg139 ?_
  refine r_aload_n dX12_init_307 0 rfl ?_
  refine r_sipush (v := 300) dX12_init_308 (by decide) ?_
  refine p_newZ dX12_init_311 (by decide) ?_
  refine r_topa (fun nq141 enq141 => ?_)
  replace h := bnd_at h enq141
  refine r_st (fun σ142 eσ142 => ?_)
  replace h := bnd_at h eσ142
  obtain ⟨σ144, qg143, h⟩ := bd_at h
  refine p_putF (x := (4 + nq141)) ok_X12 dX12_init_313 (k := 65) (by decide) fl_X12_122 rfl rfl rfl vd_ref.symm rfl rfl qg143 ?_
  refine r_aload_n dX12_init_316 0 rfl ?_
  refine r_sipush (v := 1000) dX12_init_317 (by decide) ?_
  refine p_newI dX12_init_320 (by decide) ?_
  refine r_topa (fun nq145 enq145 => ?_)
  replace h := bnd_at h enq145
  refine r_st (fun σ146 eσ146 => ?_)
  replace h := bnd_at h eσ146
  obtain ⟨σ148, qg147, h⟩ := bd_at h
  refine p_putF (x := (4 + nq145)) ok_X12 dX12_init_322 (k := 66) (by decide) fl_X12_125 rfl rfl rfl vd_ref.symm rfl rfl qg147 ?_
  refine r_aload_n dX12_init_325 0 rfl ?_
  refine r_sipush (v := 1001) dX12_init_326 (by decide) ?_
  refine p_newI dX12_init_329 (by decide) ?_
  refine r_topa (fun nq149 enq149 => ?_)
  replace h := bnd_at h enq149
  refine r_st (fun σ150 eσ150 => ?_)
  replace h := bnd_at h eσ150
  obtain ⟨σ152, qg151, h⟩ := bd_at h
  refine p_putF (x := (4 + nq149)) ok_X12 dX12_init_331 (k := 67) (by decide) fl_X12_128 rfl rfl rfl vd_ref.symm rfl rfl qg151 ?_
  refine r_vret rfl dX12_init_334 ?_
  exact lfC h
