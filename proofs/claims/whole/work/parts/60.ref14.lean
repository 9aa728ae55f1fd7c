/-! the reference, lifted, 14 -/
set_option maxRecDepth 8000 in
def L_X12_size (σ : sS) : Option (Int32 × sS) := bnd (uI σ 90 0 0) (fun σ1 => some ((vI σ1 90 4, σ1)))
set_option maxRecDepth 8000 in
theorem e_X12_size {ad : Nat → Nat}  {σ : sS} {z : (Int32 × sS)} (h : L_X12_size σ = some z) : ab_E (sR ad) mX12_size 1 0 [(0, .ref (ad 90))] [] σ (fun r9 σ9 => r9 = some (.int z.1) ∧ σ9 = z.2) := by
  unfold L_X12_size at h
  refine r_aload_n dX12_size_0 0 rfl ?_
  refine r_iconst (v := 0) dX12_size_1 (by decide) ?_
  refine s_putI ok_X12 dX12_size_2 (k := 0) (by decide) fl_X12_131 rfl rfl rfl rfl rfl ?_
  refine r_st (fun σ1 eσ1 => ?_)
  replace h := bnd_at h eσ1
  refine r_aload_n dX12_size_5 0 rfl ?_
  refine s_getI ok_X12 dX12_size_6 (k := 4) (by decide) fl_X12_137 rfl rfl ?_
  refine r_iret rfl dX12_size_9 ?_
  exact lfI h
set_option maxRecDepth 8000 in
theorem lc_X12_size {ad : Nat → Nat}  {σ τ : sS} {r : Int32} (h : L_X12_size σ = some (r, τ)) : ab_X (sR ad) 1 mX12_size [.ref (ad 90)] σ (some (.int r)) τ := ab_X.of (by decide) (Nat.le_of_ble_eq_true rfl) (e_X12_size h)
set_option maxRecDepth 8000 in
def L_X12_trouble (σ : sS) : Option (Int32 × sS) := bnd (uI σ 90 0 0) (fun σ1 => some ((vI σ1 90 1, σ1)))
set_option maxRecDepth 8000 in
theorem e_X12_trouble {ad : Nat → Nat}  {σ : sS} {z : (Int32 × sS)} (h : L_X12_trouble σ = some z) : ab_E (sR ad) mX12_trouble 1 0 [(0, .ref (ad 90))] [] σ (fun r9 σ9 => r9 = some (.int z.1) ∧ σ9 = z.2) := by
  unfold L_X12_trouble at h
  refine r_aload_n dX12_trouble_0 0 rfl ?_
  refine r_iconst (v := 0) dX12_trouble_1 (by decide) ?_
  refine s_putI ok_X12 dX12_trouble_2 (k := 0) (by decide) fl_X12_131 rfl rfl rfl rfl rfl ?_
  refine r_st (fun σ1 eσ1 => ?_)
  replace h := bnd_at h eσ1
  refine r_aload_n dX12_trouble_5 0 rfl ?_
  refine s_getI ok_X12 dX12_trouble_6 (k := 1) (by decide) fl_X12_134 rfl rfl ?_
  refine r_iret rfl dX12_trouble_9 ?_
  exact lfI h
set_option maxRecDepth 8000 in
theorem lc_X12_trouble {ad : Nat → Nat}  {σ τ : sS} {r : Int32} (h : L_X12_trouble σ = some (r, τ)) : ab_X (sR ad) 1 mX12_trouble [.ref (ad 90)] σ (some (.int r)) τ := ab_X.of (by decide) (Nat.le_of_ble_eq_true rfl) (e_X12_trouble h)
