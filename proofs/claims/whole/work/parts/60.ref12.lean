/-! the reference, lifted, 12 -/
set_option maxRecDepth 8000 in
def L_X12_counts (F : Nat) (x1 : Int32) (x2 : Int32) (x3 : Int32) (σ : sS) : Option (Int32 × sS) := bnd (uI σ 90 0 0) (fun σ1 => bd (L_X12_isAuto x1 σ1) (fun rq3 => if rq3 = 0 then (bd2 (L_X12_refused 1 σ1) (fun rq16 σ17 => some ((rq16, σ17)))) else (if (L_X12_areLong x2 x3) = 0 then (bd2 (L_X12_refused 2 σ1) (fun rq7 σ8 => some ((rq7, σ8)))) else (bd2 (L_X12_taken F x1 x2 x3 0 σ1) (fun rq10 σ11 => bd2 (L_X12_good rq10 σ11) (fun rq13 σ14 => some ((rq13, σ14))))))))
set_option maxRecDepth 8000 in
theorem e_X12_counts {ad : Nat → Nat} {F : Nat} {x1 : Int32} {x2 : Int32} {x3 : Int32} {σ : sS} {z : (Int32 × sS)} (h : L_X12_counts F x1 x2 x3 σ = some z) : ab_E (sR ad) mX12_counts 10 0 [(0, .ref (ad 90)), (1, .int x1), (2, .int x2), (3, .int x3)] [] σ (fun r9 σ9 => r9 = some (.int z.1) ∧ σ9 = z.2) := by
  unfold L_X12_counts at h
  refine r_aload_n dX12_counts_0 0 rfl ?_
  refine r_iconst (v := 0) dX12_counts_1 (by decide) ?_
  refine s_putI ok_X12 dX12_counts_2 (k := 0) (by decide) fl_X12_131 rfl rfl rfl rfl rfl ?_
  refine r_st (fun σ1 eσ1 => ?_)
  replace h := bnd_at h eσ1
  refine r_aload_n dX12_counts_5 0 rfl ?_
  refine r_iload_n dX12_counts_6 1 rfl ?_
  obtain ⟨rq3, qg2, h⟩ := bd_at h
  refine x_callV (Y := mX12_isAuto) (d' := 2) dX12_counts_7 ml_X12_291 yv_X12_isAuto (by omega) rfl rfl (by simp [Value.category]) (sR_is rfl rfl) (lc_X12_isAuto qg2) ?_
  refine r_if_ne (t := 19) dX12_counts_10 (by decide) (fun qc4 => ?_) (fun qc4 => ?_)
  · replace h := ifn h qc4
    refine r_iload_n dX12_counts_19 2 rfl ?_
    refine r_iload_n dX12_counts_20 3 rfl ?_
    refine x_callS (Y := mX12_areLong) (d' := 2) dX12_counts_21 ml_X12_479 ys_X12_areLong (by omega) rfl rfl (by simp [Value.category]) (lc_X12_areLong x2 x3 σ1) ?_
    refine r_if_eq (t := 42) dX12_counts_24 (by decide) (fun qc5 => ?_) (fun qc5 => ?_)
    · replace h := ifp h qc5
      refine r_aload_n dX12_counts_42 0 rfl ?_
      refine r_iconst (v := 2) dX12_counts_43 (by decide) ?_
      obtain ⟨rq7, σ8, qg6, h⟩ := bd2_at h
      refine x_callV (Y := mX12_refused) (d' := 1) dX12_counts_44 ml_X12_270 yv_X12_refused (by omega) rfl rfl (by simp [Value.category]) (sR_is rfl rfl) (lc_X12_refused qg6) ?_
      refine r_iret rfl dX12_counts_47 ?_
      exact lfI h
    · replace h := ifn h qc5
      refine r_aload_n dX12_counts_27 0 rfl ?_
      refine r_aload_n dX12_counts_28 0 rfl ?_
      refine r_iload_n dX12_counts_29 1 rfl ?_
      refine r_iload_n dX12_counts_30 2 rfl ?_
      refine r_iload_n dX12_counts_31 3 rfl ?_
      refine r_iconst (v := 0) dX12_counts_32 (by decide) ?_
      obtain ⟨rq10, σ11, qg9, h⟩ := bd2_at h
      refine x_callV (Y := mX12_taken) (d' := 9) dX12_counts_33 ml_X12_482 yv_X12_taken (by omega) rfl rfl (by simp [Value.category]) (sR_is rfl rfl) (lc_X12_taken qg9) ?_
      obtain ⟨rq13, σ14, qg12, h⟩ := bd2_at h
      refine x_callV (Y := mX12_good) (d' := 1) dX12_counts_36 ml_X12_288 yv_X12_good (by omega) rfl rfl (by simp [Value.category]) (sR_is rfl rfl) (lc_X12_good qg12) ?_
      refine r_goto (t := 47) dX12_counts_39 (by decide) ?_
      refine r_iret rfl dX12_counts_47 ?_
      exact lfI h
  · replace h := ifp h qc4
    refine r_aload_n dX12_counts_13 0 rfl ?_
    refine r_iconst (v := 1) dX12_counts_14 (by decide) ?_
    obtain ⟨rq16, σ17, qg15, h⟩ := bd2_at h
    refine x_callV (Y := mX12_refused) (d' := 1) dX12_counts_15 ml_X12_270 yv_X12_refused (by omega) rfl rfl (by simp [Value.category]) (sR_is rfl rfl) (lc_X12_refused qg15) ?_
    refine r_iret rfl dX12_counts_18 ?_
    exact lfI h
set_option maxRecDepth 8000 in
theorem lc_X12_counts {ad : Nat → Nat} {F : Nat} {x1 : Int32} {x2 : Int32} {x3 : Int32} {σ τ : sS} {r : Int32} (h : L_X12_counts F x1 x2 x3 σ = some (r, τ)) : ab_X (sR ad) 10 mX12_counts [.ref (ad 90), .int x1, .int x2, .int x3] σ (some (.int r)) τ := ab_X.of (by decide) (Nat.le_of_ble_eq_true rfl) (e_X12_counts h)
set_option maxRecDepth 8000 in
def L_X12_others (F : Nat) (x1 : Int32) (x2 : Int32) (x3 : Int32) (σ : sS) : Option (Int32 × sS) := bnd (uI σ 90 0 0) (fun σ1 => bd (L_X12_isAuto x1 σ1) (fun rq3 => if rq3 = 0 then (bd2 (L_X12_refused 1 σ1) (fun rq23 σ24 => some ((rq23, σ24)))) else (if (L_X12_areLong x2 x3) = 0 then (bd2 (L_X12_refused 2 σ1) (fun rq20 σ21 => some ((rq20, σ21)))) else (bd2 (L_X12_lays F x1 σ1) (fun rq7 σ8 => if rq7 = 0 then (bd2 (L_X12_refused 3 σ8) (fun rq11 σ12 => some ((rq11, σ12)))) else (bd2 (L_X12_taken F x1 x2 x3 1 σ8) (fun rq14 σ15 => bd2 (L_X12_good rq14 σ15) (fun rq17 σ18 => some ((rq17, σ18))))))))))
set_option maxRecDepth 8000 in
theorem e_X12_others {ad : Nat → Nat} {F : Nat} {x1 : Int32} {x2 : Int32} {x3 : Int32} {σ : sS} {z : (Int32 × sS)} (h : L_X12_others F x1 x2 x3 σ = some z) : ab_E (sR ad) mX12_others 10 0 [(0, .ref (ad 90)), (1, .int x1), (2, .int x2), (3, .int x3)] [] σ (fun r9 σ9 => r9 = some (.int z.1) ∧ σ9 = z.2) := by
  unfold L_X12_others at h
  refine r_aload_n dX12_others_0 0 rfl ?_
  refine r_iconst (v := 0) dX12_others_1 (by decide) ?_
  refine s_putI ok_X12 dX12_others_2 (k := 0) (by decide) fl_X12_131 rfl rfl rfl rfl rfl ?_
  refine r_st (fun σ1 eσ1 => ?_)
  replace h := bnd_at h eσ1
  refine r_aload_n dX12_others_5 0 rfl ?_
  refine r_iload_n dX12_others_6 1 rfl ?_
  obtain ⟨rq3, qg2, h⟩ := bd_at h
  refine x_callV (Y := mX12_isAuto) (d' := 2) dX12_others_7 ml_X12_291 yv_X12_isAuto (by omega) rfl rfl (by simp [Value.category]) (sR_is rfl rfl) (lc_X12_isAuto qg2) ?_
  refine r_if_ne (t := 19) dX12_others_10 (by decide) (fun qc4 => ?_) (fun qc4 => ?_)
  · replace h := ifn h qc4
    refine r_iload_n dX12_others_19 2 rfl ?_
    refine r_iload_n dX12_others_20 3 rfl ?_
    refine x_callS (Y := mX12_areLong) (d' := 2) dX12_others_21 ml_X12_479 ys_X12_areLong (by omega) rfl rfl (by simp [Value.category]) (lc_X12_areLong x2 x3 σ1) ?_
    refine r_if_ne (t := 33) dX12_others_24 (by decide) (fun qc5 => ?_) (fun qc5 => ?_)
    · replace h := ifn h qc5
      refine r_aload_n dX12_others_33 0 rfl ?_
      refine r_iload_n dX12_others_34 1 rfl ?_
      obtain ⟨rq7, σ8, qg6, h⟩ := bd2_at h
      refine x_callV (Y := mX12_lays) (d' := 4) dX12_others_35 ml_X12_372 yv_X12_lays (by omega) rfl rfl (by simp [Value.category]) (sR_is rfl rfl) (lc_X12_lays qg6) ?_
      refine r_if_eq (t := 56) dX12_others_38 (by decide) (fun qc9 => ?_) (fun qc9 => ?_)
      · replace h := ifp h qc9
        refine r_aload_n dX12_others_56 0 rfl ?_
        refine r_iconst (v := 3) dX12_others_57 (by decide) ?_
        obtain ⟨rq11, σ12, qg10, h⟩ := bd2_at h
        refine x_callV (Y := mX12_refused) (d' := 1) dX12_others_58 ml_X12_270 yv_X12_refused (by omega) rfl rfl (by simp [Value.category]) (sR_is rfl rfl) (lc_X12_refused qg10) ?_
        refine r_iret rfl dX12_others_61 ?_
        exact lfI h
      · replace h := ifn h qc9
        refine r_aload_n dX12_others_41 0 rfl ?_
        refine r_aload_n dX12_others_42 0 rfl ?_
        refine r_iload_n dX12_others_43 1 rfl ?_
        refine r_iload_n dX12_others_44 2 rfl ?_
        refine r_iload_n dX12_others_45 3 rfl ?_
        refine r_iconst (v := 1) dX12_others_46 (by decide) ?_
        obtain ⟨rq14, σ15, qg13, h⟩ := bd2_at h
        refine x_callV (Y := mX12_taken) (d' := 9) dX12_others_47 ml_X12_482 yv_X12_taken (by omega) rfl rfl (by simp [Value.category]) (sR_is rfl rfl) (lc_X12_taken qg13) ?_
        obtain ⟨rq17, σ18, qg16, h⟩ := bd2_at h
        refine x_callV (Y := mX12_good) (d' := 1) dX12_others_50 ml_X12_288 yv_X12_good (by omega) rfl rfl (by simp [Value.category]) (sR_is rfl rfl) (lc_X12_good qg16) ?_
        refine r_goto (t := 61) dX12_others_53 (by decide) ?_
        refine r_iret rfl dX12_others_61 ?_
        exact lfI h
    · replace h := ifp h qc5
      refine r_aload_n dX12_others_27 0 rfl ?_
      refine r_iconst (v := 2) dX12_others_28 (by decide) ?_
      obtain ⟨rq20, σ21, qg19, h⟩ := bd2_at h
      refine x_callV (Y := mX12_refused) (d' := 1) dX12_others_29 ml_X12_270 yv_X12_refused (by omega) rfl rfl (by simp [Value.category]) (sR_is rfl rfl) (lc_X12_refused qg19) ?_
      refine r_iret rfl dX12_others_32 ?_
      exact lfI h
  · replace h := ifp h qc4
    refine r_aload_n dX12_others_13 0 rfl ?_
    refine r_iconst (v := 1) dX12_others_14 (by decide) ?_
    obtain ⟨rq23, σ24, qg22, h⟩ := bd2_at h
    refine x_callV (Y := mX12_refused) (d' := 1) dX12_others_15 ml_X12_270 yv_X12_refused (by omega) rfl rfl (by simp [Value.category]) (sR_is rfl rfl) (lc_X12_refused qg22) ?_
    refine r_iret rfl dX12_others_18 ?_
    exact lfI h
set_option maxRecDepth 8000 in
theorem lc_X12_others {ad : Nat → Nat} {F : Nat} {x1 : Int32} {x2 : Int32} {x3 : Int32} {σ τ : sS} {r : Int32} (h : L_X12_others F x1 x2 x3 σ = some (r, τ)) : ab_X (sR ad) 10 mX12_others [.ref (ad 90), .int x1, .int x2, .int x3] σ (some (.int r)) τ := ab_X.of (by decide) (Nat.le_of_ble_eq_true rfl) (e_X12_others h)
set_option maxRecDepth 8000 in
def L_X12_way_5 (F : Nat) (x1 : Nat) (x2 : Int32) (σ : sS) (kx : Int32 → Option (Int32 × sS)) : Nat → Int32 → Int32 → Option (Int32 × sS)
  | 0, _, _ => none
  | n + 1, x3, x4 => grd (inb x4 3000) (if (vI σ 150 x4.toNatClampNeg) = ((-1)) then (kx x3) else (grd (inb x4 3000) (bnd (vI σ 150 x4.toNatClampNeg) (fun yq4 => L_X12_way_5 F x1 x2 σ kx n (x3 + 1) yq4))))
set_option maxRecDepth 8000 in
theorem l_X12_way_5 {ad : Nat → Nat} {F : Nat} {x1 : Nat} {x2 : Int32} {σ : sS} {z : (Int32 × sS)} {kx : Int32 → Option (Int32 × sS)} (hx : ∀ (x3 : Int32), kx x3 = some z → ab_E (sR ad) mX12_way 1 31 [(3, .int x3), (2, .int x2), (0, .ref (ad 90)), (1, .ref (ad x1))] [] σ (fun r9 σ9 => r9 = some (.int z.1) ∧ σ9 = z.2)) : ∀ (n : Nat) (x3 : Int32) (x4 : Int32), L_X12_way_5 F x1 x2 σ kx n x3 x4 = some z → ab_E (sR ad) mX12_way 1 5 [(3, .int x3), (4, .int x4), (2, .int x2), (0, .ref (ad 90)), (1, .ref (ad x1))] [] σ (fun r9 σ9 => r9 = some (.int z.1) ∧ σ9 = z.2) := by
  intro n
  induction n with
  | zero =>
    intro x3 x4 h
    rw [L_X12_way_5] at h
    cases h
  | succ n ih =>
    intro x3 x4 h
    rw [L_X12_way_5] at h
    refine r_aload_n dX12_way_5 3 rfl ?_
    refine s_getR (b := 150) ok_X12 dX12_way_6 (k := 50) (by decide) fl_X12_88 rfl rfl rfl ?_
    refine r_iload dX12_way_9 1 rfl ?_
    obtain ⟨qg1, h⟩ := grd_at h
    refine s_iald dX12_way_11 rfl (inb_of qg1) ?_
    refine r_iconst (v := (-1)) dX12_way_12 (by decide) ?_
    refine r_icmp_eq (t := 31) dX12_way_13 (by decide) (fun qc2 => ?_) (fun qc2 => ?_)
    · replace h := ifp h qc2
      exact ab_E.lo [0, 2, 3, 4] rfl (hx _ h)
    · replace h := ifn h qc2
      refine r_iinc (v := x3 + 1) (lo' := [(3, .int (x3 + 1)), (4, .int x4), (2, .int x2), (0, .ref (ad 90)), (1, .ref (ad x1))]) dX12_way_16 0 rfl rfl (by decide) rfl ?_
      refine r_aload_n dX12_way_19 3 rfl ?_
      refine s_getR (b := 150) ok_X12 dX12_way_20 (k := 50) (by decide) fl_X12_88 rfl rfl rfl ?_
      refine r_iload dX12_way_23 1 rfl ?_
      obtain ⟨qg3, h⟩ := grd_at h
      refine s_iald dX12_way_25 rfl (inb_of qg3) ?_
      refine r_topi (fun yq4 eyq4 => ?_)
      replace h := bnd_at h eyq4
      refine r_istore (lo' := [(4, .int yq4), (3, .int (x3 + 1)), (2, .int x2), (0, .ref (ad 90)), (1, .ref (ad x1))]) dX12_way_26 (by decide) rfl ?_
      refine r_goto (t := 5) dX12_way_28 (by decide) ?_
      exact ab_E.lo [1, 0, 2, 3, 4] rfl (ih _ _ h)
set_option maxRecDepth 8000 in
def L_X12_way_37 (F : Nat) (x1 : Nat) (x3 : Int32) (kx : sS → Option (Int32 × sS)) : Nat → Int32 → Int32 → sS → Option (Int32 × sS)
  | 0, _, _, _ => none
  | n + 1, x4, x5, σ => grd (inb x5 3000) (if (vI σ 150 x5.toNatClampNeg) = ((-1)) then (kx σ) else (grd (inb x5 3000) (grd (inl 2 x1 (x4 + (-1))) (bnd (uI σ x1 (x4 + (-1)).toNatClampNeg (vI σ 151 x5.toNatClampNeg)) (fun σ6 => grd (inb x5 3000) (bnd (vI σ6 150 x5.toNatClampNeg) (fun yq8 => L_X12_way_37 F x1 x3 kx n (x4 + (-1)) yq8 σ6)))))))
set_option maxRecDepth 8000 in
theorem l_X12_way_37 {ad : Nat → Nat} {F : Nat} {x1 : Nat} {x3 : Int32} {z : (Int32 × sS)} {kx : sS → Option (Int32 × sS)} (hx : ∀  (σ : sS), kx σ = some z → ab_E (sR ad) mX12_way 1 74 [(3, .int x3)] [] σ (fun r9 σ9 => r9 = some (.int z.1) ∧ σ9 = z.2)) : ∀ (n : Nat) (x4 : Int32) (x5 : Int32) (σ : sS), L_X12_way_37 F x1 x3 kx n x4 x5 σ = some z → ab_E (sR ad) mX12_way 1 37 [(4, .int x4), (5, .int x5), (3, .int x3), (0, .ref (ad 90)), (1, .ref (ad x1))] [] σ (fun r9 σ9 => r9 = some (.int z.1) ∧ σ9 = z.2) := by
  intro n
  induction n with
  | zero =>
    intro x4 x5 σ h
    rw [L_X12_way_37] at h
    cases h
  | succ n ih =>
    intro x4 x5 σ h
    rw [L_X12_way_37] at h
    refine r_aload_n dX12_way_37 3 rfl ?_
    refine s_getR (b := 150) ok_X12 dX12_way_38 (k := 50) (by decide) fl_X12_88 rfl rfl rfl ?_
    refine r_iload dX12_way_41 1 rfl ?_
    obtain ⟨qg2, h⟩ := grd_at h
    refine s_iald dX12_way_43 rfl (inb_of qg2) ?_
    refine r_iconst (v := (-1)) dX12_way_44 (by decide) ?_
    refine r_icmp_eq (t := 74) dX12_way_45 (by decide) (fun qc3 => ?_) (fun qc3 => ?_)
    · replace h := ifp h qc3
      exact ab_E.lo [2] rfl (hx _ h)
    · replace h := ifn h qc3
      refine r_iinc (v := x4 + (-1)) (lo' := [(4, .int (x4 + (-1))), (5, .int x5), (3, .int x3), (0, .ref (ad 90)), (1, .ref (ad x1))]) dX12_way_48 0 rfl rfl (by decide) rfl ?_
      refine r_aload_n dX12_way_51 4 rfl ?_
      refine r_iload dX12_way_52 0 rfl ?_
      refine r_aload_n dX12_way_54 3 rfl ?_
      refine s_getR (b := 151) ok_X12 dX12_way_55 (k := 51) (by decide) fl_X12_91 rfl rfl rfl ?_
      refine r_iload dX12_way_58 1 rfl ?_
      obtain ⟨qg4, h⟩ := grd_at h
      refine s_iald dX12_way_60 rfl (inb_of qg4) ?_
      obtain ⟨qg5, h⟩ := grd_at h
      refine s_iast dX12_way_61 (inl_la qg5) (inl_in qg5) ?_
      refine r_st (fun σ6 eσ6 => ?_)
      replace h := bnd_at h eσ6
      refine r_aload_n dX12_way_62 3 rfl ?_
      refine s_getR (b := 150) ok_X12 dX12_way_63 (k := 50) (by decide) fl_X12_88 rfl rfl rfl ?_
      refine r_iload dX12_way_66 1 rfl ?_
      obtain ⟨qg7, h⟩ := grd_at h
      refine s_iald dX12_way_68 rfl (inb_of qg7) ?_
      refine r_topi (fun yq8 eyq8 => ?_)
      replace h := bnd_at h eyq8
      refine r_istore (lo' := [(5, .int yq8), (4, .int (x4 + (-1))), (3, .int x3), (0, .ref (ad 90)), (1, .ref (ad x1))]) dX12_way_69 (by decide) rfl ?_
      refine r_goto (t := 37) dX12_way_71 (by decide) ?_
      exact ab_E.lo [1, 0, 2, 3, 4] rfl (ih _ _ _ h)
set_option maxRecDepth 8000 in
def L_X12_way (F : Nat) (x1 : Nat) (x2 : Int32) (σ : sS) : Option (Int32 × sS) := L_X12_way_5 F x1 x2 σ (fun yq1 => L_X12_way_37 F x1 yq1 (fun σ2 => some ((yq1, σ2))) F yq1 x2 σ) F 0 x2
set_option maxRecDepth 8000 in
theorem e_X12_way {ad : Nat → Nat} {F : Nat} {x1 : Nat} {x2 : Int32} {σ : sS} {z : (Int32 × sS)} (h : L_X12_way F x1 x2 σ = some z) : ab_E (sR ad) mX12_way 1 0 [(0, .ref (ad 90)), (1, .ref (ad x1)), (2, .int x2)] [] σ (fun r9 σ9 => r9 = some (.int z.1) ∧ σ9 = z.2) := by
  unfold L_X12_way at h
  refine r_iconst (v := 0) dX12_way_0 (by decide) ?_
  refine r_istore_n (lo' := [(3, .int 0), (0, .ref (ad 90)), (1, .ref (ad x1)), (2, .int x2)]) dX12_way_1 (by decide) rfl ?_
  refine r_iload_n dX12_way_2 3 rfl ?_
  refine r_istore (lo' := [(4, .int x2), (3, .int 0), (0, .ref (ad 90)), (1, .ref (ad x1)), (2, .int x2)]) dX12_way_3 (by decide) rfl ?_
  refine ab_E.lo [1, 0, 4, 2, 3] rfl (l_X12_way_5 (fun yq1 h => ?_) _ _ _ h)
  refine r_iload_n dX12_way_31 0 rfl ?_
  refine r_istore (lo' := [(4, .int yq1), (3, .int yq1), (2, .int x2), (0, .ref (ad 90)), (1, .ref (ad x1))]) dX12_way_32 (by decide) rfl ?_
  refine r_iload_n dX12_way_34 2 rfl ?_
  refine r_istore (lo' := [(5, .int x2), (4, .int yq1), (3, .int yq1), (2, .int x2), (0, .ref (ad 90)), (1, .ref (ad x1))]) dX12_way_35 (by decide) rfl ?_
  refine ab_E.lo [1, 0, 2, 4, 5] rfl (l_X12_way_37 (fun σ2 h => ?_) _ _ _ _ h)
  refine r_iload_n dX12_way_74 0 rfl ?_
  refine r_iret rfl dX12_way_75 ?_
  exact lfI h
set_option maxRecDepth 8000 in
theorem lc_X12_way {ad : Nat → Nat} {F : Nat} {x1 : Nat} {x2 : Int32} {σ τ : sS} {r : Int32} (h : L_X12_way F x1 x2 σ = some (r, τ)) : ab_X (sR ad) 1 mX12_way [.ref (ad 90), .ref (ad x1), .int x2] σ (some (.int r)) τ := ab_X.of (by decide) (Nat.le_of_ble_eq_true rfl) (e_X12_way h)
set_option maxRecDepth 8000 in
def L_X12_showsRound_36 (F : Nat) (x1 : Int32) (x2 : Int32) (x3 : Int32) (kx : sS → Option sS) : Nat → Int32 → sS → Option sS
  | 0, _, _ => none
  | n + 1, x4, σ => if x4 = ((-1)) then (kx σ) else (bd2 (L_X12_goesBy x3 x4 σ) (fun rq12 σ13 => if rq12 = x1 then (bd2 (L_X12_way F 167 x3 σ13) (fun rq20 σ21 => bnd (uI σ21 90 69 rq20) (fun σ22 => grd (inb (vI σ22 90 69) 1001) (bnd (uI σ22 167 (vI σ22 90 69).toNatClampNeg (x4 / 2048)) (fun σ24 => bnd (uI σ24 90 69 ((vI σ24 90 69) + 1)) (fun σ25 => some σ25)))))) else (bd (L_X12_meets rq12 x3 (x4 / 2048) σ13) (fun σ16 => bd (L_X12_edgeFrom F x3 (x4 + 1) σ16) (fun rq18 => L_X12_showsRound_36 F x1 x2 x3 kx n rq18 σ16)))))
set_option maxRecDepth 8000 in
theorem l_X12_showsRound_36 {ad : Nat → Nat} {F : Nat} {x1 : Int32} {x2 : Int32} {x3 : Int32} {z : sS} {kx : sS → Option sS} (hx : ∀  (σ : sS), kx σ = some z → ab_E (sR ad) mX12_showsRound 4 123 [(1, .int x1), (2, .int x2), (0, .ref (ad 90))] [] σ (fun r9 σ9 => r9 = none ∧ σ9 = z)) : ∀ (n : Nat) (x4 : Int32) (σ : sS), L_X12_showsRound_36 F x1 x2 x3 kx n x4 σ = some z → ab_E (sR ad) mX12_showsRound 4 36 [(4, .int x4), (1, .int x1), (2, .int x2), (3, .int x3), (0, .ref (ad 90))] [] σ (fun r9 σ9 => r9 = none ∧ σ9 = z) := by
  intro n
  induction n with
  | zero =>
    intro x4 σ h
    rw [L_X12_showsRound_36] at h
    cases h
  | succ n ih =>
    intro x4 σ h
    rw [L_X12_showsRound_36] at h
    refine r_iload dX12_showsRound_36 0 rfl ?_
    refine r_iconst (v := (-1)) dX12_showsRound_38 (by decide) ?_
    refine r_icmp_eq (t := 123) dX12_showsRound_39 (by decide) (fun qc10 => ?_) (fun qc10 => ?_)
    · replace h := ifp h qc10
      exact ab_E.lo [1, 2, 4] rfl (hx _ h)
    · replace h := ifn h qc10
      refine r_aload_n dX12_showsRound_42 4 rfl ?_
      refine r_iload_n dX12_showsRound_43 3 rfl ?_
      refine r_iload dX12_showsRound_44 0 rfl ?_
      obtain ⟨rq12, σ13, qg11, h⟩ := bd2_at h
      refine x_callV (Y := mX12_goesBy) (d' := 2) dX12_showsRound_46 ml_X12_420 yv_X12_goesBy (by omega) rfl rfl (by simp [Value.category]) (sR_is rfl rfl) (lc_X12_goesBy qg11) ?_
      refine r_istore (lo' := [(5, .int rq12), (4, .int x4), (1, .int x1), (2, .int x2), (3, .int x3), (0, .ref (ad 90))]) dX12_showsRound_49 (by decide) rfl ?_
      refine r_iload dX12_showsRound_51 0 rfl ?_
      refine r_iload_n dX12_showsRound_53 2 rfl ?_
      refine r_icmp_ne (t := 96) dX12_showsRound_54 (by decide) (fun qc14 => ?_) (fun qc14 => ?_)
      · replace h := ifn h qc14
        refine r_aload_n dX12_showsRound_96 5 rfl ?_
        refine r_iload dX12_showsRound_97 0 rfl ?_
        refine r_iload_n dX12_showsRound_99 4 rfl ?_
        refine r_iload dX12_showsRound_100 1 rfl ?_
        refine r_sipush (v := 2048) dX12_showsRound_102 (by decide) ?_
        refine r_idiv dX12_showsRound_105 (by decide) ?_
        obtain ⟨σ16, qg15, h⟩ := bd_at h
        refine x_callV0 (Y := mX12_meets) (d' := 1) dX12_showsRound_106 ml_X12_423 yv_X12_meets (by omega) rfl rfl (by simp [Value.category]) (sR_is rfl rfl) (lc_X12_meets qg15) ?_
        refine r_aload_n dX12_showsRound_109 5 rfl ?_
        refine r_iload_n dX12_showsRound_110 4 rfl ?_
        refine r_iload dX12_showsRound_111 1 rfl ?_
        refine r_iconst (v := 1) dX12_showsRound_113 (by decide) ?_
        refine r_iadd dX12_showsRound_114 ?_
        obtain ⟨rq18, qg17, h⟩ := bd_at h
        refine x_callV (Y := mX12_edgeFrom) (d' := 3) dX12_showsRound_115 ml_X12_417 yv_X12_edgeFrom (by omega) rfl rfl (by simp [Value.category]) (sR_is rfl rfl) (lc_X12_edgeFrom qg17) ?_
        refine r_istore (lo' := [(4, .int rq18), (5, .int rq12), (1, .int x1), (2, .int x2), (3, .int x3), (0, .ref (ad 90))]) dX12_showsRound_118 (by decide) rfl ?_
        refine r_goto (t := 36) dX12_showsRound_120 (by decide) ?_
        exact ab_E.lo [0, 2, 3, 4, 5] rfl (ih _ _ h)
      · replace h := ifp h qc14
        refine r_aload_n dX12_showsRound_57 5 rfl ?_
        refine r_aload_n dX12_showsRound_58 5 rfl ?_
        refine r_aload_n dX12_showsRound_59 5 rfl ?_
        refine s_getR (b := 167) ok_X12 dX12_showsRound_60 (k := 67) (by decide) fl_X12_128 rfl rfl rfl ?_
        refine r_iload_n dX12_showsRound_63 4 rfl ?_
        obtain ⟨rq20, σ21, qg19, h⟩ := bd2_at h
        refine x_callV (Y := mX12_way) (d' := 1) dX12_showsRound_64 ml_X12_486 yv_X12_way (by omega) rfl rfl (by simp [Value.category]) (sR_is rfl rfl) (lc_X12_way qg19) ?_
        refine s_putI ok_X12 dX12_showsRound_67 (k := 69) (by decide) fl_X12_489 rfl rfl rfl rfl rfl ?_
        refine r_st (fun σ22 eσ22 => ?_)
        replace h := bnd_at h eσ22
        refine r_aload_n dX12_showsRound_70 5 rfl ?_
        refine s_getR (b := 167) ok_X12 dX12_showsRound_71 (k := 67) (by decide) fl_X12_128 rfl rfl rfl ?_
        refine r_aload_n dX12_showsRound_74 5 rfl ?_
        refine s_getI ok_X12 dX12_showsRound_75 (k := 69) (by decide) fl_X12_489 rfl rfl ?_
        refine r_iload dX12_showsRound_78 1 rfl ?_
        refine r_sipush (v := 2048) dX12_showsRound_80 (by decide) ?_
        refine r_idiv dX12_showsRound_83 (by decide) ?_
        obtain ⟨qg23, h⟩ := grd_at h
        refine s_iast dX12_showsRound_84 rfl (inb_of qg23) ?_
        refine r_st (fun σ24 eσ24 => ?_)
        replace h := bnd_at h eσ24
        refine r_aload_n dX12_showsRound_85 5 rfl ?_
        refine r_dup dX12_showsRound_86 rfl ?_
        refine s_getI ok_X12 dX12_showsRound_87 (k := 69) (by decide) fl_X12_489 rfl rfl ?_
        refine r_iconst (v := 1) dX12_showsRound_90 (by decide) ?_
        refine r_iadd dX12_showsRound_91 ?_
        refine s_putI ok_X12 dX12_showsRound_92 (k := 69) (by decide) fl_X12_489 rfl rfl rfl rfl rfl ?_
        refine r_st (fun σ25 eσ25 => ?_)
        replace h := bnd_at h eσ25
        refine r_vret rfl dX12_showsRound_95 ?_
        exact lfV h
set_option maxRecDepth 8000 in
def L_X12_showsRound_13 (F : Nat) (x1 : Int32) (kx : sS → Option sS) : Nat → Int32 → sS → Option sS
  | 0, _, _ => none
  | n + 1, x2, σ => if (vI σ 90 53) ≤ x2 then (kx σ) else (grd (inb x2 3000) (bnd (vI σ 149 x2.toNatClampNeg) (fun yq7 => bd (L_X12_edgeFrom F yq7 0 σ) (fun rq9 => L_X12_showsRound_36 F x1 x2 yq7 (fun σ10 => L_X12_showsRound_13 F x1 kx n (x2 + 1) σ10) F rq9 σ))))
set_option maxRecDepth 8000 in
theorem l_X12_showsRound_13 {ad : Nat → Nat} {F : Nat} {x1 : Int32} {z : sS} {kx : sS → Option sS} (hx : ∀  (σ : sS), kx σ = some z → ab_E (sR ad) mX12_showsRound 4 129 [] [] σ (fun r9 σ9 => r9 = none ∧ σ9 = z)) : ∀ (n : Nat) (x2 : Int32) (σ : sS), L_X12_showsRound_13 F x1 kx n x2 σ = some z → ab_E (sR ad) mX12_showsRound 4 13 [(2, .int x2), (1, .int x1), (0, .ref (ad 90))] [] σ (fun r9 σ9 => r9 = none ∧ σ9 = z) := by
  intro n
  induction n with
  | zero =>
    intro x2 σ h
    rw [L_X12_showsRound_13] at h
    cases h
  | succ n ih =>
    intro x2 σ h
    rw [L_X12_showsRound_13] at h
    refine r_iload_n dX12_showsRound_13 0 rfl ?_
    refine r_aload_n dX12_showsRound_14 2 rfl ?_
    refine s_getI ok_X12 dX12_showsRound_15 (k := 53) (by decide) fl_X12_414 rfl rfl ?_
    refine r_icmp_ge (t := 129) dX12_showsRound_18 (by decide) (fun qc5 => ?_) (fun qc5 => ?_)
    · replace h := ifp h qc5
      exact ab_E.lo [] rfl (hx _ h)
    · replace h := ifn h qc5
      refine r_aload_n dX12_showsRound_21 2 rfl ?_
      refine s_getR (b := 149) ok_X12 dX12_showsRound_22 (k := 49) (by decide) fl_X12_85 rfl rfl rfl ?_
      refine r_iload_n dX12_showsRound_25 0 rfl ?_
      obtain ⟨qg6, h⟩ := grd_at h
      refine s_iald dX12_showsRound_26 rfl (inb_of qg6) ?_
      refine r_topi (fun yq7 eyq7 => ?_)
      replace h := bnd_at h eyq7
      refine r_istore_n (lo' := [(3, .int yq7), (2, .int x2), (1, .int x1), (0, .ref (ad 90))]) dX12_showsRound_27 (by decide) rfl ?_
      refine r_aload_n dX12_showsRound_28 3 rfl ?_
      refine r_iload_n dX12_showsRound_29 0 rfl ?_
      refine r_iconst (v := 0) dX12_showsRound_30 (by decide) ?_
      obtain ⟨rq9, qg8, h⟩ := bd_at h
      refine x_callV (Y := mX12_edgeFrom) (d' := 3) dX12_showsRound_31 ml_X12_417 yv_X12_edgeFrom (by omega) rfl rfl (by simp [Value.category]) (sR_is rfl rfl) (lc_X12_edgeFrom qg8) ?_
      refine r_istore (lo' := [(4, .int rq9), (3, .int yq7), (2, .int x2), (1, .int x1), (0, .ref (ad 90))]) dX12_showsRound_34 (by decide) rfl ?_
      refine ab_E.lo [0, 3, 2, 1, 4] rfl (l_X12_showsRound_36 (fun σ10 h => ?_) _ _ _ h)
      refine r_iinc (v := x2 + 1) (lo' := [(2, .int (x2 + 1)), (1, .int x1), (0, .ref (ad 90))]) dX12_showsRound_123 1 rfl rfl (by decide) rfl ?_
      refine r_goto (t := 13) dX12_showsRound_126 (by decide) ?_
      exact ab_E.lo [0, 1, 2] rfl (ih _ _ h)
set_option maxRecDepth 8000 in
def L_X12_showsRound (F : Nat) (x1 : Int32) (σ : sS) : Option sS := bd (L_X12_meetsNone F σ) (fun σ2 => bd (L_X12_meets x1 (-1) (-1) σ2) (fun σ4 => L_X12_showsRound_13 F x1 (fun σ5 => some σ5) F 0 σ4))
set_option maxRecDepth 8000 in
theorem e_X12_showsRound {ad : Nat → Nat} {F : Nat} {x1 : Int32} {σ : sS} {z : sS} (h : L_X12_showsRound F x1 σ = some z) : ab_E (sR ad) mX12_showsRound 4 0 [(0, .ref (ad 90)), (1, .int x1)] [] σ (fun r9 σ9 => r9 = none ∧ σ9 = z) := by
  unfold L_X12_showsRound at h
  refine r_aload_n dX12_showsRound_0 0 rfl ?_
  obtain ⟨σ2, qg1, h⟩ := bd_at h
  refine x_callV0 (Y := mX12_meetsNone) (d' := 1) dX12_showsRound_1 ml_X12_451 yv_X12_meetsNone (by omega) rfl rfl (by simp [Value.category]) (sR_is rfl rfl) (lc_X12_meetsNone qg1) ?_
  refine r_aload_n dX12_showsRound_4 0 rfl ?_
  refine r_iload_n dX12_showsRound_5 1 rfl ?_
  refine r_iconst (v := (-1)) dX12_showsRound_6 (by decide) ?_
  refine r_iconst (v := (-1)) dX12_showsRound_7 (by decide) ?_
  obtain ⟨σ4, qg3, h⟩ := bd_at h
  refine x_callV0 (Y := mX12_meets) (d' := 1) dX12_showsRound_8 ml_X12_423 yv_X12_meets (by omega) rfl rfl (by simp [Value.category]) (sR_is rfl rfl) (lc_X12_meets qg3) ?_
  refine r_iconst (v := 0) dX12_showsRound_11 (by decide) ?_
  refine r_istore_n (lo' := [(2, .int 0), (0, .ref (ad 90)), (1, .int x1)]) dX12_showsRound_12 (by decide) rfl ?_
  refine ab_E.lo [0, 2, 1] rfl (l_X12_showsRound_13 (fun σ5 h => ?_) _ _ _ h)
  refine r_vret rfl dX12_showsRound_129 ?_
  exact lfV h
set_option maxRecDepth 8000 in
theorem lc_X12_showsRound {ad : Nat → Nat} {F : Nat} {x1 : Int32} {σ τ : sS} (h : L_X12_showsRound F x1 σ = some τ) : ab_X (sR ad) 4 mX12_showsRound [.ref (ad 90), .int x1] σ none τ := ab_X.of (by decide) (Nat.le_of_ble_eq_true rfl) (e_X12_showsRound h)
set_option maxRecDepth 8000 in
def L_X12_shows (F : Nat) (σ : sS) : Option (Int32 × sS) := bd2 (L_X12_found F σ) (fun rq2 σ3 => if rq2 = ((-1)) then (bnd (uI σ3 90 71 0) (fun σ5 => if (vI σ5 90 71) = 0 then (some ((0, σ5))) else (bd2 (L_X12_way F 166 rq2 σ5) (fun rq8 σ9 => bnd (uI σ9 90 68 rq8) (fun σ10 => bd (L_X12_showsRound F rq2 σ10) (fun σ12 => some ((1, σ12)))))))) else (bnd (uI σ3 90 71 1) (fun σ13 => if (vI σ13 90 71) = 0 then (some ((0, σ13))) else (bd2 (L_X12_way F 166 rq2 σ13) (fun rq16 σ17 => bnd (uI σ17 90 68 rq16) (fun σ18 => bd (L_X12_showsRound F rq2 σ18) (fun σ20 => some ((1, σ20)))))))))
set_option maxRecDepth 8000 in
theorem e_X12_shows {ad : Nat → Nat} {F : Nat}  {σ : sS} {z : (Int32 × sS)} (h : L_X12_shows F σ = some z) : ab_E (sR ad) mX12_shows 8 0 [(0, .ref (ad 90))] [] σ (fun r9 σ9 => r9 = some (.int z.1) ∧ σ9 = z.2) := by
  unfold L_X12_shows at h
  refine r_aload_n dX12_shows_0 0 rfl ?_
  obtain ⟨rq2, σ3, qg1, h⟩ := bd2_at h
  refine x_callV (Y := mX12_found) (d' := 7) dX12_shows_1 ml_X12_463 yv_X12_found (by omega) rfl rfl (by simp [Value.category]) (sR_is rfl rfl) (lc_X12_found qg1) ?_
  refine r_istore_n (lo' := [(1, .int rq2), (0, .ref (ad 90))]) dX12_shows_4 (by decide) rfl ?_
  refine r_aload_n dX12_shows_5 1 rfl ?_
  refine r_iload_n dX12_shows_6 0 rfl ?_
  refine r_iconst (v := (-1)) dX12_shows_7 (by decide) ?_
  refine r_icmp_eq (t := 15) dX12_shows_8 (by decide) (fun qc4 => ?_) (fun qc4 => ?_)
  · replace h := ifp h qc4
    refine r_iconst (v := 0) dX12_shows_15 (by decide) ?_
    refine s_putI ok_X12 dX12_shows_16 (k := 71) (by decide) fl_X12_492 rfl (by decide) (by decide) rfl rfl ?_
    refine r_st (fun σ5 eσ5 => ?_)
    replace h := bnd_at h eσ5
    refine r_aload_n dX12_shows_19 1 rfl ?_
    refine s_getI ok_X12 dX12_shows_20 (k := 71) (by decide) fl_X12_492 rfl rfl ?_
    refine r_if_ne (t := 28) dX12_shows_23 (by decide) (fun qc6 => ?_) (fun qc6 => ?_)
    · replace h := ifn h qc6
      refine r_aload_n dX12_shows_28 1 rfl ?_
      refine r_aload_n dX12_shows_29 1 rfl ?_
      refine r_aload_n dX12_shows_30 1 rfl ?_
      refine s_getR (b := 166) ok_X12 dX12_shows_31 (k := 66) (by decide) fl_X12_125 rfl rfl rfl ?_
      refine r_iload_n dX12_shows_34 0 rfl ?_
      obtain ⟨rq8, σ9, qg7, h⟩ := bd2_at h
      refine x_callV (Y := mX12_way) (d' := 1) dX12_shows_35 ml_X12_486 yv_X12_way (by omega) rfl rfl (by simp [Value.category]) (sR_is rfl rfl) (lc_X12_way qg7) ?_
      refine s_putI ok_X12 dX12_shows_38 (k := 68) (by decide) fl_X12_495 rfl rfl rfl rfl rfl ?_
      refine r_st (fun σ10 eσ10 => ?_)
      replace h := bnd_at h eσ10
      refine r_aload_n dX12_shows_41 1 rfl ?_
      refine r_iload_n dX12_shows_42 0 rfl ?_
      obtain ⟨σ12, qg11, h⟩ := bd_at h
      refine x_callV0 (Y := mX12_showsRound) (d' := 4) dX12_shows_43 ml_X12_498 yv_X12_showsRound (by omega) rfl rfl (by simp [Value.category]) (sR_is rfl rfl) (lc_X12_showsRound qg11) ?_
      refine r_iconst (v := 1) dX12_shows_46 (by decide) ?_
      refine r_zret rfl (by decide) dX12_shows_47 ?_
      exact lfI h
    · replace h := ifp h qc6
      refine r_iconst (v := 0) dX12_shows_26 (by decide) ?_
      refine r_zret rfl (by decide) dX12_shows_27 ?_
      exact lfI h
  · replace h := ifn h qc4
    refine r_iconst (v := 1) dX12_shows_11 (by decide) ?_
    refine r_goto (t := 16) dX12_shows_12 (by decide) ?_
    refine s_putI ok_X12 dX12_shows_16 (k := 71) (by decide) fl_X12_492 rfl (by decide) (by decide) rfl rfl ?_
    refine r_st (fun σ13 eσ13 => ?_)
    replace h := bnd_at h eσ13
    refine r_aload_n dX12_shows_19 1 rfl ?_
    refine s_getI ok_X12 dX12_shows_20 (k := 71) (by decide) fl_X12_492 rfl rfl ?_
    refine r_if_ne (t := 28) dX12_shows_23 (by decide) (fun qc14 => ?_) (fun qc14 => ?_)
    · replace h := ifn h qc14
      refine r_aload_n dX12_shows_28 1 rfl ?_
      refine r_aload_n dX12_shows_29 1 rfl ?_
      refine r_aload_n dX12_shows_30 1 rfl ?_
      refine s_getR (b := 166) ok_X12 dX12_shows_31 (k := 66) (by decide) fl_X12_125 rfl rfl rfl ?_
      refine r_iload_n dX12_shows_34 0 rfl ?_
      obtain ⟨rq16, σ17, qg15, h⟩ := bd2_at h
      refine x_callV (Y := mX12_way) (d' := 1) dX12_shows_35 ml_X12_486 yv_X12_way (by omega) rfl rfl (by simp [Value.category]) (sR_is rfl rfl) (lc_X12_way qg15) ?_
      refine s_putI ok_X12 dX12_shows_38 (k := 68) (by decide) fl_X12_495 rfl rfl rfl rfl rfl ?_
      refine r_st (fun σ18 eσ18 => ?_)
      replace h := bnd_at h eσ18
      refine r_aload_n dX12_shows_41 1 rfl ?_
      refine r_iload_n dX12_shows_42 0 rfl ?_
      obtain ⟨σ20, qg19, h⟩ := bd_at h
      refine x_callV0 (Y := mX12_showsRound) (d' := 4) dX12_shows_43 ml_X12_498 yv_X12_showsRound (by omega) rfl rfl (by simp [Value.category]) (sR_is rfl rfl) (lc_X12_showsRound qg19) ?_
      refine r_iconst (v := 1) dX12_shows_46 (by decide) ?_
      refine r_zret rfl (by decide) dX12_shows_47 ?_
      exact lfI h
    · replace h := ifp h qc14
      refine r_iconst (v := 0) dX12_shows_26 (by decide) ?_
      refine r_zret rfl (by decide) dX12_shows_27 ?_
      exact lfI h
set_option maxRecDepth 8000 in
theorem lc_X12_shows {ad : Nat → Nat} {F : Nat}  {σ τ : sS} {r : Int32} (h : L_X12_shows F σ = some (r, τ)) : ab_X (sR ad) 8 mX12_shows [.ref (ad 90)] σ (some (.int r)) τ := ab_X.of (by decide) (Nat.le_of_ble_eq_true rfl) (e_X12_shows h)
set_option maxRecDepth 8000 in
def L_X12_empty_35 (F : Nat) (x1 : Int32) (kx : sS → Option (Int32 × sS)) : Nat → Int32 → sS → Option (Int32 × sS)
  | 0, _, _ => none
  | n + 1, x2, σ => if 4 ≤ x2 then (kx σ) else (grd (inb x1 6) (if (((vI σ 115 x1.toNatClampNeg) >>> (x2 &&& 31)) &&& 1) = 1 then (bd (L_X12_meets x2 (-1) (-1) σ) (fun σ13 => L_X12_empty_35 F x1 kx n (x2 + 1) σ13)) else (L_X12_empty_35 F x1 kx n (x2 + 1) σ)))
set_option maxRecDepth 8000 in
theorem l_X12_empty_35 {ad : Nat → Nat} {F : Nat} {x1 : Int32} {z : (Int32 × sS)} {kx : sS → Option (Int32 × sS)} (hx : ∀  (σ : sS), kx σ = some z → ab_E (sR ad) mX12_empty 9 67 [(0, .ref (ad 90))] [] σ (fun r9 σ9 => r9 = some (.int z.1) ∧ σ9 = z.2)) : ∀ (n : Nat) (x2 : Int32) (σ : sS), L_X12_empty_35 F x1 kx n x2 σ = some z → ab_E (sR ad) mX12_empty 9 35 [(2, .int x2), (1, .int x1), (0, .ref (ad 90))] [] σ (fun r9 σ9 => r9 = some (.int z.1) ∧ σ9 = z.2) := by
  intro n
  induction n with
  | zero =>
    intro x2 σ h
    rw [L_X12_empty_35] at h
    cases h
  | succ n ih =>
    intro x2 σ h
    rw [L_X12_empty_35] at h
    refine r_iload_n dX12_empty_35 0 rfl ?_
    refine r_iconst (v := 4) dX12_empty_36 (by decide) ?_
    refine r_icmp_ge (t := 67) dX12_empty_37 (by decide) (fun qc9 => ?_) (fun qc9 => ?_)
    · replace h := ifp h qc9
      exact ab_E.lo [2] rfl (hx _ h)
    · replace h := ifn h qc9
      refine r_aload_n dX12_empty_40 2 rfl ?_
      refine s_getR (b := 115) ok_X12 dX12_empty_41 (k := 15) (by decide) fl_X12_20 rfl rfl rfl ?_
      refine r_iload_n dX12_empty_44 1 rfl ?_
      obtain ⟨qg10, h⟩ := grd_at h
      refine s_iald dX12_empty_45 rfl (inb_of qg10) ?_
      refine r_iload_n dX12_empty_46 0 rfl ?_
      refine r_ishr dX12_empty_47 ?_
      refine r_iconst (v := 1) dX12_empty_48 (by decide) ?_
      refine r_iand dX12_empty_49 ?_
      refine r_iconst (v := 1) dX12_empty_50 (by decide) ?_
      refine r_icmp_ne (t := 61) dX12_empty_51 (by decide) (fun qc11 => ?_) (fun qc11 => ?_)
      · replace h := ifn h qc11
        refine r_iinc (v := x2 + 1) (lo' := [(2, .int (x2 + 1)), (1, .int x1), (0, .ref (ad 90))]) dX12_empty_61 0 rfl rfl (by decide) rfl ?_
        refine r_goto (t := 35) dX12_empty_64 (by decide) ?_
        exact ab_E.lo [0, 1, 2] rfl (ih _ _ h)
      · replace h := ifp h qc11
        refine r_aload_n dX12_empty_54 2 rfl ?_
        refine r_iload_n dX12_empty_55 0 rfl ?_
        refine r_iconst (v := (-1)) dX12_empty_56 (by decide) ?_
        refine r_iconst (v := (-1)) dX12_empty_57 (by decide) ?_
        obtain ⟨σ13, qg12, h⟩ := bd_at h
        refine x_callV0 (Y := mX12_meets) (d' := 1) dX12_empty_58 ml_X12_423 yv_X12_meets (by omega) rfl rfl (by simp [Value.category]) (sR_is rfl rfl) (lc_X12_meets qg12) ?_
        refine r_iinc (v := x2 + 1) (lo' := [(2, .int (x2 + 1)), (1, .int x1), (0, .ref (ad 90))]) dX12_empty_61 0 rfl rfl (by decide) rfl ?_
        refine r_goto (t := 35) dX12_empty_64 (by decide) ?_
        exact ab_E.lo [0, 1, 2] rfl (ih _ _ h)
set_option maxRecDepth 8000 in
def L_X12_empty (F : Nat) (x1 : Int32) (σ : sS) : Option (Int32 × sS) := bnd (uI σ 90 0 0) (fun σ1 => bd (L_X12_isAuto x1 σ1) (fun rq3 => if rq3 = 0 then (bd2 (L_X12_refused 1 σ1) (fun rq23 σ24 => some ((rq23, σ24)))) else (bnd (uI σ1 90 37 0) (fun σ5 => bnd (uI σ5 90 38 x1) (fun σ6 => bd (L_X12_meetsNone F σ6) (fun σ8 => L_X12_empty_35 F x1 (fun σ9 => bd (L_X12_meetsAll F σ9) (fun σ11 => bd2 (L_X12_shows F σ11) (fun rq13 σ14 => if rq13 = 0 then (bd2 (L_X12_good 1 σ14) (fun rq17 σ18 => some ((rq17, σ18)))) else (bd2 (L_X12_good 0 σ14) (fun rq20 σ21 => some ((rq20, σ21))))))) F 0 σ8))))))
set_option maxRecDepth 8000 in
theorem e_X12_empty {ad : Nat → Nat} {F : Nat} {x1 : Int32} {σ : sS} {z : (Int32 × sS)} (h : L_X12_empty F x1 σ = some z) : ab_E (sR ad) mX12_empty 9 0 [(0, .ref (ad 90)), (1, .int x1)] [] σ (fun r9 σ9 => r9 = some (.int z.1) ∧ σ9 = z.2) := by
  unfold L_X12_empty at h
  refine r_aload_n dX12_empty_0 0 rfl ?_
  refine r_iconst (v := 0) dX12_empty_1 (by decide) ?_
  refine s_putI ok_X12 dX12_empty_2 (k := 0) (by decide) fl_X12_131 rfl rfl rfl rfl rfl ?_
  refine r_st (fun σ1 eσ1 => ?_)
  replace h := bnd_at h eσ1
  refine r_aload_n dX12_empty_5 0 rfl ?_
  refine r_iload_n dX12_empty_6 1 rfl ?_
  obtain ⟨rq3, qg2, h⟩ := bd_at h
  refine x_callV (Y := mX12_isAuto) (d' := 2) dX12_empty_7 ml_X12_291 yv_X12_isAuto (by omega) rfl rfl (by simp [Value.category]) (sR_is rfl rfl) (lc_X12_isAuto qg2) ?_
  refine r_if_ne (t := 19) dX12_empty_10 (by decide) (fun qc4 => ?_) (fun qc4 => ?_)
  · replace h := ifn h qc4
    refine r_aload_n dX12_empty_19 0 rfl ?_
    refine r_iconst (v := 0) dX12_empty_20 (by decide) ?_
    refine s_putI ok_X12 dX12_empty_21 (k := 37) (by decide) fl_X12_393 rfl rfl rfl rfl rfl ?_
    refine r_st (fun σ5 eσ5 => ?_)
    replace h := bnd_at h eσ5
    refine r_aload_n dX12_empty_24 0 rfl ?_
    refine r_iload_n dX12_empty_25 1 rfl ?_
    refine s_putI ok_X12 dX12_empty_26 (k := 38) (by decide) fl_X12_396 rfl rfl rfl rfl rfl ?_
    refine r_st (fun σ6 eσ6 => ?_)
    replace h := bnd_at h eσ6
    refine r_aload_n dX12_empty_29 0 rfl ?_
    obtain ⟨σ8, qg7, h⟩ := bd_at h
    refine x_callV0 (Y := mX12_meetsNone) (d' := 1) dX12_empty_30 ml_X12_451 yv_X12_meetsNone (by omega) rfl rfl (by simp [Value.category]) (sR_is rfl rfl) (lc_X12_meetsNone qg7) ?_
    refine r_iconst (v := 0) dX12_empty_33 (by decide) ?_
    refine r_istore_n (lo' := [(2, .int 0), (0, .ref (ad 90)), (1, .int x1)]) dX12_empty_34 (by decide) rfl ?_
    refine ab_E.lo [0, 2, 1] rfl (l_X12_empty_35 (fun σ9 h => ?_) _ _ _ h)
    refine r_aload_n dX12_empty_67 0 rfl ?_
    obtain ⟨σ11, qg10, h⟩ := bd_at h
    refine x_callV0 (Y := mX12_meetsAll) (d' := 4) dX12_empty_68 ml_X12_460 yv_X12_meetsAll (by omega) rfl rfl (by simp [Value.category]) (sR_is rfl rfl) (lc_X12_meetsAll qg10) ?_
    refine r_aload_n dX12_empty_71 0 rfl ?_
    refine r_aload_n dX12_empty_72 0 rfl ?_
    obtain ⟨rq13, σ14, qg12, h⟩ := bd2_at h
    refine x_callV (Y := mX12_shows) (d' := 8) dX12_empty_73 ml_X12_501 yv_X12_shows (by omega) rfl rfl (by simp [Value.category]) (sR_is rfl rfl) (lc_X12_shows qg12) ?_
    refine r_if_eq (t := 83) dX12_empty_76 (by decide) (fun qc15 => ?_) (fun qc15 => ?_)
    · replace h := ifp h qc15
      refine r_iconst (v := 1) dX12_empty_83 (by decide) ?_
      obtain ⟨rq17, σ18, qg16, h⟩ := bd2_at h
      refine x_callV (Y := mX12_good) (d' := 1) dX12_empty_84 ml_X12_288 yv_X12_good (by omega) rfl rfl (by simp [Value.category]) (sR_is rfl rfl) (lc_X12_good qg16) ?_
      refine r_iret rfl dX12_empty_87 ?_
      exact lfI h
    · replace h := ifn h qc15
      refine r_iconst (v := 0) dX12_empty_79 (by decide) ?_
      refine r_goto (t := 84) dX12_empty_80 (by decide) ?_
      obtain ⟨rq20, σ21, qg19, h⟩ := bd2_at h
      refine x_callV (Y := mX12_good) (d' := 1) dX12_empty_84 ml_X12_288 yv_X12_good (by omega) rfl rfl (by simp [Value.category]) (sR_is rfl rfl) (lc_X12_good qg19) ?_
      refine r_iret rfl dX12_empty_87 ?_
      exact lfI h
  · replace h := ifp h qc4
    refine r_aload_n dX12_empty_13 0 rfl ?_
    refine r_iconst (v := 1) dX12_empty_14 (by decide) ?_
    obtain ⟨rq23, σ24, qg22, h⟩ := bd2_at h
    refine x_callV (Y := mX12_refused) (d' := 1) dX12_empty_15 ml_X12_270 yv_X12_refused (by omega) rfl rfl (by simp [Value.category]) (sR_is rfl rfl) (lc_X12_refused qg22) ?_
    refine r_iret rfl dX12_empty_18 ?_
    exact lfI h
set_option maxRecDepth 8000 in
theorem lc_X12_empty {ad : Nat → Nat} {F : Nat} {x1 : Int32} {σ τ : sS} {r : Int32} (h : L_X12_empty F x1 σ = some (r, τ)) : ab_X (sR ad) 9 mX12_empty [.ref (ad 90), .int x1] σ (some (.int r)) τ := ab_X.of (by decide) (Nat.le_of_ble_eq_true rfl) (e_X12_empty h)
set_option maxRecDepth 8000 in
def L_X12_all (F : Nat) (x1 : Int32) (σ : sS) : Option (Int32 × sS) := bnd (uI σ 90 0 0) (fun σ1 => bd (L_X12_isAuto x1 σ1) (fun rq3 => if rq3 = 0 then (bd2 (L_X12_refused 1 σ1) (fun rq31 σ32 => some ((rq31, σ32)))) else (bd2 (L_X12_lays F x1 σ1) (fun rq6 σ7 => if rq6 = 0 then (bd2 (L_X12_refused 3 σ7) (fun rq28 σ29 => some ((rq28, σ29)))) else (bnd (uI σ7 90 37 1) (fun σ9 => bnd (uI σ9 90 38 x1) (fun σ10 => bd (L_X12_meetsNone F σ10) (fun σ12 => bd (L_X12_meets 0 (-1) (-1) σ12) (fun σ14 => bd (L_X12_meetsAll F σ14) (fun σ16 => bd2 (L_X12_shows F σ16) (fun rq18 σ19 => if rq18 = 0 then (bd2 (L_X12_good 1 σ19) (fun rq22 σ23 => some ((rq22, σ23)))) else (bd2 (L_X12_good 0 σ19) (fun rq25 σ26 => some ((rq25, σ26)))))))))))))))
set_option maxRecDepth 8000 in
theorem e_X12_all {ad : Nat → Nat} {F : Nat} {x1 : Int32} {σ : sS} {z : (Int32 × sS)} (h : L_X12_all F x1 σ = some z) : ab_E (sR ad) mX12_all 9 0 [(0, .ref (ad 90)), (1, .int x1)] [] σ (fun r9 σ9 => r9 = some (.int z.1) ∧ σ9 = z.2) := by
  unfold L_X12_all at h
  refine r_aload_n dX12_all_0 0 rfl ?_
  refine r_iconst (v := 0) dX12_all_1 (by decide) ?_
  refine s_putI ok_X12 dX12_all_2 (k := 0) (by decide) fl_X12_131 rfl rfl rfl rfl rfl ?_
  refine r_st (fun σ1 eσ1 => ?_)
  replace h := bnd_at h eσ1
  refine r_aload_n dX12_all_5 0 rfl ?_
  refine r_iload_n dX12_all_6 1 rfl ?_
  obtain ⟨rq3, qg2, h⟩ := bd_at h
  refine x_callV (Y := mX12_isAuto) (d' := 2) dX12_all_7 ml_X12_291 yv_X12_isAuto (by omega) rfl rfl (by simp [Value.category]) (sR_is rfl rfl) (lc_X12_isAuto qg2) ?_
  refine r_if_ne (t := 19) dX12_all_10 (by decide) (fun qc4 => ?_) (fun qc4 => ?_)
  · replace h := ifn h qc4
    refine r_aload_n dX12_all_19 0 rfl ?_
    refine r_iload_n dX12_all_20 1 rfl ?_
    obtain ⟨rq6, σ7, qg5, h⟩ := bd2_at h
    refine x_callV (Y := mX12_lays) (d' := 4) dX12_all_21 ml_X12_372 yv_X12_lays (by omega) rfl rfl (by simp [Value.category]) (sR_is rfl rfl) (lc_X12_lays qg5) ?_
    refine r_if_ne (t := 33) dX12_all_24 (by decide) (fun qc8 => ?_) (fun qc8 => ?_)
    · replace h := ifn h qc8
      refine r_aload_n dX12_all_33 0 rfl ?_
      refine r_iconst (v := 1) dX12_all_34 (by decide) ?_
      refine s_putI ok_X12 dX12_all_35 (k := 37) (by decide) fl_X12_393 rfl rfl rfl rfl rfl ?_
      refine r_st (fun σ9 eσ9 => ?_)
      replace h := bnd_at h eσ9
      refine r_aload_n dX12_all_38 0 rfl ?_
      refine r_iload_n dX12_all_39 1 rfl ?_
      refine s_putI ok_X12 dX12_all_40 (k := 38) (by decide) fl_X12_396 rfl rfl rfl rfl rfl ?_
      refine r_st (fun σ10 eσ10 => ?_)
      replace h := bnd_at h eσ10
      refine r_aload_n dX12_all_43 0 rfl ?_
      obtain ⟨σ12, qg11, h⟩ := bd_at h
      refine x_callV0 (Y := mX12_meetsNone) (d' := 1) dX12_all_44 ml_X12_451 yv_X12_meetsNone (by omega) rfl rfl (by simp [Value.category]) (sR_is rfl rfl) (lc_X12_meetsNone qg11) ?_
      refine r_aload_n dX12_all_47 0 rfl ?_
      refine r_iconst (v := 0) dX12_all_48 (by decide) ?_
      refine r_iconst (v := (-1)) dX12_all_49 (by decide) ?_
      refine r_iconst (v := (-1)) dX12_all_50 (by decide) ?_
      obtain ⟨σ14, qg13, h⟩ := bd_at h
      refine x_callV0 (Y := mX12_meets) (d' := 1) dX12_all_51 ml_X12_423 yv_X12_meets (by omega) rfl rfl (by simp [Value.category]) (sR_is rfl rfl) (lc_X12_meets qg13) ?_
      refine r_aload_n dX12_all_54 0 rfl ?_
      obtain ⟨σ16, qg15, h⟩ := bd_at h
      refine x_callV0 (Y := mX12_meetsAll) (d' := 4) dX12_all_55 ml_X12_460 yv_X12_meetsAll (by omega) rfl rfl (by simp [Value.category]) (sR_is rfl rfl) (lc_X12_meetsAll qg15) ?_
      refine r_aload_n dX12_all_58 0 rfl ?_
      refine r_aload_n dX12_all_59 0 rfl ?_
      obtain ⟨rq18, σ19, qg17, h⟩ := bd2_at h
      refine x_callV (Y := mX12_shows) (d' := 8) dX12_all_60 ml_X12_501 yv_X12_shows (by omega) rfl rfl (by simp [Value.category]) (sR_is rfl rfl) (lc_X12_shows qg17) ?_
      refine r_if_eq (t := 70) dX12_all_63 (by decide) (fun qc20 => ?_) (fun qc20 => ?_)
      · replace h := ifp h qc20
        refine r_iconst (v := 1) dX12_all_70 (by decide) ?_
        obtain ⟨rq22, σ23, qg21, h⟩ := bd2_at h
        refine x_callV (Y := mX12_good) (d' := 1) dX12_all_71 ml_X12_288 yv_X12_good (by omega) rfl rfl (by simp [Value.category]) (sR_is rfl rfl) (lc_X12_good qg21) ?_
        refine r_iret rfl dX12_all_74 ?_
        exact lfI h
      · replace h := ifn h qc20
        refine r_iconst (v := 0) dX12_all_66 (by decide) ?_
        refine r_goto (t := 71) dX12_all_67 (by decide) ?_
        obtain ⟨rq25, σ26, qg24, h⟩ := bd2_at h
        refine x_callV (Y := mX12_good) (d' := 1) dX12_all_71 ml_X12_288 yv_X12_good (by omega) rfl rfl (by simp [Value.category]) (sR_is rfl rfl) (lc_X12_good qg24) ?_
        refine r_iret rfl dX12_all_74 ?_
        exact lfI h
    · replace h := ifp h qc8
      refine r_aload_n dX12_all_27 0 rfl ?_
      refine r_iconst (v := 3) dX12_all_28 (by decide) ?_
      obtain ⟨rq28, σ29, qg27, h⟩ := bd2_at h
      refine x_callV (Y := mX12_refused) (d' := 1) dX12_all_29 ml_X12_270 yv_X12_refused (by omega) rfl rfl (by simp [Value.category]) (sR_is rfl rfl) (lc_X12_refused qg27) ?_
      refine r_iret rfl dX12_all_32 ?_
      exact lfI h
  · replace h := ifp h qc4
    refine r_aload_n dX12_all_13 0 rfl ?_
    refine r_iconst (v := 1) dX12_all_14 (by decide) ?_
    obtain ⟨rq31, σ32, qg30, h⟩ := bd2_at h
    refine x_callV (Y := mX12_refused) (d' := 1) dX12_all_15 ml_X12_270 yv_X12_refused (by omega) rfl rfl (by simp [Value.category]) (sR_is rfl rfl) (lc_X12_refused qg30) ?_
    refine r_iret rfl dX12_all_18 ?_
    exact lfI h
set_option maxRecDepth 8000 in
theorem lc_X12_all {ad : Nat → Nat} {F : Nat} {x1 : Int32} {σ τ : sS} {r : Int32} (h : L_X12_all F x1 σ = some (r, τ)) : ab_X (sR ad) 9 mX12_all [.ref (ad 90), .int x1] σ (some (.int r)) τ := ab_X.of (by decide) (Nat.le_of_ble_eq_true rfl) (e_X12_all h)
