/-! OddRanks, lifted -/
set_option maxRecDepth 8000 in
noncomputable def L_X11_all (x1 : Int32) (σ : sS) : Option (Int32 × sS) := if q_at σ x1 = true then (bnd (33 + x1.toNatClampNeg) (fun ic2 => grd (isCo ic2) (bd2 (L_X1_stands ic2 σ) (fun rq5 σ6 => if rq5 = 0 then (bd2 (L_X11_refuse 3 σ6) (fun rq19 σ20 => some ((rq19, σ20)))) else (bd2 (L_sh1 ic2 σ6) (fun rq9 σ10 => if rq9 = 0 then (bd2 (L_X11_answer 1 σ10) (fun rq13 σ14 => some ((rq13, σ14)))) else (bd2 (L_X11_answer 0 σ10) (fun rq16 σ17 => some ((rq16, σ17)))))))))) else (bd2 (L_X11_refuse 1 σ) (fun rq22 σ23 => some ((rq22, σ23))))
set_option maxRecDepth 8000 in
theorem e_X11_all {ad : Nat → Nat} {x1 : Int32} {σ : sS} {z : (Int32 × sS)} (h : L_X11_all x1 σ = some z) : ab_E (sR ad) mX11_all 12 0 [(0, .ref (ad 0)), (1, .int x1)] [] σ (fun r9 σ9 => r9 = some (.int z.1) ∧ σ9 = z.2) := by
  unfold L_X11_all at h
  refine r_aload_n dX11_all_0 0 rfl ?_
  refine r_iload_n dX11_all_1 1 rfl ?_
  by_cases qm1 : q_at σ x1 = true
  · replace h := ifp h qm1
    refine x_callV (Y := mX11_complementAt) (d' := 1) dX11_all_2 ml_X11_202 yv_X11_complementAt (by omega) rfl rfl (by simp [Value.category]) (sR_is rfl rfl) (c_X11_complementAt σ qm1) ?_
    refine r_topr (fun ic2 eic2 => ?_)
    replace h := bnd_at h eic2
    obtain ⟨qg3, h⟩ := grd_at h
    refine r_astore_n (lo' := [(2, .ref (ad ic2)), (0, .ref (ad 0)), (1, .int x1)]) dX11_all_5 (by decide) rfl ?_
    refine r_aload_n dX11_all_6 0 rfl ?_
    refine r_ifnonnull (t := 16) dX11_all_7 (by decide) ?_
    refine r_aload_n dX11_all_16 0 rfl ?_
    obtain ⟨rq5, σ6, qg4, h⟩ := bd2_at h
    refine x_callV (Y := mX1_stands) (d' := 10) dX11_all_17 ml_X11_206 yv_X1_stands (by omega) rfl rfl (by simp [Value.category]) (sR_is (isCo_of qg3) rfl) (lc_X1_stands (isCo_of qg3) qg4) ?_
    refine r_if_ne (t := 29) dX11_all_20 (by decide) (fun qc7 => ?_) (fun qc7 => ?_)
    · replace h := ifn h qc7
      refine r_aload_n dX11_all_29 1 rfl ?_
      refine r_aload_n dX11_all_30 1 rfl ?_
      refine s_getR (b := 56) ok_X11 dX11_all_31 (k := 8) (by decide) fl_X11_56 rfl rfl rfl ?_
      refine r_aload_n dX11_all_34 0 rfl ?_
      obtain ⟨rq9, σ10, qg8, h⟩ := bd2_at h
      refine x_callV (Y := mX8_show) (d' := 11) dX11_all_35 ml_X11_256 yv_X8_show (by omega) rfl rfl (by simp [Value.category]) (sR_is rfl rfl) (lc_sh1 (isCo_of qg3) qg8) ?_
      refine r_if_eq (t := 45) dX11_all_38 (by decide) (fun qc11 => ?_) (fun qc11 => ?_)
      · replace h := ifp h qc11
        refine r_iconst (v := 1) dX11_all_45 (by decide) ?_
        obtain ⟨rq13, σ14, qg12, h⟩ := bd2_at h
        refine x_callV (Y := mX11_answer) (d' := 1) dX11_all_46 ml_X11_126 yv_X11_answer (by omega) rfl rfl (by simp [Value.category]) (sR_is rfl rfl) (lc_X11_answer qg12) ?_
        refine r_iret rfl dX11_all_49 ?_
        exact lfI h
      · replace h := ifn h qc11
        refine r_iconst (v := 0) dX11_all_41 (by decide) ?_
        refine r_goto (t := 46) dX11_all_42 (by decide) ?_
        obtain ⟨rq16, σ17, qg15, h⟩ := bd2_at h
        refine x_callV (Y := mX11_answer) (d' := 1) dX11_all_46 ml_X11_126 yv_X11_answer (by omega) rfl rfl (by simp [Value.category]) (sR_is rfl rfl) (lc_X11_answer qg15) ?_
        refine r_iret rfl dX11_all_49 ?_
        exact lfI h
    · replace h := ifp h qc7
      refine r_aload_n dX11_all_23 1 rfl ?_
      refine r_iconst (v := 3) dX11_all_24 (by decide) ?_
      obtain ⟨rq19, σ20, qg18, h⟩ := bd2_at h
      refine x_callV (Y := mX11_refuse) (d' := 1) dX11_all_25 ml_X11_102 yv_X11_refuse (by omega) rfl rfl (by simp [Value.category]) (sR_is rfl rfl) (lc_X11_refuse qg18) ?_
      refine r_iret rfl dX11_all_28 ?_
      exact lfI h
  · replace h := ifn h qm1
    refine x_callV (Y := mX11_complementAt) (d' := 1) dX11_all_2 ml_X11_202 yv_X11_complementAt (by omega) rfl rfl (by simp [Value.category]) (sR_is rfl rfl) (c_X11_complementAtN σ qm1) ?_
    refine r_astore_nN (lo' := [(2, .null), (0, .ref (ad 0)), (1, .int x1)]) dX11_all_5 (by decide) rfl ?_
    refine r_aload_nN dX11_all_6 0 rfl ?_
    refine r_ifnonnullN dX11_all_7 ?_
    refine r_aload_n dX11_all_10 1 rfl ?_
    refine r_iconst (v := 1) dX11_all_11 (by decide) ?_
    obtain ⟨rq22, σ23, qg21, h⟩ := bd2_at h
    refine x_callV (Y := mX11_refuse) (d' := 1) dX11_all_12 ml_X11_102 yv_X11_refuse (by omega) rfl rfl (by simp [Value.category]) (sR_is rfl rfl) (lc_X11_refuse qg21) ?_
    refine r_iret rfl dX11_all_15 ?_
    exact lfI h
set_option maxRecDepth 8000 in
theorem lc_X11_all {ad : Nat → Nat} {x1 : Int32} {σ τ : sS} {r : Int32} (h : L_X11_all x1 σ = some (r, τ)) : ab_X (sR ad) 12 mX11_all [.ref (ad 0), .int x1] σ (some (.int r)) τ := ab_X.of (by decide) (Nat.le_of_ble_eq_true rfl) (e_X11_all h)
set_option maxRecDepth 8000 in
noncomputable def L_X11_within (x1 : Int32) (x2 : Int32) (σ : sS) : Option (Int32 × sS) := if q_at σ x1 = true then (bnd (27 + x1.toNatClampNeg) (fun ia2 => grd (isAu ia2) (if q_at σ x2 = true then (bnd (33 + x2.toNatClampNeg) (fun ic5 => grd (isCo ic5) (bd2 (L_X1_stands ic5 σ) (fun rq8 σ9 => if rq8 = 0 then (bd2 (L_X11_refuse 3 σ9) (fun rq12 σ13 => some ((rq12, σ13)))) else (bd2 (L_X10_meetAll ia2 ic5 σ9) (fun rq15 σ16 => if rq15 = 0 then (bd2 (L_X11_refuse 3 σ16) (fun rq30 σ31 => some ((rq30, σ31)))) else (bnd (uI σ16 0 11 (vI σ16 50 8)) (fun σ18 => bd2 (L_sh2 σ18) (fun rq20 σ21 => if rq20 = 0 then (bd2 (L_X11_answer 1 σ21) (fun rq24 σ25 => some ((rq24, σ25)))) else (bd2 (L_X11_answer 0 σ21) (fun rq27 σ28 => some ((rq27, σ28))))))))))))) else (bd2 (L_X11_refuse 1 σ) (fun rq33 σ34 => some ((rq33, σ34))))))) else (if q_at σ x2 = true then (bnd (33 + x2.toNatClampNeg) (fun ic36 => grd (isCo ic36) (bd2 (L_X11_refuse 1 σ) (fun rq39 σ40 => some ((rq39, σ40)))))) else (bd2 (L_X11_refuse 1 σ) (fun rq42 σ43 => some ((rq42, σ43)))))
set_option maxRecDepth 8000 in
theorem e_X11_within {ad : Nat → Nat} {x1 : Int32} {x2 : Int32} {σ : sS} {z : (Int32 × sS)} (h : L_X11_within x1 x2 σ = some z) : ab_E (sR ad) mX11_within 12 0 [(0, .ref (ad 0)), (1, .int x1), (2, .int x2)] [] σ (fun r9 σ9 => r9 = some (.int z.1) ∧ σ9 = z.2) := by
  unfold L_X11_within at h
  refine r_aload_n dX11_within_0 0 rfl ?_
  refine r_iload_n dX11_within_1 1 rfl ?_
  by_cases qm1 : q_at σ x1 = true
  · replace h := ifp h qm1
    refine x_callV (Y := mX11_machineAt) (d' := 1) dX11_within_2 ml_X11_138 yv_X11_machineAt (by omega) rfl rfl (by simp [Value.category]) (sR_is rfl rfl) (c_X11_machineAt σ qm1) ?_
    refine r_topr (fun ia2 eia2 => ?_)
    replace h := bnd_at h eia2
    obtain ⟨qg3, h⟩ := grd_at h
    refine r_astore_n (lo' := [(3, .ref (ad ia2)), (0, .ref (ad 0)), (1, .int x1), (2, .int x2)]) dX11_within_5 (by decide) rfl ?_
    refine r_aload_n dX11_within_6 1 rfl ?_
    refine r_iload_n dX11_within_7 3 rfl ?_
    by_cases qm4 : q_at σ x2 = true
    · replace h := ifp h qm4
      refine x_callV (Y := mX11_complementAt) (d' := 1) dX11_within_8 ml_X11_202 yv_X11_complementAt (by omega) rfl rfl (by simp [Value.category]) (sR_is rfl rfl) (c_X11_complementAt σ qm4) ?_
      refine r_topr (fun ic5 eic5 => ?_)
      replace h := bnd_at h eic5
      obtain ⟨qg6, h⟩ := grd_at h
      refine r_astore (lo' := [(4, .ref (ad ic5)), (3, .ref (ad ia2)), (0, .ref (ad 0)), (1, .int x1), (2, .int x2)]) dX11_within_11 (by decide) rfl ?_
      refine r_aload_n dX11_within_13 1 rfl ?_
      refine r_ifnull dX11_within_14 ?_
      refine r_aload dX11_within_17 0 rfl ?_
      refine r_ifnonnull (t := 28) dX11_within_19 (by decide) ?_
      refine r_aload dX11_within_28 0 rfl ?_
      obtain ⟨rq8, σ9, qg7, h⟩ := bd2_at h
      refine x_callV (Y := mX1_stands) (d' := 10) dX11_within_30 ml_X11_206 yv_X1_stands (by omega) rfl rfl (by simp [Value.category]) (sR_is (isCo_of qg6) rfl) (lc_X1_stands (isCo_of qg6) qg7) ?_
      refine r_if_eq (t := 49) dX11_within_33 (by decide) (fun qc10 => ?_) (fun qc10 => ?_)
      · replace h := ifp h qc10
        refine r_aload_n dX11_within_49 2 rfl ?_
        refine r_iconst (v := 3) dX11_within_50 (by decide) ?_
        obtain ⟨rq12, σ13, qg11, h⟩ := bd2_at h
        refine x_callV (Y := mX11_refuse) (d' := 1) dX11_within_51 ml_X11_102 yv_X11_refuse (by omega) rfl rfl (by simp [Value.category]) (sR_is rfl rfl) (lc_X11_refuse qg11) ?_
        refine r_iret rfl dX11_within_54 ?_
        exact lfI h
      · replace h := ifn h qc10
        refine r_aload_n dX11_within_36 2 rfl ?_
        refine s_getR (b := 50) ok_X11 dX11_within_37 (k := 7) (by decide) fl_X11_83 rfl rfl rfl ?_
        refine r_aload_n dX11_within_40 1 rfl ?_
        refine r_aload dX11_within_41 0 rfl ?_
        obtain ⟨rq15, σ16, qg14, h⟩ := bd2_at h
        refine x_callV (Y := mX10_meetAll) (d' := 6) dX11_within_43 ml_X11_260 yv_X10_meetAll (by omega) rfl rfl (by simp [Value.category]) (sR_is rfl rfl) (lc_X10_meetAll (isAu_of qg3) (isCo_of qg6) qg14) ?_
        refine r_if_ne (t := 55) dX11_within_46 (by decide) (fun qc17 => ?_) (fun qc17 => ?_)
        · replace h := ifn h qc17
          refine r_aload_n dX11_within_55 2 rfl ?_
          refine r_aload_n dX11_within_56 2 rfl ?_
          refine s_getR (b := 50) ok_X11 dX11_within_57 (k := 7) (by decide) fl_X11_83 rfl rfl rfl ?_
          refine s_getI ok_X10 dX11_within_60 (k := 8) (by decide) fl_X11_264 rfl rfl ?_
          refine s_putI ok_X11 dX11_within_63 (k := 11) (by decide) fl_X11_265 rfl rfl rfl rfl rfl ?_
          refine r_st (fun σ18 eσ18 => ?_)
          replace h := bnd_at h eσ18
          refine r_aload_n dX11_within_66 2 rfl ?_
          refine r_aload_n dX11_within_67 2 rfl ?_
          refine s_getR (b := 56) ok_X11 dX11_within_68 (k := 8) (by decide) fl_X11_56 rfl rfl rfl ?_
          refine r_aload_n dX11_within_71 2 rfl ?_
          refine s_getR (b := 50) ok_X11 dX11_within_72 (k := 7) (by decide) fl_X11_83 rfl rfl rfl ?_
          obtain ⟨rq20, σ21, qg19, h⟩ := bd2_at h
          refine x_callV (Y := mX8_show) (d' := 11) dX11_within_75 ml_X11_256 yv_X8_show (by omega) rfl rfl (by simp [Value.category]) (sR_is rfl rfl) (lc_sh2 qg19) ?_
          refine r_if_eq (t := 85) dX11_within_78 (by decide) (fun qc22 => ?_) (fun qc22 => ?_)
          · replace h := ifp h qc22
            refine r_iconst (v := 1) dX11_within_85 (by decide) ?_
            obtain ⟨rq24, σ25, qg23, h⟩ := bd2_at h
            refine x_callV (Y := mX11_answer) (d' := 1) dX11_within_86 ml_X11_126 yv_X11_answer (by omega) rfl rfl (by simp [Value.category]) (sR_is rfl rfl) (lc_X11_answer qg23) ?_
            refine r_iret rfl dX11_within_89 ?_
            exact lfI h
          · replace h := ifn h qc22
            refine r_iconst (v := 0) dX11_within_81 (by decide) ?_
            refine r_goto (t := 86) dX11_within_82 (by decide) ?_
            obtain ⟨rq27, σ28, qg26, h⟩ := bd2_at h
            refine x_callV (Y := mX11_answer) (d' := 1) dX11_within_86 ml_X11_126 yv_X11_answer (by omega) rfl rfl (by simp [Value.category]) (sR_is rfl rfl) (lc_X11_answer qg26) ?_
            refine r_iret rfl dX11_within_89 ?_
            exact lfI h
        · replace h := ifp h qc17
          refine r_aload_n dX11_within_49 2 rfl ?_
          refine r_iconst (v := 3) dX11_within_50 (by decide) ?_
          obtain ⟨rq30, σ31, qg29, h⟩ := bd2_at h
          refine x_callV (Y := mX11_refuse) (d' := 1) dX11_within_51 ml_X11_102 yv_X11_refuse (by omega) rfl rfl (by simp [Value.category]) (sR_is rfl rfl) (lc_X11_refuse qg29) ?_
          refine r_iret rfl dX11_within_54 ?_
          exact lfI h
    · replace h := ifn h qm4
      refine x_callV (Y := mX11_complementAt) (d' := 1) dX11_within_8 ml_X11_202 yv_X11_complementAt (by omega) rfl rfl (by simp [Value.category]) (sR_is rfl rfl) (c_X11_complementAtN σ qm4) ?_
      refine r_astoreN (lo' := [(4, .null), (3, .ref (ad ia2)), (0, .ref (ad 0)), (1, .int x1), (2, .int x2)]) dX11_within_11 (by decide) rfl ?_
      refine r_aload_n dX11_within_13 1 rfl ?_
      refine r_ifnull dX11_within_14 ?_
      refine r_aloadN dX11_within_17 0 rfl ?_
      refine r_ifnonnullN dX11_within_19 ?_
      refine r_aload_n dX11_within_22 2 rfl ?_
      refine r_iconst (v := 1) dX11_within_23 (by decide) ?_
      obtain ⟨rq33, σ34, qg32, h⟩ := bd2_at h
      refine x_callV (Y := mX11_refuse) (d' := 1) dX11_within_24 ml_X11_102 yv_X11_refuse (by omega) rfl rfl (by simp [Value.category]) (sR_is rfl rfl) (lc_X11_refuse qg32) ?_
      refine r_iret rfl dX11_within_27 ?_
      exact lfI h
  · replace h := ifn h qm1
    refine x_callV (Y := mX11_machineAt) (d' := 1) dX11_within_2 ml_X11_138 yv_X11_machineAt (by omega) rfl rfl (by simp [Value.category]) (sR_is rfl rfl) (c_X11_machineAtN σ qm1) ?_
    refine r_astore_nN (lo' := [(3, .null), (0, .ref (ad 0)), (1, .int x1), (2, .int x2)]) dX11_within_5 (by decide) rfl ?_
    refine r_aload_n dX11_within_6 1 rfl ?_
    refine r_iload_n dX11_within_7 3 rfl ?_
    by_cases qm35 : q_at σ x2 = true
    · replace h := ifp h qm35
      refine x_callV (Y := mX11_complementAt) (d' := 1) dX11_within_8 ml_X11_202 yv_X11_complementAt (by omega) rfl rfl (by simp [Value.category]) (sR_is rfl rfl) (c_X11_complementAt σ qm35) ?_
      refine r_topr (fun ic36 eic36 => ?_)
      replace h := bnd_at h eic36
      obtain ⟨qg37, h⟩ := grd_at h
      refine r_astore (lo' := [(4, .ref (ad ic36)), (3, .null), (0, .ref (ad 0)), (1, .int x1), (2, .int x2)]) dX11_within_11 (by decide) rfl ?_
      refine r_aload_nN dX11_within_13 1 rfl ?_
      refine r_ifnullN (t := 22) dX11_within_14 (by decide) ?_
      refine r_aload_n dX11_within_22 2 rfl ?_
      refine r_iconst (v := 1) dX11_within_23 (by decide) ?_
      obtain ⟨rq39, σ40, qg38, h⟩ := bd2_at h
      refine x_callV (Y := mX11_refuse) (d' := 1) dX11_within_24 ml_X11_102 yv_X11_refuse (by omega) rfl rfl (by simp [Value.category]) (sR_is rfl rfl) (lc_X11_refuse qg38) ?_
      refine r_iret rfl dX11_within_27 ?_
      exact lfI h
    · replace h := ifn h qm35
      refine x_callV (Y := mX11_complementAt) (d' := 1) dX11_within_8 ml_X11_202 yv_X11_complementAt (by omega) rfl rfl (by simp [Value.category]) (sR_is rfl rfl) (c_X11_complementAtN σ qm35) ?_
      refine r_astoreN (lo' := [(4, .null), (3, .null), (0, .ref (ad 0)), (1, .int x1), (2, .int x2)]) dX11_within_11 (by decide) rfl ?_
      refine r_aload_nN dX11_within_13 1 rfl ?_
      refine r_ifnullN (t := 22) dX11_within_14 (by decide) ?_
      refine r_aload_n dX11_within_22 2 rfl ?_
      refine r_iconst (v := 1) dX11_within_23 (by decide) ?_
      obtain ⟨rq42, σ43, qg41, h⟩ := bd2_at h
      refine x_callV (Y := mX11_refuse) (d' := 1) dX11_within_24 ml_X11_102 yv_X11_refuse (by omega) rfl rfl (by simp [Value.category]) (sR_is rfl rfl) (lc_X11_refuse qg41) ?_
      refine r_iret rfl dX11_within_27 ?_
      exact lfI h
set_option maxRecDepth 8000 in
theorem lc_X11_within {ad : Nat → Nat} {x1 : Int32} {x2 : Int32} {σ τ : sS} {r : Int32} (h : L_X11_within x1 x2 σ = some (r, τ)) : ab_X (sR ad) 12 mX11_within [.ref (ad 0), .int x1, .int x2] σ (some (.int r)) τ := ab_X.of (by decide) (Nat.le_of_ble_eq_true rfl) (e_X11_within h)
set_option maxRecDepth 8000 in
noncomputable def L_X11_met (σ : sS) : Int32 := vI σ 0 11
set_option maxRecDepth 8000 in
theorem e_X11_met {ad : Nat → Nat}  {σ : sS} {z : Int32} (h : L_X11_met σ = z) : ab_E (sR ad) mX11_met 1 0 [(0, .ref (ad 0))] [] σ (fun r9 σ9 => r9 = some (.int z) ∧ σ9 = σ) := by
  unfold L_X11_met at h
  refine r_aload_n dX11_met_0 0 rfl ?_
  refine s_getI ok_X11 dX11_met_1 (k := 11) (by decide) fl_X11_265 rfl rfl ?_
  refine r_iret rfl dX11_met_4 ?_
  exact lfT h
set_option maxRecDepth 8000 in
theorem lc_X11_met {ad : Nat → Nat}  (σ : sS) : ab_X (sR ad) 1 mX11_met [.ref (ad 0)] σ (some (.int (L_X11_met σ))) σ := ab_X.of (by decide) (Nat.le_of_ble_eq_true rfl) (e_X11_met rfl)
set_option maxRecDepth 8000 in
noncomputable def L_X11_shown (x1 : Int32) (σ : sS) : Option (Int32 × sS) := if x1 < 0 then (bd2 (L_X11_refuse 1 σ) (fun rq3 σ4 => some ((rq3, σ4)))) else (if x1 ≤ 1 then (if (vI σ 56 6) = 0 then (bd2 (L_X11_answer (-2) σ) (fun rq15 σ16 => some ((rq15, σ16)))) else (if x1 = 0 then (bd2 (L_X11_answer (vI σ 56 7) σ) (fun rq12 σ13 => some ((rq12, σ13)))) else (bd2 (L_X11_answer (vI σ 56 8) σ) (fun rq9 σ10 => some ((rq9, σ10)))))) else (bd2 (L_X11_refuse 1 σ) (fun rq18 σ19 => some ((rq18, σ19)))))
set_option maxRecDepth 8000 in
theorem e_X11_shown {ad : Nat → Nat} {x1 : Int32} {σ : sS} {z : (Int32 × sS)} (h : L_X11_shown x1 σ = some z) : ab_E (sR ad) mX11_shown 2 0 [(0, .ref (ad 0)), (1, .int x1)] [] σ (fun r9 σ9 => r9 = some (.int z.1) ∧ σ9 = z.2) := by
  unfold L_X11_shown at h
  refine r_iload_n dX11_shown_0 1 rfl ?_
  refine r_if_lt (t := 9) dX11_shown_1 (by decide) (fun qc1 => ?_) (fun qc1 => ?_)
  · replace h := ifp h qc1
    refine r_aload_n dX11_shown_9 0 rfl ?_
    refine r_iconst (v := 1) dX11_shown_10 (by decide) ?_
    obtain ⟨rq3, σ4, qg2, h⟩ := bd2_at h
    refine x_callV (Y := mX11_refuse) (d' := 1) dX11_shown_11 ml_X11_102 yv_X11_refuse (by omega) rfl rfl (by simp [Value.category]) (sR_is rfl rfl) (lc_X11_refuse qg2) ?_
    refine r_iret rfl dX11_shown_14 ?_
    exact lfI h
  · replace h := ifn h qc1
    refine r_iload_n dX11_shown_4 1 rfl ?_
    refine r_iconst (v := 1) dX11_shown_5 (by decide) ?_
    refine r_icmp_le (t := 15) dX11_shown_6 (by decide) (fun qc5 => ?_) (fun qc5 => ?_)
    · replace h := ifp h qc5
      refine r_aload_n dX11_shown_15 0 rfl ?_
      refine s_getR (b := 56) ok_X11 dX11_shown_16 (k := 8) (by decide) fl_X11_56 rfl rfl rfl ?_
      refine s_getI ok_X8 dX11_shown_19 (k := 6) (by decide) fl_X11_268 rfl rfl ?_
      refine r_if_ne (t := 32) dX11_shown_22 (by decide) (fun qc6 => ?_) (fun qc6 => ?_)
      · replace h := ifn h qc6
        refine r_aload_n dX11_shown_32 0 rfl ?_
        refine r_iload_n dX11_shown_33 1 rfl ?_
        refine r_if_ne (t := 47) dX11_shown_34 (by decide) (fun qc7 => ?_) (fun qc7 => ?_)
        · replace h := ifn h qc7
          refine r_aload_n dX11_shown_47 0 rfl ?_
          refine s_getR (b := 56) ok_X11 dX11_shown_48 (k := 8) (by decide) fl_X11_56 rfl rfl rfl ?_
          refine s_getI ok_X8 dX11_shown_51 (k := 8) (by decide) fl_X11_275 rfl rfl ?_
          obtain ⟨rq9, σ10, qg8, h⟩ := bd2_at h
          refine x_callV (Y := mX11_answer) (d' := 1) dX11_shown_54 ml_X11_126 yv_X11_answer (by omega) rfl rfl (by simp [Value.category]) (sR_is rfl rfl) (lc_X11_answer qg8) ?_
          refine r_iret rfl dX11_shown_57 ?_
          exact lfI h
        · replace h := ifp h qc7
          refine r_aload_n dX11_shown_37 0 rfl ?_
          refine s_getR (b := 56) ok_X11 dX11_shown_38 (k := 8) (by decide) fl_X11_56 rfl rfl rfl ?_
          refine s_getI ok_X8 dX11_shown_41 (k := 7) (by decide) fl_X11_272 rfl rfl ?_
          refine r_goto (t := 54) dX11_shown_44 (by decide) ?_
          obtain ⟨rq12, σ13, qg11, h⟩ := bd2_at h
          refine x_callV (Y := mX11_answer) (d' := 1) dX11_shown_54 ml_X11_126 yv_X11_answer (by omega) rfl rfl (by simp [Value.category]) (sR_is rfl rfl) (lc_X11_answer qg11) ?_
          refine r_iret rfl dX11_shown_57 ?_
          exact lfI h
      · replace h := ifp h qc6
        refine r_aload_n dX11_shown_25 0 rfl ?_
        refine r_bipush (v := (-2)) dX11_shown_26 (by decide) ?_
        obtain ⟨rq15, σ16, qg14, h⟩ := bd2_at h
        refine x_callV (Y := mX11_answer) (d' := 1) dX11_shown_28 ml_X11_126 yv_X11_answer (by omega) rfl rfl (by simp [Value.category]) (sR_is rfl rfl) (lc_X11_answer qg14) ?_
        refine r_iret rfl dX11_shown_31 ?_
        exact lfI h
    · replace h := ifn h qc5
      refine r_aload_n dX11_shown_9 0 rfl ?_
      refine r_iconst (v := 1) dX11_shown_10 (by decide) ?_
      obtain ⟨rq18, σ19, qg17, h⟩ := bd2_at h
      refine x_callV (Y := mX11_refuse) (d' := 1) dX11_shown_11 ml_X11_102 yv_X11_refuse (by omega) rfl rfl (by simp [Value.category]) (sR_is rfl rfl) (lc_X11_refuse qg17) ?_
      refine r_iret rfl dX11_shown_14 ?_
      exact lfI h
set_option maxRecDepth 8000 in
theorem lc_X11_shown {ad : Nat → Nat} {x1 : Int32} {σ τ : sS} {r : Int32} (h : L_X11_shown x1 σ = some (r, τ)) : ab_X (sR ad) 2 mX11_shown [.ref (ad 0), .int x1] σ (some (.int r)) τ := ab_X.of (by decide) (Nat.le_of_ble_eq_true rfl) (e_X11_shown h)
set_option maxRecDepth 8000 in
noncomputable def L_X11_changed (x1 : Int32) (σ : sS) : Option sS := if q_at σ x1 = true then (bnd (33 + x1.toNatClampNeg) (fun ic2 => grd (isCo ic2) (bnd (uI σ ic2 6 0) (fun σ4 => some σ4)))) else (some σ)
set_option maxRecDepth 8000 in
theorem e_X11_changed {ad : Nat → Nat} {x1 : Int32} {σ : sS} {z : sS} (h : L_X11_changed x1 σ = some z) : ab_E (sR ad) mX11_changed 2 0 [(0, .ref (ad 0)), (1, .int x1)] [] σ (fun r9 σ9 => r9 = none ∧ σ9 = z) := by
  unfold L_X11_changed at h
  refine r_aload_n dX11_changed_0 0 rfl ?_
  refine r_iload_n dX11_changed_1 1 rfl ?_
  by_cases qm1 : q_at σ x1 = true
  · replace h := ifp h qm1
    refine x_callV (Y := mX11_complementAt) (d' := 1) dX11_changed_2 ml_X11_202 yv_X11_complementAt (by omega) rfl rfl (by simp [Value.category]) (sR_is rfl rfl) (c_X11_complementAt σ qm1) ?_
    refine r_topr (fun ic2 eic2 => ?_)
    replace h := bnd_at h eic2
    obtain ⟨qg3, h⟩ := grd_at h
    refine r_astore_n (lo' := [(2, .ref (ad ic2)), (0, .ref (ad 0)), (1, .int x1)]) dX11_changed_5 (by decide) rfl ?_
    refine r_aload_n dX11_changed_6 0 rfl ?_
    refine r_ifnull dX11_changed_7 ?_
    refine r_aload_n dX11_changed_10 0 rfl ?_
    refine x_callV0 (Y := mX1_forget) (d' := 1) dX11_changed_11 ml_X11_123 yv_X1_forget (by omega) rfl rfl (by simp [Value.category]) (sR_is (isCo_of qg3) rfl) (c_X1_forget σ (isCo_of qg3)) ?_
    refine r_st (fun σ4 eσ4 => ?_)
    replace h := bnd_at h eσ4
    refine r_vret rfl dX11_changed_14 ?_
    exact lfV h
  · replace h := ifn h qm1
    refine x_callV (Y := mX11_complementAt) (d' := 1) dX11_changed_2 ml_X11_202 yv_X11_complementAt (by omega) rfl rfl (by simp [Value.category]) (sR_is rfl rfl) (c_X11_complementAtN σ qm1) ?_
    refine r_astore_nN (lo' := [(2, .null), (0, .ref (ad 0)), (1, .int x1)]) dX11_changed_5 (by decide) rfl ?_
    refine r_aload_nN dX11_changed_6 0 rfl ?_
    refine r_ifnullN (t := 14) dX11_changed_7 (by decide) ?_
    refine r_vret rfl dX11_changed_14 ?_
    exact lfV h
set_option maxRecDepth 8000 in
theorem lc_X11_changed {ad : Nat → Nat} {x1 : Int32} {σ τ : sS} (h : L_X11_changed x1 σ = some τ) : ab_X (sR ad) 2 mX11_changed [.ref (ad 0), .int x1] σ none τ := ab_X.of (by decide) (Nat.le_of_ble_eq_true rfl) (e_X11_changed h)
set_option maxRecDepth 8000 in
noncomputable def L_X11_link (x1 : Int32) (x2 : Int32) (x3 : Int32) (x4 : Int32) (x5 : Int32) (σ : sS) : Option (Int32 × sS) := if q_at σ x1 = true then (bnd (27 + x1.toNatClampNeg) (fun ia2 => grd (isAu ia2) (if (a_ha σ ia2 x2 x3 x4) = 0 then (bd2 (L_X11_refuse 1 σ) (fun rq16 σ17 => some ((rq16, σ17)))) else (if (a_jn σ ia2 x2 x3 x4) = x5 then (bd2 (L_X11_refuse 5 σ) (fun rq13 σ14 => some ((rq13, σ14)))) else (bnd (a_sa σ ia2 x2 x3 x4 x5) (fun σ6 => bd (L_X11_changed x1 σ6) (fun σ8 => bd2 (L_X11_answer (a_ct σ8 ia2) σ8) (fun rq10 σ11 => some ((rq10, σ11)))))))))) else (bd2 (L_X11_refuse 1 σ) (fun rq19 σ20 => some ((rq19, σ20))))
set_option maxRecDepth 8000 in
theorem e_X11_link {ad : Nat → Nat} {x1 : Int32} {x2 : Int32} {x3 : Int32} {x4 : Int32} {x5 : Int32} {σ : sS} {z : (Int32 × sS)} (h : L_X11_link x1 x2 x3 x4 x5 σ = some z) : ab_E (sR ad) mX11_link 4 0 [(0, .ref (ad 0)), (1, .int x1), (2, .int x2), (3, .int x3), (4, .int x4), (5, .int x5)] [] σ (fun r9 σ9 => r9 = some (.int z.1) ∧ σ9 = z.2) := by
  unfold L_X11_link at h
  refine r_aload_n dX11_link_0 0 rfl ?_
  refine r_iload_n dX11_link_1 1 rfl ?_
  by_cases qm1 : q_at σ x1 = true
  · replace h := ifp h qm1
    refine x_callV (Y := mX11_machineAt) (d' := 1) dX11_link_2 ml_X11_138 yv_X11_machineAt (by omega) rfl rfl (by simp [Value.category]) (sR_is rfl rfl) (c_X11_machineAt σ qm1) ?_
    refine r_topr (fun ia2 eia2 => ?_)
    replace h := bnd_at h eia2
    obtain ⟨qg3, h⟩ := grd_at h
    refine r_astore (lo' := [(6, .ref (ad ia2)), (0, .ref (ad 0)), (1, .int x1), (2, .int x2), (3, .int x3), (4, .int x4), (5, .int x5)]) dX11_link_5 (by decide) rfl ?_
    refine r_aload dX11_link_7 0 rfl ?_
    refine r_ifnull dX11_link_9 ?_
    refine r_aload dX11_link_12 0 rfl ?_
    refine r_iload_n dX11_link_14 3 rfl ?_
    refine r_iload_n dX11_link_15 4 rfl ?_
    refine r_iload dX11_link_16 5 rfl ?_
    refine x_callV (Y := mX0_hasArrow) (d' := 2) dX11_link_18 ml_X11_158 yv_X0_hasArrow (by omega) rfl rfl (by simp [Value.category]) (sR_is (isAu_of qg3) rfl) (c_X0_hasArrow σ (isAu_of qg3) x2 x3 x4) ?_
    refine r_if_ne (t := 30) dX11_link_21 (by decide) (fun qc4 => ?_) (fun qc4 => ?_)
    · replace h := ifn h qc4
      refine r_aload dX11_link_30 0 rfl ?_
      refine r_iload_n dX11_link_32 3 rfl ?_
      refine r_iload_n dX11_link_33 4 rfl ?_
      refine r_iload dX11_link_34 5 rfl ?_
      refine x_callV (Y := mX0_joins) (d' := 3) dX11_link_36 ml_X11_162 yv_X0_joins (by omega) rfl rfl (by simp [Value.category]) (sR_is (isAu_of qg3) rfl) (c_X0_joins σ (isAu_of qg3) x2 x3 x4) ?_
      refine r_iload dX11_link_39 6 rfl ?_
      refine r_icmp_ne (t := 50) dX11_link_41 (by decide) (fun qc5 => ?_) (fun qc5 => ?_)
      · replace h := ifn h qc5
        refine r_aload dX11_link_50 0 rfl ?_
        refine r_iload_n dX11_link_52 3 rfl ?_
        refine r_iload_n dX11_link_53 4 rfl ?_
        refine r_iload dX11_link_54 5 rfl ?_
        refine r_iload dX11_link_56 6 rfl ?_
        refine x_callV0 (Y := mX0_setArrow) (d' := 3) dX11_link_58 ml_X11_287 yv_X0_setArrow (by omega) rfl rfl (by simp [Value.category]) (sR_is (isAu_of qg3) rfl) (c_X0_setArrow σ (isAu_of qg3) x2 x3 x4 x5) ?_
        refine r_st (fun σ6 eσ6 => ?_)
        replace h := bnd_at h eσ6
        refine r_aload_n dX11_link_61 1 rfl ?_
        refine r_iload_n dX11_link_62 2 rfl ?_
        obtain ⟨σ8, qg7, h⟩ := bd_at h
        refine x_callV0 (Y := mX11_changed) (d' := 2) dX11_link_63 ml_X11_291 yv_X11_changed (by omega) rfl rfl (by simp [Value.category]) (sR_is rfl rfl) (lc_X11_changed qg7) ?_
        refine r_aload_n dX11_link_66 1 rfl ?_
        refine r_aload dX11_link_67 0 rfl ?_
        refine x_callV (Y := mX0_arrowCount) (d' := 2) dX11_link_69 ml_X11_151 yv_X0_arrowCount (by omega) rfl rfl (by simp [Value.category]) (sR_is (isAu_of qg3) rfl) (c_X0_arrowCount σ8 (isAu_of qg3)) ?_
        obtain ⟨rq10, σ11, qg9, h⟩ := bd2_at h
        refine x_callV (Y := mX11_answer) (d' := 1) dX11_link_72 ml_X11_126 yv_X11_answer (by omega) rfl rfl (by simp [Value.category]) (sR_is rfl rfl) (lc_X11_answer qg9) ?_
        refine r_iret rfl dX11_link_75 ?_
        exact lfI h
      · replace h := ifp h qc5
        refine r_aload_n dX11_link_44 1 rfl ?_
        refine r_iconst (v := 5) dX11_link_45 (by decide) ?_
        obtain ⟨rq13, σ14, qg12, h⟩ := bd2_at h
        refine x_callV (Y := mX11_refuse) (d' := 1) dX11_link_46 ml_X11_102 yv_X11_refuse (by omega) rfl rfl (by simp [Value.category]) (sR_is rfl rfl) (lc_X11_refuse qg12) ?_
        refine r_iret rfl dX11_link_49 ?_
        exact lfI h
    · replace h := ifp h qc4
      refine r_aload_n dX11_link_24 1 rfl ?_
      refine r_iconst (v := 1) dX11_link_25 (by decide) ?_
      obtain ⟨rq16, σ17, qg15, h⟩ := bd2_at h
      refine x_callV (Y := mX11_refuse) (d' := 1) dX11_link_26 ml_X11_102 yv_X11_refuse (by omega) rfl rfl (by simp [Value.category]) (sR_is rfl rfl) (lc_X11_refuse qg15) ?_
      refine r_iret rfl dX11_link_29 ?_
      exact lfI h
  · replace h := ifn h qm1
    refine x_callV (Y := mX11_machineAt) (d' := 1) dX11_link_2 ml_X11_138 yv_X11_machineAt (by omega) rfl rfl (by simp [Value.category]) (sR_is rfl rfl) (c_X11_machineAtN σ qm1) ?_
    refine r_astoreN (lo' := [(6, .null), (0, .ref (ad 0)), (1, .int x1), (2, .int x2), (3, .int x3), (4, .int x4), (5, .int x5)]) dX11_link_5 (by decide) rfl ?_
    refine r_aloadN dX11_link_7 0 rfl ?_
    refine r_ifnullN (t := 24) dX11_link_9 (by decide) ?_
    refine r_aload_n dX11_link_24 1 rfl ?_
    refine r_iconst (v := 1) dX11_link_25 (by decide) ?_
    obtain ⟨rq19, σ20, qg18, h⟩ := bd2_at h
    refine x_callV (Y := mX11_refuse) (d' := 1) dX11_link_26 ml_X11_102 yv_X11_refuse (by omega) rfl rfl (by simp [Value.category]) (sR_is rfl rfl) (lc_X11_refuse qg18) ?_
    refine r_iret rfl dX11_link_29 ?_
    exact lfI h
set_option maxRecDepth 8000 in
theorem lc_X11_link {ad : Nat → Nat} {x1 : Int32} {x2 : Int32} {x3 : Int32} {x4 : Int32} {x5 : Int32} {σ τ : sS} {r : Int32} (h : L_X11_link x1 x2 x3 x4 x5 σ = some (r, τ)) : ab_X (sR ad) 4 mX11_link [.ref (ad 0), .int x1, .int x2, .int x3, .int x4, .int x5] σ (some (.int r)) τ := ab_X.of (by decide) (Nat.le_of_ble_eq_true rfl) (e_X11_link h)
set_option maxRecDepth 8000 in
noncomputable def L_X11_mark (x1 : Int32) (x2 : Int32) (x3 : Int32) (σ : sS) : Option (Int32 × sS) := if q_at σ x1 = true then (bnd (27 + x1.toNatClampNeg) (fun ia2 => grd (isAu ia2) (if (a_hs σ ia2 x2) = 0 then (bd2 (L_X11_refuse 1 σ) (fun rq16 σ17 => some ((rq16, σ17)))) else (if (q_in x2 (vI σ ia2 4)) = x3 then (bd2 (L_X11_refuse 5 σ) (fun rq13 σ14 => some ((rq13, σ14)))) else (bnd (uI σ ia2 4 ((vI σ ia2 4) ^^^ ((1 : Int32) <<< (x2 &&& 31)))) (fun σ6 => bd (L_X11_changed x1 σ6) (fun σ8 => bd2 (L_X11_answer (vI σ8 ia2 4) σ8) (fun rq10 σ11 => some ((rq10, σ11)))))))))) else (bd2 (L_X11_refuse 1 σ) (fun rq19 σ20 => some ((rq19, σ20))))
set_option maxRecDepth 8000 in
theorem e_X11_mark {ad : Nat → Nat} {x1 : Int32} {x2 : Int32} {x3 : Int32} {σ : sS} {z : (Int32 × sS)} (h : L_X11_mark x1 x2 x3 σ = some z) : ab_E (sR ad) mX11_mark 3 0 [(0, .ref (ad 0)), (1, .int x1), (2, .int x2), (3, .int x3)] [] σ (fun r9 σ9 => r9 = some (.int z.1) ∧ σ9 = z.2) := by
  unfold L_X11_mark at h
  refine r_aload_n dX11_mark_0 0 rfl ?_
  refine r_iload_n dX11_mark_1 1 rfl ?_
  by_cases qm1 : q_at σ x1 = true
  · replace h := ifp h qm1
    refine x_callV (Y := mX11_machineAt) (d' := 1) dX11_mark_2 ml_X11_138 yv_X11_machineAt (by omega) rfl rfl (by simp [Value.category]) (sR_is rfl rfl) (c_X11_machineAt σ qm1) ?_
    refine r_topr (fun ia2 eia2 => ?_)
    replace h := bnd_at h eia2
    obtain ⟨qg3, h⟩ := grd_at h
    refine r_astore (lo' := [(4, .ref (ad ia2)), (0, .ref (ad 0)), (1, .int x1), (2, .int x2), (3, .int x3)]) dX11_mark_5 (by decide) rfl ?_
    refine r_aload dX11_mark_7 0 rfl ?_
    refine r_ifnull dX11_mark_9 ?_
    refine r_aload dX11_mark_12 0 rfl ?_
    refine r_iload_n dX11_mark_14 3 rfl ?_
    refine x_callV (Y := mX0_hasState) (d' := 1) dX11_mark_15 ml_X11_189 yv_X0_hasState (by omega) rfl rfl (by simp [Value.category]) (sR_is (isAu_of qg3) rfl) (c_X0_hasState σ (isAu_of qg3) x2) ?_
    refine r_if_ne (t := 27) dX11_mark_18 (by decide) (fun qc4 => ?_) (fun qc4 => ?_)
    · replace h := ifn h qc4
      refine r_iload_n dX11_mark_27 3 rfl ?_
      refine r_aload dX11_mark_28 0 rfl ?_
      refine s_getI ok_X0 dX11_mark_30 (k := 4) (by decide) fl_X11_148 (isAu_of qg3) rfl ?_
      refine x_callS (Y := mX11_isIn) (d' := 1) dX11_mark_33 ml_X11_192 ys_X11_isIn (by omega) rfl rfl (by simp [Value.category]) (c_X11_isIn σ x2 (vI σ ia2 4)) ?_
      refine r_iload_n dX11_mark_36 4 rfl ?_
      refine r_icmp_ne (t := 46) dX11_mark_37 (by decide) (fun qc5 => ?_) (fun qc5 => ?_)
      · replace h := ifn h qc5
        refine r_aload dX11_mark_46 0 rfl ?_
        refine r_dup dX11_mark_48 rfl ?_
        refine s_getI ok_X0 dX11_mark_49 (k := 4) (by decide) fl_X11_148 (isAu_of qg3) rfl ?_
        refine r_iconst (v := 1) dX11_mark_52 (by decide) ?_
        refine r_iload_n dX11_mark_53 3 rfl ?_
        refine r_ishl dX11_mark_54 ?_
        refine r_ixor dX11_mark_55 ?_
        refine s_putI ok_X0 dX11_mark_56 (k := 4) (by decide) fl_X11_148 rfl rfl rfl (isAu_of qg3) rfl ?_
        refine r_st (fun σ6 eσ6 => ?_)
        replace h := bnd_at h eσ6
        refine r_aload_n dX11_mark_59 1 rfl ?_
        refine r_iload_n dX11_mark_60 2 rfl ?_
        obtain ⟨σ8, qg7, h⟩ := bd_at h
        refine x_callV0 (Y := mX11_changed) (d' := 2) dX11_mark_61 ml_X11_291 yv_X11_changed (by omega) rfl rfl (by simp [Value.category]) (sR_is rfl rfl) (lc_X11_changed qg7) ?_
        refine r_aload_n dX11_mark_64 1 rfl ?_
        refine r_aload dX11_mark_65 0 rfl ?_
        refine s_getI ok_X0 dX11_mark_67 (k := 4) (by decide) fl_X11_148 (isAu_of qg3) rfl ?_
        obtain ⟨rq10, σ11, qg9, h⟩ := bd2_at h
        refine x_callV (Y := mX11_answer) (d' := 1) dX11_mark_70 ml_X11_126 yv_X11_answer (by omega) rfl rfl (by simp [Value.category]) (sR_is rfl rfl) (lc_X11_answer qg9) ?_
        refine r_iret rfl dX11_mark_73 ?_
        exact lfI h
      · replace h := ifp h qc5
        refine r_aload_n dX11_mark_40 1 rfl ?_
        refine r_iconst (v := 5) dX11_mark_41 (by decide) ?_
        obtain ⟨rq13, σ14, qg12, h⟩ := bd2_at h
        refine x_callV (Y := mX11_refuse) (d' := 1) dX11_mark_42 ml_X11_102 yv_X11_refuse (by omega) rfl rfl (by simp [Value.category]) (sR_is rfl rfl) (lc_X11_refuse qg12) ?_
        refine r_iret rfl dX11_mark_45 ?_
        exact lfI h
    · replace h := ifp h qc4
      refine r_aload_n dX11_mark_21 1 rfl ?_
      refine r_iconst (v := 1) dX11_mark_22 (by decide) ?_
      obtain ⟨rq16, σ17, qg15, h⟩ := bd2_at h
      refine x_callV (Y := mX11_refuse) (d' := 1) dX11_mark_23 ml_X11_102 yv_X11_refuse (by omega) rfl rfl (by simp [Value.category]) (sR_is rfl rfl) (lc_X11_refuse qg15) ?_
      refine r_iret rfl dX11_mark_26 ?_
      exact lfI h
  · replace h := ifn h qm1
    refine x_callV (Y := mX11_machineAt) (d' := 1) dX11_mark_2 ml_X11_138 yv_X11_machineAt (by omega) rfl rfl (by simp [Value.category]) (sR_is rfl rfl) (c_X11_machineAtN σ qm1) ?_
    refine r_astoreN (lo' := [(4, .null), (0, .ref (ad 0)), (1, .int x1), (2, .int x2), (3, .int x3)]) dX11_mark_5 (by decide) rfl ?_
    refine r_aloadN dX11_mark_7 0 rfl ?_
    refine r_ifnullN (t := 21) dX11_mark_9 (by decide) ?_
    refine r_aload_n dX11_mark_21 1 rfl ?_
    refine r_iconst (v := 1) dX11_mark_22 (by decide) ?_
    obtain ⟨rq19, σ20, qg18, h⟩ := bd2_at h
    refine x_callV (Y := mX11_refuse) (d' := 1) dX11_mark_23 ml_X11_102 yv_X11_refuse (by omega) rfl rfl (by simp [Value.category]) (sR_is rfl rfl) (lc_X11_refuse qg18) ?_
    refine r_iret rfl dX11_mark_26 ?_
    exact lfI h
set_option maxRecDepth 8000 in
theorem lc_X11_mark {ad : Nat → Nat} {x1 : Int32} {x2 : Int32} {x3 : Int32} {σ τ : sS} {r : Int32} (h : L_X11_mark x1 x2 x3 σ = some (r, τ)) : ab_X (sR ad) 3 mX11_mark [.ref (ad 0), .int x1, .int x2, .int x3] σ (some (.int r)) τ := ab_X.of (by decide) (Nat.le_of_ble_eq_true rfl) (e_X11_mark h)
set_option maxRecDepth 8000 in
noncomputable def L_X11_begin (x1 : Int32) (x2 : Int32) (x3 : Int32) (σ : sS) : Option (Int32 × sS) := if q_at σ x1 = true then (bnd (27 + x1.toNatClampNeg) (fun ia2 => grd (isAu ia2) (if (a_hs σ ia2 x2) = 0 then (bd2 (L_X11_refuse 1 σ) (fun rq16 σ17 => some ((rq16, σ17)))) else (if (q_in x2 (vI σ ia2 3)) = x3 then (bd2 (L_X11_refuse 5 σ) (fun rq13 σ14 => some ((rq13, σ14)))) else (bnd (uI σ ia2 3 ((vI σ ia2 3) ^^^ ((1 : Int32) <<< (x2 &&& 31)))) (fun σ6 => bd (L_X11_changed x1 σ6) (fun σ8 => bd2 (L_X11_answer (vI σ8 ia2 3) σ8) (fun rq10 σ11 => some ((rq10, σ11)))))))))) else (bd2 (L_X11_refuse 1 σ) (fun rq19 σ20 => some ((rq19, σ20))))
set_option maxRecDepth 8000 in
theorem e_X11_begin {ad : Nat → Nat} {x1 : Int32} {x2 : Int32} {x3 : Int32} {σ : sS} {z : (Int32 × sS)} (h : L_X11_begin x1 x2 x3 σ = some z) : ab_E (sR ad) mX11_begin 3 0 [(0, .ref (ad 0)), (1, .int x1), (2, .int x2), (3, .int x3)] [] σ (fun r9 σ9 => r9 = some (.int z.1) ∧ σ9 = z.2) := by
  unfold L_X11_begin at h
  refine r_aload_n dX11_begin_0 0 rfl ?_
  refine r_iload_n dX11_begin_1 1 rfl ?_
  by_cases qm1 : q_at σ x1 = true
  · replace h := ifp h qm1
    refine x_callV (Y := mX11_machineAt) (d' := 1) dX11_begin_2 ml_X11_138 yv_X11_machineAt (by omega) rfl rfl (by simp [Value.category]) (sR_is rfl rfl) (c_X11_machineAt σ qm1) ?_
    refine r_topr (fun ia2 eia2 => ?_)
    replace h := bnd_at h eia2
    obtain ⟨qg3, h⟩ := grd_at h
    refine r_astore (lo' := [(4, .ref (ad ia2)), (0, .ref (ad 0)), (1, .int x1), (2, .int x2), (3, .int x3)]) dX11_begin_5 (by decide) rfl ?_
    refine r_aload dX11_begin_7 0 rfl ?_
    refine r_ifnull dX11_begin_9 ?_
    refine r_aload dX11_begin_12 0 rfl ?_
    refine r_iload_n dX11_begin_14 3 rfl ?_
    refine x_callV (Y := mX0_hasState) (d' := 1) dX11_begin_15 ml_X11_189 yv_X0_hasState (by omega) rfl rfl (by simp [Value.category]) (sR_is (isAu_of qg3) rfl) (c_X0_hasState σ (isAu_of qg3) x2) ?_
    refine r_if_ne (t := 27) dX11_begin_18 (by decide) (fun qc4 => ?_) (fun qc4 => ?_)
    · replace h := ifn h qc4
      refine r_iload_n dX11_begin_27 3 rfl ?_
      refine r_aload dX11_begin_28 0 rfl ?_
      refine s_getI ok_X0 dX11_begin_30 (k := 3) (by decide) fl_X11_145 (isAu_of qg3) rfl ?_
      refine x_callS (Y := mX11_isIn) (d' := 1) dX11_begin_33 ml_X11_192 ys_X11_isIn (by omega) rfl rfl (by simp [Value.category]) (c_X11_isIn σ x2 (vI σ ia2 3)) ?_
      refine r_iload_n dX11_begin_36 4 rfl ?_
      refine r_icmp_ne (t := 46) dX11_begin_37 (by decide) (fun qc5 => ?_) (fun qc5 => ?_)
      · replace h := ifn h qc5
        refine r_aload dX11_begin_46 0 rfl ?_
        refine r_dup dX11_begin_48 rfl ?_
        refine s_getI ok_X0 dX11_begin_49 (k := 3) (by decide) fl_X11_145 (isAu_of qg3) rfl ?_
        refine r_iconst (v := 1) dX11_begin_52 (by decide) ?_
        refine r_iload_n dX11_begin_53 3 rfl ?_
        refine r_ishl dX11_begin_54 ?_
        refine r_ixor dX11_begin_55 ?_
        refine s_putI ok_X0 dX11_begin_56 (k := 3) (by decide) fl_X11_145 rfl rfl rfl (isAu_of qg3) rfl ?_
        refine r_st (fun σ6 eσ6 => ?_)
        replace h := bnd_at h eσ6
        refine r_aload_n dX11_begin_59 1 rfl ?_
        refine r_iload_n dX11_begin_60 2 rfl ?_
        obtain ⟨σ8, qg7, h⟩ := bd_at h
        refine x_callV0 (Y := mX11_changed) (d' := 2) dX11_begin_61 ml_X11_291 yv_X11_changed (by omega) rfl rfl (by simp [Value.category]) (sR_is rfl rfl) (lc_X11_changed qg7) ?_
        refine r_aload_n dX11_begin_64 1 rfl ?_
        refine r_aload dX11_begin_65 0 rfl ?_
        refine s_getI ok_X0 dX11_begin_67 (k := 3) (by decide) fl_X11_145 (isAu_of qg3) rfl ?_
        obtain ⟨rq10, σ11, qg9, h⟩ := bd2_at h
        refine x_callV (Y := mX11_answer) (d' := 1) dX11_begin_70 ml_X11_126 yv_X11_answer (by omega) rfl rfl (by simp [Value.category]) (sR_is rfl rfl) (lc_X11_answer qg9) ?_
        refine r_iret rfl dX11_begin_73 ?_
        exact lfI h
      · replace h := ifp h qc5
        refine r_aload_n dX11_begin_40 1 rfl ?_
        refine r_iconst (v := 5) dX11_begin_41 (by decide) ?_
        obtain ⟨rq13, σ14, qg12, h⟩ := bd2_at h
        refine x_callV (Y := mX11_refuse) (d' := 1) dX11_begin_42 ml_X11_102 yv_X11_refuse (by omega) rfl rfl (by simp [Value.category]) (sR_is rfl rfl) (lc_X11_refuse qg12) ?_
        refine r_iret rfl dX11_begin_45 ?_
        exact lfI h
    · replace h := ifp h qc4
      refine r_aload_n dX11_begin_21 1 rfl ?_
      refine r_iconst (v := 1) dX11_begin_22 (by decide) ?_
      obtain ⟨rq16, σ17, qg15, h⟩ := bd2_at h
      refine x_callV (Y := mX11_refuse) (d' := 1) dX11_begin_23 ml_X11_102 yv_X11_refuse (by omega) rfl rfl (by simp [Value.category]) (sR_is rfl rfl) (lc_X11_refuse qg15) ?_
      refine r_iret rfl dX11_begin_26 ?_
      exact lfI h
  · replace h := ifn h qm1
    refine x_callV (Y := mX11_machineAt) (d' := 1) dX11_begin_2 ml_X11_138 yv_X11_machineAt (by omega) rfl rfl (by simp [Value.category]) (sR_is rfl rfl) (c_X11_machineAtN σ qm1) ?_
    refine r_astoreN (lo' := [(4, .null), (0, .ref (ad 0)), (1, .int x1), (2, .int x2), (3, .int x3)]) dX11_begin_5 (by decide) rfl ?_
    refine r_aloadN dX11_begin_7 0 rfl ?_
    refine r_ifnullN (t := 21) dX11_begin_9 (by decide) ?_
    refine r_aload_n dX11_begin_21 1 rfl ?_
    refine r_iconst (v := 1) dX11_begin_22 (by decide) ?_
    obtain ⟨rq19, σ20, qg18, h⟩ := bd2_at h
    refine x_callV (Y := mX11_refuse) (d' := 1) dX11_begin_23 ml_X11_102 yv_X11_refuse (by omega) rfl rfl (by simp [Value.category]) (sR_is rfl rfl) (lc_X11_refuse qg18) ?_
    refine r_iret rfl dX11_begin_26 ?_
    exact lfI h
set_option maxRecDepth 8000 in
theorem lc_X11_begin {ad : Nat → Nat} {x1 : Int32} {x2 : Int32} {x3 : Int32} {σ τ : sS} {r : Int32} (h : L_X11_begin x1 x2 x3 σ = some (r, τ)) : ab_X (sR ad) 3 mX11_begin [.ref (ad 0), .int x1, .int x2, .int x3] σ (some (.int r)) τ := ab_X.of (by decide) (Nat.le_of_ble_eq_true rfl) (e_X11_begin h)
set_option maxRecDepth 8000 in
noncomputable def L_X11_size (σ : sS) : Int32 := vI σ 1 3
set_option maxRecDepth 8000 in
theorem e_X11_size {ad : Nat → Nat}  {σ : sS} {z : Int32} (h : L_X11_size σ = z) : ab_E (sR ad) mX11_size 1 0 [(0, .ref (ad 0))] [] σ (fun r9 σ9 => r9 = some (.int z) ∧ σ9 = σ) := by
  unfold L_X11_size at h
  refine r_aload_n dX11_size_0 0 rfl ?_
  refine s_getR (b := 1) ok_X11 dX11_size_1 (k := 0) (by decide) fl_X11_10 rfl rfl rfl ?_
  refine s_getI ok_X9 dX11_size_4 (k := 3) (by decide) fl_X11_94 rfl rfl ?_
  refine r_iret rfl dX11_size_7 ?_
  exact lfT h
set_option maxRecDepth 8000 in
theorem lc_X11_size {ad : Nat → Nat}  (σ : sS) : ab_X (sR ad) 1 mX11_size [.ref (ad 0)] σ (some (.int (L_X11_size σ))) σ := ab_X.of (by decide) (Nat.le_of_ble_eq_true rfl) (e_X11_size rfl)
set_option maxRecDepth 8000 in
noncomputable def L_X11_trouble (σ : sS) : Int32 := vI σ 0 10
set_option maxRecDepth 8000 in
theorem e_X11_trouble {ad : Nat → Nat}  {σ : sS} {z : Int32} (h : L_X11_trouble σ = z) : ab_E (sR ad) mX11_trouble 1 0 [(0, .ref (ad 0))] [] σ (fun r9 σ9 => r9 = some (.int z) ∧ σ9 = σ) := by
  unfold L_X11_trouble at h
  refine r_aload_n dX11_trouble_0 0 rfl ?_
  refine s_getI ok_X11 dX11_trouble_1 (k := 10) (by decide) fl_X11_132 rfl rfl ?_
  refine r_iret rfl dX11_trouble_4 ?_
  exact lfT h
set_option maxRecDepth 8000 in
theorem lc_X11_trouble {ad : Nat → Nat}  (σ : sS) : ab_X (sR ad) 1 mX11_trouble [.ref (ad 0)] σ (some (.int (L_X11_trouble σ))) σ := ab_X.of (by decide) (Nat.le_of_ble_eq_true rfl) (e_X11_trouble rfl)
