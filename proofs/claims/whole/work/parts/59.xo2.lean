/-! OddRanks, lifted -/
set_option maxRecDepth 8000 in
noncomputable def L_X11_takes (F : Nat) (x1 : Int32) (x2 : Int32) (σ : sS) : Option (Int32 × sS) := if q_at σ x1 = true then (bnd (27 + x1.toNatClampNeg) (fun ia2 => grd (isAu ia2) (bd2 (L_X11_refusalOfLasso F ia2 x2 σ) (fun rq5 σ6 => if rq5 = 0 then (bd2 (L_tk0 ia2 σ6) (fun rq9 σ10 => if rq9 = 0 then (bd2 (L_X11_answer 0 σ10) (fun rq13 σ14 => some ((rq13, σ14)))) else (bd2 (L_X11_answer 1 σ10) (fun rq16 σ17 => some ((rq16, σ17)))))) else (bd2 (L_X11_refuse rq5 σ6) (fun rq19 σ20 => some ((rq19, σ20)))))))) else (bd2 (L_X11_refusalOfLassoN F x2 σ) (fun rq22 σ23 => bd2 (L_X11_refuse rq22 σ23) (fun rq25 σ26 => some ((rq25, σ26)))))
set_option maxRecDepth 8000 in
theorem e_X11_takes {ad : Nat → Nat} {F : Nat} {x1 : Int32} {x2 : Int32} {σ : sS} {z : (Int32 × sS)} (h : L_X11_takes F x1 x2 σ = some z) : ab_E (sR ad) mX11_takes 13 0 [(0, .ref (ad 0)), (1, .int x1), (2, .int x2)] [] σ (fun r9 σ9 => r9 = some (.int z.1) ∧ σ9 = z.2) := by
  unfold L_X11_takes at h
  refine r_aload_n dX11_takes_0 0 rfl ?_
  refine r_iload_n dX11_takes_1 1 rfl ?_
  by_cases qm1 : q_at σ x1 = true
  · replace h := ifp h qm1
    refine x_callV (Y := mX11_machineAt) (d' := 1) dX11_takes_2 ml_X11_138 yv_X11_machineAt (by omega) rfl rfl (by simp [Value.category]) (sR_is rfl rfl) (c_X11_machineAt σ qm1) ?_
    refine r_topr (fun ia2 eia2 => ?_)
    replace h := bnd_at h eia2
    obtain ⟨qg3, h⟩ := grd_at h
    refine r_astore_n (lo' := [(3, .ref (ad ia2)), (0, .ref (ad 0)), (1, .int x1), (2, .int x2)]) dX11_takes_5 (by decide) rfl ?_
    refine r_aload_n dX11_takes_6 1 rfl ?_
    refine r_aload_n dX11_takes_7 0 rfl ?_
    refine r_iload_n dX11_takes_8 3 rfl ?_
    obtain ⟨rq5, σ6, qg4, h⟩ := bd2_at h
    refine x_callV (Y := mX11_refusalOfLasso) (d' := 7) dX11_takes_9 ml_X11_230 yv_X11_refusalOfLasso (by omega) rfl rfl (by simp [Value.category]) (sR_is rfl rfl) (lc_X11_refusalOfLasso (isAu_of qg3) qg4) ?_
    refine r_istore (lo' := [(4, .int rq5), (3, .ref (ad ia2)), (0, .ref (ad 0)), (1, .int x1), (2, .int x2)]) dX11_takes_12 (by decide) rfl ?_
    refine r_aload_n dX11_takes_14 1 rfl ?_
    refine r_ifnull dX11_takes_15 ?_
    refine r_iload dX11_takes_18 0 rfl ?_
    refine r_if_eq (t := 30) dX11_takes_20 (by decide) (fun qc7 => ?_) (fun qc7 => ?_)
    · replace h := ifp h qc7
      refine r_aload_n dX11_takes_30 2 rfl ?_
      refine r_aload_n dX11_takes_31 2 rfl ?_
      refine s_getR (b := 45) ok_X11 dX11_takes_32 (k := 6) (by decide) fl_X11_74 rfl rfl rfl ?_
      refine r_aload_n dX11_takes_35 1 rfl ?_
      refine r_aload_n dX11_takes_36 2 rfl ?_
      refine s_getR (b := 3) ok_X11 dX11_takes_37 (k := 1) (by decide) fl_X11_21 rfl rfl rfl ?_
      refine s_getR (b := 6) ok_X5 dX11_takes_40 (k := 4) (by decide) fl_X11_234 rfl rfl rfl ?_
      refine r_aload_n dX11_takes_43 2 rfl ?_
      refine s_getR (b := 3) ok_X11 dX11_takes_44 (k := 1) (by decide) fl_X11_21 rfl rfl rfl ?_
      refine s_getR (b := 7) ok_X5 dX11_takes_47 (k := 5) (by decide) fl_X11_238 rfl rfl rfl ?_
      obtain ⟨rq9, σ10, qg8, h⟩ := bd2_at h
      refine x_callV (Y := mX6_isTaken) (d' := 12) dX11_takes_50 ml_X11_241 yv_X6_isTaken (by omega) rfl rfl (by simp [Value.category]) (sR_is rfl rfl) (lc_tk0 (isAu_of qg3) qg8) ?_
      refine r_if_eq (t := 60) dX11_takes_53 (by decide) (fun qc11 => ?_) (fun qc11 => ?_)
      · replace h := ifp h qc11
        refine r_iconst (v := 0) dX11_takes_60 (by decide) ?_
        obtain ⟨rq13, σ14, qg12, h⟩ := bd2_at h
        refine x_callV (Y := mX11_answer) (d' := 1) dX11_takes_61 ml_X11_126 yv_X11_answer (by omega) rfl rfl (by simp [Value.category]) (sR_is rfl rfl) (lc_X11_answer qg12) ?_
        refine r_iret rfl dX11_takes_64 ?_
        exact lfI h
      · replace h := ifn h qc11
        refine r_iconst (v := 1) dX11_takes_56 (by decide) ?_
        refine r_goto (t := 61) dX11_takes_57 (by decide) ?_
        obtain ⟨rq16, σ17, qg15, h⟩ := bd2_at h
        refine x_callV (Y := mX11_answer) (d' := 1) dX11_takes_61 ml_X11_126 yv_X11_answer (by omega) rfl rfl (by simp [Value.category]) (sR_is rfl rfl) (lc_X11_answer qg15) ?_
        refine r_iret rfl dX11_takes_64 ?_
        exact lfI h
    · replace h := ifn h qc7
      refine r_aload_n dX11_takes_23 2 rfl ?_
      refine r_iload dX11_takes_24 0 rfl ?_
      obtain ⟨rq19, σ20, qg18, h⟩ := bd2_at h
      refine x_callV (Y := mX11_refuse) (d' := 1) dX11_takes_26 ml_X11_102 yv_X11_refuse (by omega) rfl rfl (by simp [Value.category]) (sR_is rfl rfl) (lc_X11_refuse qg18) ?_
      refine r_iret rfl dX11_takes_29 ?_
      exact lfI h
  · replace h := ifn h qm1
    refine x_callV (Y := mX11_machineAt) (d' := 1) dX11_takes_2 ml_X11_138 yv_X11_machineAt (by omega) rfl rfl (by simp [Value.category]) (sR_is rfl rfl) (c_X11_machineAtN σ qm1) ?_
    refine r_astore_nN (lo' := [(3, .null), (0, .ref (ad 0)), (1, .int x1), (2, .int x2)]) dX11_takes_5 (by decide) rfl ?_
    refine r_aload_n dX11_takes_6 1 rfl ?_
    refine r_aload_nN dX11_takes_7 0 rfl ?_
    refine r_iload_n dX11_takes_8 3 rfl ?_
    obtain ⟨rq22, σ23, qg21, h⟩ := bd2_at h
    refine x_callV (Y := mX11_refusalOfLasso) (d' := 7) dX11_takes_9 ml_X11_230 yv_X11_refusalOfLasso (by omega) rfl rfl (by simp [Value.category]) (sR_is rfl rfl) (lc_X11_refusalOfLassoN qg21) ?_
    refine r_istore (lo' := [(4, .int rq22), (3, .null), (0, .ref (ad 0)), (1, .int x1), (2, .int x2)]) dX11_takes_12 (by decide) rfl ?_
    refine r_aload_nN dX11_takes_14 1 rfl ?_
    refine r_ifnullN (t := 23) dX11_takes_15 (by decide) ?_
    refine r_aload_n dX11_takes_23 2 rfl ?_
    refine r_iload dX11_takes_24 0 rfl ?_
    obtain ⟨rq25, σ26, qg24, h⟩ := bd2_at h
    refine x_callV (Y := mX11_refuse) (d' := 1) dX11_takes_26 ml_X11_102 yv_X11_refuse (by omega) rfl rfl (by simp [Value.category]) (sR_is rfl rfl) (lc_X11_refuse qg24) ?_
    refine r_iret rfl dX11_takes_29 ?_
    exact lfI h
set_option maxRecDepth 8000 in
theorem lc_X11_takes {ad : Nat → Nat} {F : Nat} {x1 : Int32} {x2 : Int32} {σ τ : sS} {r : Int32} (h : L_X11_takes F x1 x2 σ = some (r, τ)) : ab_X (sR ad) 13 mX11_takes [.ref (ad 0), .int x1, .int x2] σ (some (.int r)) τ := ab_X.of (by decide) (Nat.le_of_ble_eq_true rfl) (e_X11_takes h)
set_option maxRecDepth 8000 in
noncomputable def L_X11_lacks (F : Nat) (x1 : Int32) (x2 : Int32) (σ : sS) : Option (Int32 × sS) := if q_at σ x1 = true then (bnd (33 + x1.toNatClampNeg) (fun ic2 => grd (isCo ic2) (if q_at σ x1 = true then (bnd (27 + x1.toNatClampNeg) (fun ia5 => grd (isAu ia5) (bd2 (L_X11_refusalOfLasso F ia5 x2 σ) (fun rq8 σ9 => if rq8 = 0 then (bd2 (L_X1_stands ic2 σ9) (fun rq12 σ13 => if rq12 = 0 then (bd2 (L_X11_refuse 3 σ13) (fun rq26 σ27 => some ((rq26, σ27)))) else (bd2 (L_tk1 ic2 σ13) (fun rq16 σ17 => if rq16 = 0 then (bd2 (L_X11_answer 0 σ17) (fun rq20 σ21 => some ((rq20, σ21)))) else (bd2 (L_X11_answer 1 σ17) (fun rq23 σ24 => some ((rq23, σ24)))))))) else (bd2 (L_X11_refuse rq8 σ9) (fun rq29 σ30 => some ((rq29, σ30)))))))) else (bd2 (L_X11_refusalOfLassoN F x2 σ) (fun rq32 σ33 => if rq32 = 0 then (bd2 (L_X1_stands ic2 σ33) (fun rq36 σ37 => if rq36 = 0 then (bd2 (L_X11_refuse 3 σ37) (fun rq50 σ51 => some ((rq50, σ51)))) else (bd2 (L_tk1 ic2 σ37) (fun rq40 σ41 => if rq40 = 0 then (bd2 (L_X11_answer 0 σ41) (fun rq44 σ45 => some ((rq44, σ45)))) else (bd2 (L_X11_answer 1 σ41) (fun rq47 σ48 => some ((rq47, σ48)))))))) else (bd2 (L_X11_refuse rq32 σ33) (fun rq53 σ54 => some ((rq53, σ54))))))))) else (if q_at σ x1 = true then (bnd (27 + x1.toNatClampNeg) (fun ia56 => grd (isAu ia56) (bd2 (L_X11_refusalOfLasso F ia56 x2 σ) (fun rq59 σ60 => bd2 (L_X11_refuse rq59 σ60) (fun rq62 σ63 => some ((rq62, σ63))))))) else (bd2 (L_X11_refusalOfLassoN F x2 σ) (fun rq65 σ66 => bd2 (L_X11_refuse rq65 σ66) (fun rq68 σ69 => some ((rq68, σ69))))))
set_option maxRecDepth 8000 in
theorem e_X11_lacks {ad : Nat → Nat} {F : Nat} {x1 : Int32} {x2 : Int32} {σ : sS} {z : (Int32 × sS)} (h : L_X11_lacks F x1 x2 σ = some z) : ab_E (sR ad) mX11_lacks 13 0 [(0, .ref (ad 0)), (1, .int x1), (2, .int x2)] [] σ (fun r9 σ9 => r9 = some (.int z.1) ∧ σ9 = z.2) := by
  unfold L_X11_lacks at h
  refine r_aload_n dX11_lacks_0 0 rfl ?_
  refine r_iload_n dX11_lacks_1 1 rfl ?_
  by_cases qm1 : q_at σ x1 = true
  · replace h := ifp h qm1
    refine x_callV (Y := mX11_complementAt) (d' := 1) dX11_lacks_2 ml_X11_202 yv_X11_complementAt (by omega) rfl rfl (by simp [Value.category]) (sR_is rfl rfl) (c_X11_complementAt σ qm1) ?_
    refine r_topr (fun ic2 eic2 => ?_)
    replace h := bnd_at h eic2
    obtain ⟨qg3, h⟩ := grd_at h
    refine r_astore_n (lo' := [(3, .ref (ad ic2)), (0, .ref (ad 0)), (1, .int x1), (2, .int x2)]) dX11_lacks_5 (by decide) rfl ?_
    refine r_aload_n dX11_lacks_6 1 rfl ?_
    refine r_aload_n dX11_lacks_7 1 rfl ?_
    refine r_iload_n dX11_lacks_8 2 rfl ?_
    by_cases qm4 : q_at σ x1 = true
    · replace h := ifp h qm4
      refine x_callV (Y := mX11_machineAt) (d' := 1) dX11_lacks_9 ml_X11_138 yv_X11_machineAt (by omega) rfl rfl (by simp [Value.category]) (sR_is rfl rfl) (c_X11_machineAt σ qm4) ?_
      refine r_topr (fun ia5 eia5 => ?_)
      replace h := bnd_at h eia5
      obtain ⟨qg6, h⟩ := grd_at h
      refine r_iload_n dX11_lacks_12 3 rfl ?_
      obtain ⟨rq8, σ9, qg7, h⟩ := bd2_at h
      refine x_callV (Y := mX11_refusalOfLasso) (d' := 7) dX11_lacks_13 ml_X11_230 yv_X11_refusalOfLasso (by omega) rfl rfl (by simp [Value.category]) (sR_is rfl rfl) (lc_X11_refusalOfLasso (isAu_of qg6) qg7) ?_
      refine r_istore (lo' := [(4, .int rq8), (3, .ref (ad ic2)), (0, .ref (ad 0)), (1, .int x1), (2, .int x2)]) dX11_lacks_16 (by decide) rfl ?_
      refine r_aload_n dX11_lacks_18 1 rfl ?_
      refine r_ifnull dX11_lacks_19 ?_
      refine r_iload dX11_lacks_22 0 rfl ?_
      refine r_if_eq (t := 34) dX11_lacks_24 (by decide) (fun qc10 => ?_) (fun qc10 => ?_)
      · replace h := ifp h qc10
        refine r_aload_n dX11_lacks_34 1 rfl ?_
        obtain ⟨rq12, σ13, qg11, h⟩ := bd2_at h
        refine x_callV (Y := mX1_stands) (d' := 10) dX11_lacks_35 ml_X11_206 yv_X1_stands (by omega) rfl rfl (by simp [Value.category]) (sR_is (isCo_of qg3) rfl) (lc_X1_stands (isCo_of qg3) qg11) ?_
        refine r_if_ne (t := 47) dX11_lacks_38 (by decide) (fun qc14 => ?_) (fun qc14 => ?_)
        · replace h := ifn h qc14
          refine r_aload_n dX11_lacks_47 2 rfl ?_
          refine r_aload_n dX11_lacks_48 2 rfl ?_
          refine s_getR (b := 45) ok_X11 dX11_lacks_49 (k := 6) (by decide) fl_X11_74 rfl rfl rfl ?_
          refine r_aload_n dX11_lacks_52 1 rfl ?_
          refine r_aload_n dX11_lacks_53 2 rfl ?_
          refine s_getR (b := 3) ok_X11 dX11_lacks_54 (k := 1) (by decide) fl_X11_21 rfl rfl rfl ?_
          refine s_getR (b := 6) ok_X5 dX11_lacks_57 (k := 4) (by decide) fl_X11_234 rfl rfl rfl ?_
          refine r_aload_n dX11_lacks_60 2 rfl ?_
          refine s_getR (b := 3) ok_X11 dX11_lacks_61 (k := 1) (by decide) fl_X11_21 rfl rfl rfl ?_
          refine s_getR (b := 7) ok_X5 dX11_lacks_64 (k := 5) (by decide) fl_X11_238 rfl rfl rfl ?_
          obtain ⟨rq16, σ17, qg15, h⟩ := bd2_at h
          refine x_callV (Y := mX6_isTaken) (d' := 12) dX11_lacks_67 ml_X11_241 yv_X6_isTaken (by omega) rfl rfl (by simp [Value.category]) (sR_is rfl rfl) (lc_tk1 (isCo_of qg3) qg15) ?_
          refine r_if_eq (t := 77) dX11_lacks_70 (by decide) (fun qc18 => ?_) (fun qc18 => ?_)
          · replace h := ifp h qc18
            refine r_iconst (v := 0) dX11_lacks_77 (by decide) ?_
            obtain ⟨rq20, σ21, qg19, h⟩ := bd2_at h
            refine x_callV (Y := mX11_answer) (d' := 1) dX11_lacks_78 ml_X11_126 yv_X11_answer (by omega) rfl rfl (by simp [Value.category]) (sR_is rfl rfl) (lc_X11_answer qg19) ?_
            refine r_iret rfl dX11_lacks_81 ?_
            exact lfI h
          · replace h := ifn h qc18
            refine r_iconst (v := 1) dX11_lacks_73 (by decide) ?_
            refine r_goto (t := 78) dX11_lacks_74 (by decide) ?_
            obtain ⟨rq23, σ24, qg22, h⟩ := bd2_at h
            refine x_callV (Y := mX11_answer) (d' := 1) dX11_lacks_78 ml_X11_126 yv_X11_answer (by omega) rfl rfl (by simp [Value.category]) (sR_is rfl rfl) (lc_X11_answer qg22) ?_
            refine r_iret rfl dX11_lacks_81 ?_
            exact lfI h
        · replace h := ifp h qc14
          refine r_aload_n dX11_lacks_41 2 rfl ?_
          refine r_iconst (v := 3) dX11_lacks_42 (by decide) ?_
          obtain ⟨rq26, σ27, qg25, h⟩ := bd2_at h
          refine x_callV (Y := mX11_refuse) (d' := 1) dX11_lacks_43 ml_X11_102 yv_X11_refuse (by omega) rfl rfl (by simp [Value.category]) (sR_is rfl rfl) (lc_X11_refuse qg25) ?_
          refine r_iret rfl dX11_lacks_46 ?_
          exact lfI h
      · replace h := ifn h qc10
        refine r_aload_n dX11_lacks_27 2 rfl ?_
        refine r_iload dX11_lacks_28 0 rfl ?_
        obtain ⟨rq29, σ30, qg28, h⟩ := bd2_at h
        refine x_callV (Y := mX11_refuse) (d' := 1) dX11_lacks_30 ml_X11_102 yv_X11_refuse (by omega) rfl rfl (by simp [Value.category]) (sR_is rfl rfl) (lc_X11_refuse qg28) ?_
        refine r_iret rfl dX11_lacks_33 ?_
        exact lfI h
    · replace h := ifn h qm4
      refine x_callV (Y := mX11_machineAt) (d' := 1) dX11_lacks_9 ml_X11_138 yv_X11_machineAt (by omega) rfl rfl (by simp [Value.category]) (sR_is rfl rfl) (c_X11_machineAtN σ qm4) ?_
      refine r_iload_n dX11_lacks_12 3 rfl ?_
      obtain ⟨rq32, σ33, qg31, h⟩ := bd2_at h
      refine x_callV (Y := mX11_refusalOfLasso) (d' := 7) dX11_lacks_13 ml_X11_230 yv_X11_refusalOfLasso (by omega) rfl rfl (by simp [Value.category]) (sR_is rfl rfl) (lc_X11_refusalOfLassoN qg31) ?_
      refine r_istore (lo' := [(4, .int rq32), (3, .ref (ad ic2)), (0, .ref (ad 0)), (1, .int x1), (2, .int x2)]) dX11_lacks_16 (by decide) rfl ?_
      refine r_aload_n dX11_lacks_18 1 rfl ?_
      refine r_ifnull dX11_lacks_19 ?_
      refine r_iload dX11_lacks_22 0 rfl ?_
      refine r_if_eq (t := 34) dX11_lacks_24 (by decide) (fun qc34 => ?_) (fun qc34 => ?_)
      · replace h := ifp h qc34
        refine r_aload_n dX11_lacks_34 1 rfl ?_
        obtain ⟨rq36, σ37, qg35, h⟩ := bd2_at h
        refine x_callV (Y := mX1_stands) (d' := 10) dX11_lacks_35 ml_X11_206 yv_X1_stands (by omega) rfl rfl (by simp [Value.category]) (sR_is (isCo_of qg3) rfl) (lc_X1_stands (isCo_of qg3) qg35) ?_
        refine r_if_ne (t := 47) dX11_lacks_38 (by decide) (fun qc38 => ?_) (fun qc38 => ?_)
        · replace h := ifn h qc38
          refine r_aload_n dX11_lacks_47 2 rfl ?_
          refine r_aload_n dX11_lacks_48 2 rfl ?_
          refine s_getR (b := 45) ok_X11 dX11_lacks_49 (k := 6) (by decide) fl_X11_74 rfl rfl rfl ?_
          refine r_aload_n dX11_lacks_52 1 rfl ?_
          refine r_aload_n dX11_lacks_53 2 rfl ?_
          refine s_getR (b := 3) ok_X11 dX11_lacks_54 (k := 1) (by decide) fl_X11_21 rfl rfl rfl ?_
          refine s_getR (b := 6) ok_X5 dX11_lacks_57 (k := 4) (by decide) fl_X11_234 rfl rfl rfl ?_
          refine r_aload_n dX11_lacks_60 2 rfl ?_
          refine s_getR (b := 3) ok_X11 dX11_lacks_61 (k := 1) (by decide) fl_X11_21 rfl rfl rfl ?_
          refine s_getR (b := 7) ok_X5 dX11_lacks_64 (k := 5) (by decide) fl_X11_238 rfl rfl rfl ?_
          obtain ⟨rq40, σ41, qg39, h⟩ := bd2_at h
          refine x_callV (Y := mX6_isTaken) (d' := 12) dX11_lacks_67 ml_X11_241 yv_X6_isTaken (by omega) rfl rfl (by simp [Value.category]) (sR_is rfl rfl) (lc_tk1 (isCo_of qg3) qg39) ?_
          refine r_if_eq (t := 77) dX11_lacks_70 (by decide) (fun qc42 => ?_) (fun qc42 => ?_)
          · replace h := ifp h qc42
            refine r_iconst (v := 0) dX11_lacks_77 (by decide) ?_
            obtain ⟨rq44, σ45, qg43, h⟩ := bd2_at h
            refine x_callV (Y := mX11_answer) (d' := 1) dX11_lacks_78 ml_X11_126 yv_X11_answer (by omega) rfl rfl (by simp [Value.category]) (sR_is rfl rfl) (lc_X11_answer qg43) ?_
            refine r_iret rfl dX11_lacks_81 ?_
            exact lfI h
          · replace h := ifn h qc42
            refine r_iconst (v := 1) dX11_lacks_73 (by decide) ?_
            refine r_goto (t := 78) dX11_lacks_74 (by decide) ?_
            obtain ⟨rq47, σ48, qg46, h⟩ := bd2_at h
            refine x_callV (Y := mX11_answer) (d' := 1) dX11_lacks_78 ml_X11_126 yv_X11_answer (by omega) rfl rfl (by simp [Value.category]) (sR_is rfl rfl) (lc_X11_answer qg46) ?_
            refine r_iret rfl dX11_lacks_81 ?_
            exact lfI h
        · replace h := ifp h qc38
          refine r_aload_n dX11_lacks_41 2 rfl ?_
          refine r_iconst (v := 3) dX11_lacks_42 (by decide) ?_
          obtain ⟨rq50, σ51, qg49, h⟩ := bd2_at h
          refine x_callV (Y := mX11_refuse) (d' := 1) dX11_lacks_43 ml_X11_102 yv_X11_refuse (by omega) rfl rfl (by simp [Value.category]) (sR_is rfl rfl) (lc_X11_refuse qg49) ?_
          refine r_iret rfl dX11_lacks_46 ?_
          exact lfI h
      · replace h := ifn h qc34
        refine r_aload_n dX11_lacks_27 2 rfl ?_
        refine r_iload dX11_lacks_28 0 rfl ?_
        obtain ⟨rq53, σ54, qg52, h⟩ := bd2_at h
        refine x_callV (Y := mX11_refuse) (d' := 1) dX11_lacks_30 ml_X11_102 yv_X11_refuse (by omega) rfl rfl (by simp [Value.category]) (sR_is rfl rfl) (lc_X11_refuse qg52) ?_
        refine r_iret rfl dX11_lacks_33 ?_
        exact lfI h
  · replace h := ifn h qm1
    refine x_callV (Y := mX11_complementAt) (d' := 1) dX11_lacks_2 ml_X11_202 yv_X11_complementAt (by omega) rfl rfl (by simp [Value.category]) (sR_is rfl rfl) (c_X11_complementAtN σ qm1) ?_
    refine r_astore_nN (lo' := [(3, .null), (0, .ref (ad 0)), (1, .int x1), (2, .int x2)]) dX11_lacks_5 (by decide) rfl ?_
    refine r_aload_n dX11_lacks_6 1 rfl ?_
    refine r_aload_n dX11_lacks_7 1 rfl ?_
    refine r_iload_n dX11_lacks_8 2 rfl ?_
    by_cases qm55 : q_at σ x1 = true
    · replace h := ifp h qm55
      refine x_callV (Y := mX11_machineAt) (d' := 1) dX11_lacks_9 ml_X11_138 yv_X11_machineAt (by omega) rfl rfl (by simp [Value.category]) (sR_is rfl rfl) (c_X11_machineAt σ qm55) ?_
      refine r_topr (fun ia56 eia56 => ?_)
      replace h := bnd_at h eia56
      obtain ⟨qg57, h⟩ := grd_at h
      refine r_iload_n dX11_lacks_12 3 rfl ?_
      obtain ⟨rq59, σ60, qg58, h⟩ := bd2_at h
      refine x_callV (Y := mX11_refusalOfLasso) (d' := 7) dX11_lacks_13 ml_X11_230 yv_X11_refusalOfLasso (by omega) rfl rfl (by simp [Value.category]) (sR_is rfl rfl) (lc_X11_refusalOfLasso (isAu_of qg57) qg58) ?_
      refine r_istore (lo' := [(4, .int rq59), (3, .null), (0, .ref (ad 0)), (1, .int x1), (2, .int x2)]) dX11_lacks_16 (by decide) rfl ?_
      refine r_aload_nN dX11_lacks_18 1 rfl ?_
      refine r_ifnullN (t := 27) dX11_lacks_19 (by decide) ?_
      refine r_aload_n dX11_lacks_27 2 rfl ?_
      refine r_iload dX11_lacks_28 0 rfl ?_
      obtain ⟨rq62, σ63, qg61, h⟩ := bd2_at h
      refine x_callV (Y := mX11_refuse) (d' := 1) dX11_lacks_30 ml_X11_102 yv_X11_refuse (by omega) rfl rfl (by simp [Value.category]) (sR_is rfl rfl) (lc_X11_refuse qg61) ?_
      refine r_iret rfl dX11_lacks_33 ?_
      exact lfI h
    · replace h := ifn h qm55
      refine x_callV (Y := mX11_machineAt) (d' := 1) dX11_lacks_9 ml_X11_138 yv_X11_machineAt (by omega) rfl rfl (by simp [Value.category]) (sR_is rfl rfl) (c_X11_machineAtN σ qm55) ?_
      refine r_iload_n dX11_lacks_12 3 rfl ?_
      obtain ⟨rq65, σ66, qg64, h⟩ := bd2_at h
      refine x_callV (Y := mX11_refusalOfLasso) (d' := 7) dX11_lacks_13 ml_X11_230 yv_X11_refusalOfLasso (by omega) rfl rfl (by simp [Value.category]) (sR_is rfl rfl) (lc_X11_refusalOfLassoN qg64) ?_
      refine r_istore (lo' := [(4, .int rq65), (3, .null), (0, .ref (ad 0)), (1, .int x1), (2, .int x2)]) dX11_lacks_16 (by decide) rfl ?_
      refine r_aload_nN dX11_lacks_18 1 rfl ?_
      refine r_ifnullN (t := 27) dX11_lacks_19 (by decide) ?_
      refine r_aload_n dX11_lacks_27 2 rfl ?_
      refine r_iload dX11_lacks_28 0 rfl ?_
      obtain ⟨rq68, σ69, qg67, h⟩ := bd2_at h
      refine x_callV (Y := mX11_refuse) (d' := 1) dX11_lacks_30 ml_X11_102 yv_X11_refuse (by omega) rfl rfl (by simp [Value.category]) (sR_is rfl rfl) (lc_X11_refuse qg67) ?_
      refine r_iret rfl dX11_lacks_33 ?_
      exact lfI h
set_option maxRecDepth 8000 in
theorem lc_X11_lacks {ad : Nat → Nat} {F : Nat} {x1 : Int32} {x2 : Int32} {σ τ : sS} {r : Int32} (h : L_X11_lacks F x1 x2 σ = some (r, τ)) : ab_X (sR ad) 13 mX11_lacks [.ref (ad 0), .int x1, .int x2] σ (some (.int r)) τ := ab_X.of (by decide) (Nat.le_of_ble_eq_true rfl) (e_X11_lacks h)
set_option maxRecDepth 8000 in
noncomputable def L_X11_follows_76 (F : Nat) (ia2 : Nat) (x2 : Int32) (σ : sS) (kx : Int32 → Option (Int32 × sS)) : Nat → Int32 → Int32 → Option (Int32 × sS)
  | 0, _, _ => none
  | n + 1, x6, x7 => if x2 ≤ x7 then (kx x6) else (bd (L_X0_reachAlong ia2 x6 7 σ) (fun rq17 => L_X11_follows_76 F ia2 x2 σ kx n rq17 (x7 + 1)))
set_option maxRecDepth 8000 in
theorem l_X11_follows_76 {ad : Nat → Nat} {F : Nat} {ia2 : Nat} {x2 : Int32} {σ : sS} {z : (Int32 × sS)} (hia2 : la ia2 = (1, 0)) {kx : Int32 → Option (Int32 × sS)} (hx : ∀ (x6 : Int32), kx x6 = some z → ab_E (sR ad) mX11_follows 8 104 [(6, .int x6), (0, .ref (ad 0))] [] σ (fun r9 σ9 => r9 = some (.int z.1) ∧ σ9 = z.2)) : ∀ (n : Nat) (x6 : Int32) (x7 : Int32), L_X11_follows_76 F ia2 x2 σ kx n x6 x7 = some z → ab_E (sR ad) mX11_follows 8 76 [(6, .int x6), (7, .int x7), (2, .int x2), (4, .ref (ad ia2)), (0, .ref (ad 0))] [] σ (fun r9 σ9 => r9 = some (.int z.1) ∧ σ9 = z.2) := by
  intro n
  induction n with
  | zero =>
    intro x6 x7 h
    rw [L_X11_follows_76] at h
    cases h
  | succ n ih =>
    intro x6 x7 h
    rw [L_X11_follows_76] at h
    refine r_iload dX11_follows_76 1 rfl ?_
    refine r_iload_n dX11_follows_78 2 rfl ?_
    refine r_icmp_ge (t := 104) dX11_follows_79 (by decide) (fun qc15 => ?_) (fun qc15 => ?_)
    · replace h := ifp h qc15
      exact ab_E.lo [0, 4] rfl (hx _ h)
    · replace h := ifn h qc15
      refine r_aload dX11_follows_82 3 rfl ?_
      refine r_iload dX11_follows_84 0 rfl ?_
      refine r_aload_n dX11_follows_86 4 rfl ?_
      refine s_getR (b := 3) ok_X11 dX11_follows_87 (k := 1) (by decide) fl_X11_21 rfl rfl rfl ?_
      refine s_getR (b := 7) ok_X5 dX11_follows_90 (k := 5) (by decide) fl_X11_238 rfl rfl rfl ?_
      obtain ⟨rq17, qg16, h⟩ := bd_at h
      refine x_callV (Y := mX0_reachAlong) (d' := 4) dX11_follows_93 ml_X11_245 yv_X0_reachAlong (by omega) rfl rfl (by simp [Value.category]) (sR_is hia2 rfl) (lc_X0_reachAlong hia2 rfl qg16) ?_
      refine r_istore (lo' := [(6, .int rq17), (7, .int x7), (2, .int x2), (4, .ref (ad ia2)), (0, .ref (ad 0))]) dX11_follows_96 (by decide) rfl ?_
      refine r_iinc (v := x7 + 1) (lo' := [(7, .int (x7 + 1)), (6, .int rq17), (2, .int x2), (4, .ref (ad ia2)), (0, .ref (ad 0))]) dX11_follows_98 1 rfl rfl (by decide) rfl ?_
      refine r_goto (t := 76) dX11_follows_101 (by decide) ?_
      exact ab_E.lo [1, 0, 2, 3, 4] rfl (ih _ _ h)
set_option maxRecDepth 8000 in
noncomputable def L_X11_follows (F : Nat) (x1 : Int32) (x2 : Int32) (x3 : Int32) (σ : sS) : Option (Int32 × sS) := if q_at σ x1 = true then (bnd (27 + x1.toNatClampNeg) (fun ia2 => grd (isAu ia2) (if x2 < 0 then (bd2 (L_X11_refuse 2 σ) (fun rq6 σ7 => some ((rq6, σ7)))) else (if x2 ≤ 20 then (bd2 (L_X11_refusalOfLasso F ia2 x3 σ) (fun rq10 σ11 => if rq10 = 0 then (bd (L_X0_reachAlong ia2 (vI σ11 ia2 3) 6 σ11) (fun rq14 => L_X11_follows_76 F ia2 x2 σ11 (fun yq15 => bd2 (L_X11_answer yq15 σ11) (fun rq17 σ18 => some ((rq17, σ18)))) F rq14 0)) else (bd2 (L_X11_refuse rq10 σ11) (fun rq20 σ21 => some ((rq20, σ21)))))) else (bd2 (L_X11_refuse 2 σ) (fun rq23 σ24 => some ((rq23, σ24)))))))) else (bd2 (L_X11_refusalOfLassoN F x3 σ) (fun rq26 σ27 => bd2 (L_X11_refuse rq26 σ27) (fun rq29 σ30 => some ((rq29, σ30)))))
set_option maxRecDepth 8000 in
theorem e_X11_follows {ad : Nat → Nat} {F : Nat} {x1 : Int32} {x2 : Int32} {x3 : Int32} {σ : sS} {z : (Int32 × sS)} (h : L_X11_follows F x1 x2 x3 σ = some z) : ab_E (sR ad) mX11_follows 8 0 [(0, .ref (ad 0)), (1, .int x1), (2, .int x2), (3, .int x3)] [] σ (fun r9 σ9 => r9 = some (.int z.1) ∧ σ9 = z.2) := by
  unfold L_X11_follows at h
  refine r_aload_n dX11_follows_0 0 rfl ?_
  refine r_iload_n dX11_follows_1 1 rfl ?_
  by_cases qm1 : q_at σ x1 = true
  · replace h := ifp h qm1
    refine x_callV (Y := mX11_machineAt) (d' := 1) dX11_follows_2 ml_X11_138 yv_X11_machineAt (by omega) rfl rfl (by simp [Value.category]) (sR_is rfl rfl) (c_X11_machineAt σ qm1) ?_
    refine r_topr (fun ia2 eia2 => ?_)
    replace h := bnd_at h eia2
    obtain ⟨qg3, h⟩ := grd_at h
    refine r_astore (lo' := [(4, .ref (ad ia2)), (0, .ref (ad 0)), (1, .int x1), (2, .int x2), (3, .int x3)]) dX11_follows_5 (by decide) rfl ?_
    refine r_aload dX11_follows_7 0 rfl ?_
    refine r_ifnull dX11_follows_9 ?_
    refine r_iload_n dX11_follows_12 3 rfl ?_
    refine r_if_lt (t := 22) dX11_follows_13 (by decide) (fun qc4 => ?_) (fun qc4 => ?_)
    · replace h := ifp h qc4
      refine r_aload_n dX11_follows_22 1 rfl ?_
      refine r_iconst (v := 2) dX11_follows_23 (by decide) ?_
      obtain ⟨rq6, σ7, qg5, h⟩ := bd2_at h
      refine x_callV (Y := mX11_refuse) (d' := 1) dX11_follows_24 ml_X11_102 yv_X11_refuse (by omega) rfl rfl (by simp [Value.category]) (sR_is rfl rfl) (lc_X11_refuse qg5) ?_
      refine r_iret rfl dX11_follows_27 ?_
      exact lfI h
    · replace h := ifn h qc4
      refine r_iload_n dX11_follows_16 3 rfl ?_
      refine r_bipush (v := 20) dX11_follows_17 (by decide) ?_
      refine r_icmp_le (t := 28) dX11_follows_19 (by decide) (fun qc8 => ?_) (fun qc8 => ?_)
      · replace h := ifp h qc8
        refine r_aload_n dX11_follows_28 1 rfl ?_
        refine r_aload dX11_follows_29 0 rfl ?_
        refine r_iload_n dX11_follows_31 4 rfl ?_
        obtain ⟨rq10, σ11, qg9, h⟩ := bd2_at h
        refine x_callV (Y := mX11_refusalOfLasso) (d' := 7) dX11_follows_32 ml_X11_230 yv_X11_refusalOfLasso (by omega) rfl rfl (by simp [Value.category]) (sR_is rfl rfl) (lc_X11_refusalOfLasso (isAu_of qg3) qg9) ?_
        refine r_istore (lo' := [(5, .int rq10), (4, .ref (ad ia2)), (0, .ref (ad 0)), (1, .int x1), (2, .int x2), (3, .int x3)]) dX11_follows_35 (by decide) rfl ?_
        refine r_aload dX11_follows_37 1 rfl ?_
        refine r_ifnull dX11_follows_39 ?_
        refine r_iload dX11_follows_42 0 rfl ?_
        refine r_if_eq (t := 54) dX11_follows_44 (by decide) (fun qc12 => ?_) (fun qc12 => ?_)
        · replace h := ifp h qc12
          refine r_aload dX11_follows_54 1 rfl ?_
          refine r_aload dX11_follows_56 1 rfl ?_
          refine s_getI ok_X0 dX11_follows_58 (k := 3) (by decide) fl_X11_145 (isAu_of qg3) rfl ?_
          refine r_aload_n dX11_follows_61 2 rfl ?_
          refine s_getR (b := 3) ok_X11 dX11_follows_62 (k := 1) (by decide) fl_X11_21 rfl rfl rfl ?_
          refine s_getR (b := 6) ok_X5 dX11_follows_65 (k := 4) (by decide) fl_X11_234 rfl rfl rfl ?_
          obtain ⟨rq14, qg13, h⟩ := bd_at h
          refine x_callV (Y := mX0_reachAlong) (d' := 4) dX11_follows_68 ml_X11_245 yv_X0_reachAlong (by omega) rfl rfl (by simp [Value.category]) (sR_is (isAu_of qg3) rfl) (lc_X0_reachAlong (isAu_of qg3) rfl qg13) ?_
          refine r_istore (lo' := [(6, .int rq14), (5, .int rq10), (4, .ref (ad ia2)), (0, .ref (ad 0)), (1, .int x1), (2, .int x2), (3, .int x3)]) dX11_follows_71 (by decide) rfl ?_
          refine r_iconst (v := 0) dX11_follows_73 (by decide) ?_
          refine r_istore (lo' := [(7, .int 0), (6, .int rq14), (5, .int rq10), (4, .ref (ad ia2)), (0, .ref (ad 0)), (1, .int x1), (2, .int x2), (3, .int x3)]) dX11_follows_74 (by decide) rfl ?_
          refine ab_E.lo [1, 0, 6, 3, 4] rfl (l_X11_follows_76 (isAu_of qg3) (fun yq15 h => ?_) _ _ _ h)
          refine r_aload_n dX11_follows_104 1 rfl ?_
          refine r_iload dX11_follows_105 0 rfl ?_
          obtain ⟨rq17, σ18, qg16, h⟩ := bd2_at h
          refine x_callV (Y := mX11_answer) (d' := 1) dX11_follows_107 ml_X11_126 yv_X11_answer (by omega) rfl rfl (by simp [Value.category]) (sR_is rfl rfl) (lc_X11_answer qg16) ?_
          refine r_iret rfl dX11_follows_110 ?_
          exact lfI h
        · replace h := ifn h qc12
          refine r_aload_n dX11_follows_47 2 rfl ?_
          refine r_iload dX11_follows_48 0 rfl ?_
          obtain ⟨rq20, σ21, qg19, h⟩ := bd2_at h
          refine x_callV (Y := mX11_refuse) (d' := 1) dX11_follows_50 ml_X11_102 yv_X11_refuse (by omega) rfl rfl (by simp [Value.category]) (sR_is rfl rfl) (lc_X11_refuse qg19) ?_
          refine r_iret rfl dX11_follows_53 ?_
          exact lfI h
      · replace h := ifn h qc8
        refine r_aload_n dX11_follows_22 1 rfl ?_
        refine r_iconst (v := 2) dX11_follows_23 (by decide) ?_
        obtain ⟨rq23, σ24, qg22, h⟩ := bd2_at h
        refine x_callV (Y := mX11_refuse) (d' := 1) dX11_follows_24 ml_X11_102 yv_X11_refuse (by omega) rfl rfl (by simp [Value.category]) (sR_is rfl rfl) (lc_X11_refuse qg22) ?_
        refine r_iret rfl dX11_follows_27 ?_
        exact lfI h
  · replace h := ifn h qm1
    refine x_callV (Y := mX11_machineAt) (d' := 1) dX11_follows_2 ml_X11_138 yv_X11_machineAt (by omega) rfl rfl (by simp [Value.category]) (sR_is rfl rfl) (c_X11_machineAtN σ qm1) ?_
    refine r_astoreN (lo' := [(4, .null), (0, .ref (ad 0)), (1, .int x1), (2, .int x2), (3, .int x3)]) dX11_follows_5 (by decide) rfl ?_
    refine r_aloadN dX11_follows_7 0 rfl ?_
    refine r_ifnullN (t := 28) dX11_follows_9 (by decide) ?_
    refine r_aload_n dX11_follows_28 1 rfl ?_
    refine r_aloadN dX11_follows_29 0 rfl ?_
    refine r_iload_n dX11_follows_31 4 rfl ?_
    obtain ⟨rq26, σ27, qg25, h⟩ := bd2_at h
    refine x_callV (Y := mX11_refusalOfLasso) (d' := 7) dX11_follows_32 ml_X11_230 yv_X11_refusalOfLasso (by omega) rfl rfl (by simp [Value.category]) (sR_is rfl rfl) (lc_X11_refusalOfLassoN qg25) ?_
    refine r_istore (lo' := [(5, .int rq26), (4, .null), (0, .ref (ad 0)), (1, .int x1), (2, .int x2), (3, .int x3)]) dX11_follows_35 (by decide) rfl ?_
    refine r_aloadN dX11_follows_37 1 rfl ?_
    refine r_ifnullN (t := 47) dX11_follows_39 (by decide) ?_
    refine r_aload_n dX11_follows_47 2 rfl ?_
    refine r_iload dX11_follows_48 0 rfl ?_
    obtain ⟨rq29, σ30, qg28, h⟩ := bd2_at h
    refine x_callV (Y := mX11_refuse) (d' := 1) dX11_follows_50 ml_X11_102 yv_X11_refuse (by omega) rfl rfl (by simp [Value.category]) (sR_is rfl rfl) (lc_X11_refuse qg28) ?_
    refine r_iret rfl dX11_follows_53 ?_
    exact lfI h
set_option maxRecDepth 8000 in
theorem lc_X11_follows {ad : Nat → Nat} {F : Nat} {x1 : Int32} {x2 : Int32} {x3 : Int32} {σ τ : sS} {r : Int32} (h : L_X11_follows F x1 x2 x3 σ = some (r, τ)) : ab_X (sR ad) 8 mX11_follows [.ref (ad 0), .int x1, .int x2, .int x3] σ (some (.int r)) τ := ab_X.of (by decide) (Nat.le_of_ble_eq_true rfl) (e_X11_follows h)
set_option maxRecDepth 8000 in
noncomputable def L_X11_areCounted (x0 : Int32) (x1 : Int32) : Int32 := if x0 < 0 then ((0 : Int32)) else (if 3 < x0 then ((0 : Int32)) else (if x1 < 1 then ((0 : Int32)) else (if 3 < x1 then ((0 : Int32)) else ((1 : Int32)))))
set_option maxRecDepth 8000 in
theorem e_X11_areCounted {ad : Nat → Nat} {x0 : Int32} {x1 : Int32} {σ : sS} {z : Int32} (h : L_X11_areCounted x0 x1 = z) : ab_E (sR ad) mX11_areCounted 1 0 [(0, .int x0), (1, .int x1)] [] σ (fun r9 σ9 => r9 = some (.int z) ∧ σ9 = σ) := by
  unfold L_X11_areCounted at h
  refine r_iload_n dX11_areCounted_0 0 rfl ?_
  refine r_if_lt (t := 23) dX11_areCounted_1 (by decide) (fun qc1 => ?_) (fun qc1 => ?_)
  · replace h := ifp h qc1
    refine r_iconst (v := 0) dX11_areCounted_23 (by decide) ?_
    refine r_zret rfl (by decide) dX11_areCounted_24 ?_
    exact lfT h
  · replace h := ifn h qc1
    refine r_iload_n dX11_areCounted_4 0 rfl ?_
    refine r_iconst (v := 3) dX11_areCounted_5 (by decide) ?_
    refine r_icmp_gt (t := 23) dX11_areCounted_6 (by decide) (fun qc2 => ?_) (fun qc2 => ?_)
    · replace h := ifp h qc2
      refine r_iconst (v := 0) dX11_areCounted_23 (by decide) ?_
      refine r_zret rfl (by decide) dX11_areCounted_24 ?_
      exact lfT h
    · replace h := ifn h qc2
      refine r_iload_n dX11_areCounted_9 1 rfl ?_
      refine r_iconst (v := 1) dX11_areCounted_10 (by decide) ?_
      refine r_icmp_lt (t := 23) dX11_areCounted_11 (by decide) (fun qc3 => ?_) (fun qc3 => ?_)
      · replace h := ifp h qc3
        refine r_iconst (v := 0) dX11_areCounted_23 (by decide) ?_
        refine r_zret rfl (by decide) dX11_areCounted_24 ?_
        exact lfT h
      · replace h := ifn h qc3
        refine r_iload_n dX11_areCounted_14 1 rfl ?_
        refine r_iconst (v := 3) dX11_areCounted_15 (by decide) ?_
        refine r_icmp_gt (t := 23) dX11_areCounted_16 (by decide) (fun qc4 => ?_) (fun qc4 => ?_)
        · replace h := ifp h qc4
          refine r_iconst (v := 0) dX11_areCounted_23 (by decide) ?_
          refine r_zret rfl (by decide) dX11_areCounted_24 ?_
          exact lfT h
        · replace h := ifn h qc4
          refine r_iconst (v := 1) dX11_areCounted_19 (by decide) ?_
          refine r_goto (t := 24) dX11_areCounted_20 (by decide) ?_
          refine r_zret rfl (by decide) dX11_areCounted_24 ?_
          exact lfT h
set_option maxRecDepth 8000 in
theorem lc_X11_areCounted {ad : Nat → Nat} (x0 : Int32) (x1 : Int32) (σ : sS) : ab_X (sR ad) 1 mX11_areCounted [.int x0, .int x1] σ (some (.int (L_X11_areCounted x0 x1))) σ := ab_X.of (by decide) (Nat.le_of_ble_eq_true rfl) (e_X11_areCounted rfl)
set_option maxRecDepth 8000 in
noncomputable def L_X11_counts (x1 : Int32) (x2 : Int32) (x3 : Int32) (σ : sS) : Option (Int32 × sS) := if q_at σ x1 = true then (bnd (27 + x1.toNatClampNeg) (fun ia2 => grd (isAu ia2) (if (L_X11_areCounted x2 x3) = 0 then (bd2 (L_X11_refuse 2 σ) (fun rq12 σ13 => some ((rq12, σ13)))) else (bd2 (L_ta0 ia2 x2 x3 σ) (fun rq6 σ7 => bd2 (L_X11_answer rq6 σ7) (fun rq9 σ10 => some ((rq9, σ10)))))))) else (bd2 (L_X11_refuse 1 σ) (fun rq15 σ16 => some ((rq15, σ16))))
set_option maxRecDepth 8000 in
theorem e_X11_counts {ad : Nat → Nat} {x1 : Int32} {x2 : Int32} {x3 : Int32} {σ : sS} {z : (Int32 × sS)} (h : L_X11_counts x1 x2 x3 σ = some z) : ab_E (sR ad) mX11_counts 13 0 [(0, .ref (ad 0)), (1, .int x1), (2, .int x2), (3, .int x3)] [] σ (fun r9 σ9 => r9 = some (.int z.1) ∧ σ9 = z.2) := by
  unfold L_X11_counts at h
  refine r_aload_n dX11_counts_0 0 rfl ?_
  refine r_iload_n dX11_counts_1 1 rfl ?_
  by_cases qm1 : q_at σ x1 = true
  · replace h := ifp h qm1
    refine x_callV (Y := mX11_machineAt) (d' := 1) dX11_counts_2 ml_X11_138 yv_X11_machineAt (by omega) rfl rfl (by simp [Value.category]) (sR_is rfl rfl) (c_X11_machineAt σ qm1) ?_
    refine r_topr (fun ia2 eia2 => ?_)
    replace h := bnd_at h eia2
    obtain ⟨qg3, h⟩ := grd_at h
    refine r_astore (lo' := [(4, .ref (ad ia2)), (0, .ref (ad 0)), (1, .int x1), (2, .int x2), (3, .int x3)]) dX11_counts_5 (by decide) rfl ?_
    refine r_aload dX11_counts_7 0 rfl ?_
    refine r_ifnonnull (t := 18) dX11_counts_9 (by decide) ?_
    refine r_iload_n dX11_counts_18 3 rfl ?_
    refine r_iload_n dX11_counts_19 4 rfl ?_
    refine x_callS (Y := mX11_areCounted) (d' := 1) dX11_counts_20 ml_X11_249 ys_X11_areCounted (by omega) rfl rfl (by simp [Value.category]) (lc_X11_areCounted x2 x3 σ) ?_
    refine r_if_ne (t := 32) dX11_counts_23 (by decide) (fun qc4 => ?_) (fun qc4 => ?_)
    · replace h := ifn h qc4
      refine r_aload_n dX11_counts_32 1 rfl ?_
      refine r_aload_n dX11_counts_33 1 rfl ?_
      refine s_getR (b := 45) ok_X11 dX11_counts_34 (k := 6) (by decide) fl_X11_74 rfl rfl rfl ?_
      refine r_aload dX11_counts_37 0 rfl ?_
      refine r_iload_n dX11_counts_39 3 rfl ?_
      refine r_iload_n dX11_counts_40 4 rfl ?_
      obtain ⟨rq6, σ7, qg5, h⟩ := bd2_at h
      refine x_callV (Y := mX6_tally) (d' := 12) dX11_counts_41 ml_X11_252 yv_X6_tally (by omega) rfl rfl (by simp [Value.category]) (sR_is rfl rfl) (lc_ta0 (isAu_of qg3) qg5) ?_
      obtain ⟨rq9, σ10, qg8, h⟩ := bd2_at h
      refine x_callV (Y := mX11_answer) (d' := 1) dX11_counts_44 ml_X11_126 yv_X11_answer (by omega) rfl rfl (by simp [Value.category]) (sR_is rfl rfl) (lc_X11_answer qg8) ?_
      refine r_iret rfl dX11_counts_47 ?_
      exact lfI h
    · replace h := ifp h qc4
      refine r_aload_n dX11_counts_26 1 rfl ?_
      refine r_iconst (v := 2) dX11_counts_27 (by decide) ?_
      obtain ⟨rq12, σ13, qg11, h⟩ := bd2_at h
      refine x_callV (Y := mX11_refuse) (d' := 1) dX11_counts_28 ml_X11_102 yv_X11_refuse (by omega) rfl rfl (by simp [Value.category]) (sR_is rfl rfl) (lc_X11_refuse qg11) ?_
      refine r_iret rfl dX11_counts_31 ?_
      exact lfI h
  · replace h := ifn h qm1
    refine x_callV (Y := mX11_machineAt) (d' := 1) dX11_counts_2 ml_X11_138 yv_X11_machineAt (by omega) rfl rfl (by simp [Value.category]) (sR_is rfl rfl) (c_X11_machineAtN σ qm1) ?_
    refine r_astoreN (lo' := [(4, .null), (0, .ref (ad 0)), (1, .int x1), (2, .int x2), (3, .int x3)]) dX11_counts_5 (by decide) rfl ?_
    refine r_aloadN dX11_counts_7 0 rfl ?_
    refine r_ifnonnullN dX11_counts_9 ?_
    refine r_aload_n dX11_counts_12 1 rfl ?_
    refine r_iconst (v := 1) dX11_counts_13 (by decide) ?_
    obtain ⟨rq15, σ16, qg14, h⟩ := bd2_at h
    refine x_callV (Y := mX11_refuse) (d' := 1) dX11_counts_14 ml_X11_102 yv_X11_refuse (by omega) rfl rfl (by simp [Value.category]) (sR_is rfl rfl) (lc_X11_refuse qg14) ?_
    refine r_iret rfl dX11_counts_17 ?_
    exact lfI h
set_option maxRecDepth 8000 in
theorem lc_X11_counts {ad : Nat → Nat} {x1 : Int32} {x2 : Int32} {x3 : Int32} {σ τ : sS} {r : Int32} (h : L_X11_counts x1 x2 x3 σ = some (r, τ)) : ab_X (sR ad) 13 mX11_counts [.ref (ad 0), .int x1, .int x2, .int x3] σ (some (.int r)) τ := ab_X.of (by decide) (Nat.le_of_ble_eq_true rfl) (e_X11_counts h)
set_option maxRecDepth 8000 in
noncomputable def L_X11_others (x1 : Int32) (x2 : Int32) (x3 : Int32) (σ : sS) : Option (Int32 × sS) := if q_at σ x1 = true then (bnd (33 + x1.toNatClampNeg) (fun ic2 => grd (isCo ic2) (if (L_X11_areCounted x2 x3) = 0 then (bd2 (L_X11_refuse 2 σ) (fun rq19 σ20 => some ((rq19, σ20)))) else (bd2 (L_X1_stands ic2 σ) (fun rq6 σ7 => if rq6 = 0 then (bd2 (L_X11_refuse 3 σ7) (fun rq10 σ11 => some ((rq10, σ11)))) else (bd2 (L_ta1 ic2 x2 x3 σ7) (fun rq13 σ14 => bd2 (L_X11_answer rq13 σ14) (fun rq16 σ17 => some ((rq16, σ17)))))))))) else (bd2 (L_X11_refuse 1 σ) (fun rq22 σ23 => some ((rq22, σ23))))
set_option maxRecDepth 8000 in
theorem e_X11_others {ad : Nat → Nat} {x1 : Int32} {x2 : Int32} {x3 : Int32} {σ : sS} {z : (Int32 × sS)} (h : L_X11_others x1 x2 x3 σ = some z) : ab_E (sR ad) mX11_others 13 0 [(0, .ref (ad 0)), (1, .int x1), (2, .int x2), (3, .int x3)] [] σ (fun r9 σ9 => r9 = some (.int z.1) ∧ σ9 = z.2) := by
  unfold L_X11_others at h
  refine r_aload_n dX11_others_0 0 rfl ?_
  refine r_iload_n dX11_others_1 1 rfl ?_
  by_cases qm1 : q_at σ x1 = true
  · replace h := ifp h qm1
    refine x_callV (Y := mX11_complementAt) (d' := 1) dX11_others_2 ml_X11_202 yv_X11_complementAt (by omega) rfl rfl (by simp [Value.category]) (sR_is rfl rfl) (c_X11_complementAt σ qm1) ?_
    refine r_topr (fun ic2 eic2 => ?_)
    replace h := bnd_at h eic2
    obtain ⟨qg3, h⟩ := grd_at h
    refine r_astore (lo' := [(4, .ref (ad ic2)), (0, .ref (ad 0)), (1, .int x1), (2, .int x2), (3, .int x3)]) dX11_others_5 (by decide) rfl ?_
    refine r_aload dX11_others_7 0 rfl ?_
    refine r_ifnonnull (t := 18) dX11_others_9 (by decide) ?_
    refine r_iload_n dX11_others_18 3 rfl ?_
    refine r_iload_n dX11_others_19 4 rfl ?_
    refine x_callS (Y := mX11_areCounted) (d' := 1) dX11_others_20 ml_X11_249 ys_X11_areCounted (by omega) rfl rfl (by simp [Value.category]) (lc_X11_areCounted x2 x3 σ) ?_
    refine r_if_ne (t := 32) dX11_others_23 (by decide) (fun qc4 => ?_) (fun qc4 => ?_)
    · replace h := ifn h qc4
      refine r_aload dX11_others_32 0 rfl ?_
      obtain ⟨rq6, σ7, qg5, h⟩ := bd2_at h
      refine x_callV (Y := mX1_stands) (d' := 10) dX11_others_34 ml_X11_206 yv_X1_stands (by omega) rfl rfl (by simp [Value.category]) (sR_is (isCo_of qg3) rfl) (lc_X1_stands (isCo_of qg3) qg5) ?_
      refine r_if_eq (t := 58) dX11_others_37 (by decide) (fun qc8 => ?_) (fun qc8 => ?_)
      · replace h := ifp h qc8
        refine r_aload_n dX11_others_58 1 rfl ?_
        refine r_iconst (v := 3) dX11_others_59 (by decide) ?_
        obtain ⟨rq10, σ11, qg9, h⟩ := bd2_at h
        refine x_callV (Y := mX11_refuse) (d' := 1) dX11_others_60 ml_X11_102 yv_X11_refuse (by omega) rfl rfl (by simp [Value.category]) (sR_is rfl rfl) (lc_X11_refuse qg9) ?_
        refine r_iret rfl dX11_others_63 ?_
        exact lfI h
      · replace h := ifn h qc8
        refine r_aload_n dX11_others_40 1 rfl ?_
        refine r_aload_n dX11_others_41 1 rfl ?_
        refine s_getR (b := 45) ok_X11 dX11_others_42 (k := 6) (by decide) fl_X11_74 rfl rfl rfl ?_
        refine r_aload dX11_others_45 0 rfl ?_
        refine r_iload_n dX11_others_47 3 rfl ?_
        refine r_iload_n dX11_others_48 4 rfl ?_
        obtain ⟨rq13, σ14, qg12, h⟩ := bd2_at h
        refine x_callV (Y := mX6_tally) (d' := 12) dX11_others_49 ml_X11_252 yv_X6_tally (by omega) rfl rfl (by simp [Value.category]) (sR_is rfl rfl) (lc_ta1 (isCo_of qg3) qg12) ?_
        obtain ⟨rq16, σ17, qg15, h⟩ := bd2_at h
        refine x_callV (Y := mX11_answer) (d' := 1) dX11_others_52 ml_X11_126 yv_X11_answer (by omega) rfl rfl (by simp [Value.category]) (sR_is rfl rfl) (lc_X11_answer qg15) ?_
        refine r_goto (t := 63) dX11_others_55 (by decide) ?_
        refine r_iret rfl dX11_others_63 ?_
        exact lfI h
    · replace h := ifp h qc4
      refine r_aload_n dX11_others_26 1 rfl ?_
      refine r_iconst (v := 2) dX11_others_27 (by decide) ?_
      obtain ⟨rq19, σ20, qg18, h⟩ := bd2_at h
      refine x_callV (Y := mX11_refuse) (d' := 1) dX11_others_28 ml_X11_102 yv_X11_refuse (by omega) rfl rfl (by simp [Value.category]) (sR_is rfl rfl) (lc_X11_refuse qg18) ?_
      refine r_iret rfl dX11_others_31 ?_
      exact lfI h
  · replace h := ifn h qm1
    refine x_callV (Y := mX11_complementAt) (d' := 1) dX11_others_2 ml_X11_202 yv_X11_complementAt (by omega) rfl rfl (by simp [Value.category]) (sR_is rfl rfl) (c_X11_complementAtN σ qm1) ?_
    refine r_astoreN (lo' := [(4, .null), (0, .ref (ad 0)), (1, .int x1), (2, .int x2), (3, .int x3)]) dX11_others_5 (by decide) rfl ?_
    refine r_aloadN dX11_others_7 0 rfl ?_
    refine r_ifnonnullN dX11_others_9 ?_
    refine r_aload_n dX11_others_12 1 rfl ?_
    refine r_iconst (v := 1) dX11_others_13 (by decide) ?_
    obtain ⟨rq22, σ23, qg21, h⟩ := bd2_at h
    refine x_callV (Y := mX11_refuse) (d' := 1) dX11_others_14 ml_X11_102 yv_X11_refuse (by omega) rfl rfl (by simp [Value.category]) (sR_is rfl rfl) (lc_X11_refuse qg21) ?_
    refine r_iret rfl dX11_others_17 ?_
    exact lfI h
set_option maxRecDepth 8000 in
theorem lc_X11_others {ad : Nat → Nat} {x1 : Int32} {x2 : Int32} {x3 : Int32} {σ τ : sS} {r : Int32} (h : L_X11_others x1 x2 x3 σ = some (r, τ)) : ab_X (sR ad) 13 mX11_others [.ref (ad 0), .int x1, .int x2, .int x3] σ (some (.int r)) τ := ab_X.of (by decide) (Nat.le_of_ble_eq_true rfl) (e_X11_others h)
set_option maxRecDepth 8000 in
noncomputable def L_X11_empty (x1 : Int32) (σ : sS) : Option (Int32 × sS) := if q_at σ x1 = true then (bnd (27 + x1.toNatClampNeg) (fun ia2 => grd (isAu ia2) (bd2 (L_sh0 ia2 σ) (fun rq5 σ6 => if rq5 = 0 then (bd2 (L_X11_answer 1 σ6) (fun rq9 σ10 => some ((rq9, σ10)))) else (bd2 (L_X11_answer 0 σ6) (fun rq12 σ13 => some ((rq12, σ13)))))))) else (bd2 (L_X11_refuse 1 σ) (fun rq15 σ16 => some ((rq15, σ16))))
set_option maxRecDepth 8000 in
theorem e_X11_empty {ad : Nat → Nat} {x1 : Int32} {σ : sS} {z : (Int32 × sS)} (h : L_X11_empty x1 σ = some z) : ab_E (sR ad) mX11_empty 12 0 [(0, .ref (ad 0)), (1, .int x1)] [] σ (fun r9 σ9 => r9 = some (.int z.1) ∧ σ9 = z.2) := by
  unfold L_X11_empty at h
  refine r_aload_n dX11_empty_0 0 rfl ?_
  refine r_iload_n dX11_empty_1 1 rfl ?_
  by_cases qm1 : q_at σ x1 = true
  · replace h := ifp h qm1
    refine x_callV (Y := mX11_machineAt) (d' := 1) dX11_empty_2 ml_X11_138 yv_X11_machineAt (by omega) rfl rfl (by simp [Value.category]) (sR_is rfl rfl) (c_X11_machineAt σ qm1) ?_
    refine r_topr (fun ia2 eia2 => ?_)
    replace h := bnd_at h eia2
    obtain ⟨qg3, h⟩ := grd_at h
    refine r_astore_n (lo' := [(2, .ref (ad ia2)), (0, .ref (ad 0)), (1, .int x1)]) dX11_empty_5 (by decide) rfl ?_
    refine r_aload_n dX11_empty_6 0 rfl ?_
    refine r_ifnonnull (t := 16) dX11_empty_7 (by decide) ?_
    refine r_aload_n dX11_empty_16 1 rfl ?_
    refine r_aload_n dX11_empty_17 1 rfl ?_
    refine s_getR (b := 56) ok_X11 dX11_empty_18 (k := 8) (by decide) fl_X11_56 rfl rfl rfl ?_
    refine r_aload_n dX11_empty_21 0 rfl ?_
    obtain ⟨rq5, σ6, qg4, h⟩ := bd2_at h
    refine x_callV (Y := mX8_show) (d' := 11) dX11_empty_22 ml_X11_256 yv_X8_show (by omega) rfl rfl (by simp [Value.category]) (sR_is rfl rfl) (lc_sh0 (isAu_of qg3) qg4) ?_
    refine r_if_eq (t := 32) dX11_empty_25 (by decide) (fun qc7 => ?_) (fun qc7 => ?_)
    · replace h := ifp h qc7
      refine r_iconst (v := 1) dX11_empty_32 (by decide) ?_
      obtain ⟨rq9, σ10, qg8, h⟩ := bd2_at h
      refine x_callV (Y := mX11_answer) (d' := 1) dX11_empty_33 ml_X11_126 yv_X11_answer (by omega) rfl rfl (by simp [Value.category]) (sR_is rfl rfl) (lc_X11_answer qg8) ?_
      refine r_iret rfl dX11_empty_36 ?_
      exact lfI h
    · replace h := ifn h qc7
      refine r_iconst (v := 0) dX11_empty_28 (by decide) ?_
      refine r_goto (t := 33) dX11_empty_29 (by decide) ?_
      obtain ⟨rq12, σ13, qg11, h⟩ := bd2_at h
      refine x_callV (Y := mX11_answer) (d' := 1) dX11_empty_33 ml_X11_126 yv_X11_answer (by omega) rfl rfl (by simp [Value.category]) (sR_is rfl rfl) (lc_X11_answer qg11) ?_
      refine r_iret rfl dX11_empty_36 ?_
      exact lfI h
  · replace h := ifn h qm1
    refine x_callV (Y := mX11_machineAt) (d' := 1) dX11_empty_2 ml_X11_138 yv_X11_machineAt (by omega) rfl rfl (by simp [Value.category]) (sR_is rfl rfl) (c_X11_machineAtN σ qm1) ?_
    refine r_astore_nN (lo' := [(2, .null), (0, .ref (ad 0)), (1, .int x1)]) dX11_empty_5 (by decide) rfl ?_
    refine r_aload_nN dX11_empty_6 0 rfl ?_
    refine r_ifnonnullN dX11_empty_7 ?_
    refine r_aload_n dX11_empty_10 1 rfl ?_
    refine r_iconst (v := 1) dX11_empty_11 (by decide) ?_
    obtain ⟨rq15, σ16, qg14, h⟩ := bd2_at h
    refine x_callV (Y := mX11_refuse) (d' := 1) dX11_empty_12 ml_X11_102 yv_X11_refuse (by omega) rfl rfl (by simp [Value.category]) (sR_is rfl rfl) (lc_X11_refuse qg14) ?_
    refine r_iret rfl dX11_empty_15 ?_
    exact lfI h
set_option maxRecDepth 8000 in
theorem lc_X11_empty {ad : Nat → Nat} {x1 : Int32} {σ τ : sS} {r : Int32} (h : L_X11_empty x1 σ = some (r, τ)) : ab_X (sR ad) 12 mX11_empty [.ref (ad 0), .int x1] σ (some (.int r)) τ := ab_X.of (by decide) (Nat.le_of_ble_eq_true rfl) (e_X11_empty h)
