/-! OddRanks, lifted -/
set_option maxRecDepth 8000 in
noncomputable def L_X11_ranked (x1 : Int32) (x2 : Int32) (x3 : Int32) (x4 : Int32) (x5 : Int32) (σ : sS) : Option (Int32 × sS) := if q_at σ x1 = true then (bnd (27 + x1.toNatClampNeg) (fun ia2 => grd (isAu ia2) (if (a_hs σ ia2 x5) = 0 then (bd2 (L_X11_refuse 1 σ) (fun rq30 σ31 => some ((rq30, σ31)))) else (if (a_ht σ ia2 x2) = 0 then (bd2 (L_X11_refuse 2 σ) (fun rq7 σ8 => some ((rq7, σ8)))) else (if (L_X11_isGreatest x3) = 0 then (bd2 (L_X11_refuse 2 σ) (fun rq27 σ28 => some ((rq27, σ28)))) else (bnd (k_fu σ x2 (vI σ ia2 4) x3 (k_lv x3)) (fun σ10 => if x4 < 0 then (bd2 (L_X11_refuse 5 σ10) (fun rq13 σ14 => some ((rq13, σ14)))) else (if (vI σ10 15 1) ≤ x4 then (bd2 (L_X11_refuse 5 σ10) (fun rq17 σ18 => some ((rq17, σ18)))) else (if (q_in x5 x2) = 0 then (bd2 (L_X11_refuse 5 σ10) (fun rq24 σ25 => some ((rq24, σ25)))) else (bd2 (L_X11_answer (k_ro (rg σ10 16 x4) x5) σ10) (fun rq21 σ22 => some ((rq21, σ22))))))))))))) else (bd2 (L_X11_refuse 1 σ) (fun rq33 σ34 => some ((rq33, σ34))))
set_option maxRecDepth 8000 in
theorem e_X11_ranked {ad : Nat → Nat} {x1 : Int32} {x2 : Int32} {x3 : Int32} {x4 : Int32} {x5 : Int32} {σ : sS} {z : (Int32 × sS)} (h : L_X11_ranked x1 x2 x3 x4 x5 σ = some z) : ab_E (sR ad) mX11_ranked 8 0 [(0, .ref (ad 0)), (1, .int x1), (2, .int x2), (3, .int x3), (4, .int x4), (5, .int x5)] [] σ (fun r9 σ9 => r9 = some (.int z.1) ∧ σ9 = z.2) := by
  unfold L_X11_ranked at h
  refine r_aload_n dX11_ranked_0 0 rfl ?_
  refine r_iload_n dX11_ranked_1 1 rfl ?_
  by_cases qm1 : q_at σ x1 = true
  · replace h := ifp h qm1
    refine x_callV (Y := mX11_machineAt) (d' := 1) dX11_ranked_2 ml_X11_138 yv_X11_machineAt (by omega) rfl rfl (by simp [Value.category]) (sR_is rfl rfl) (c_X11_machineAt σ qm1) ?_
    refine r_topr (fun ia2 eia2 => ?_)
    replace h := bnd_at h eia2
    obtain ⟨qg3, h⟩ := grd_at h
    refine r_astore (lo' := [(6, .ref (ad ia2)), (0, .ref (ad 0)), (1, .int x1), (2, .int x2), (3, .int x3), (4, .int x4), (5, .int x5)]) dX11_ranked_5 (by decide) rfl ?_
    refine r_aload dX11_ranked_7 0 rfl ?_
    refine r_ifnull dX11_ranked_9 ?_
    refine r_aload dX11_ranked_12 0 rfl ?_
    refine r_iload dX11_ranked_14 6 rfl ?_
    refine x_callV (Y := mX0_hasState) (d' := 1) dX11_ranked_16 ml_X11_189 yv_X0_hasState (by omega) rfl rfl (by simp [Value.category]) (sR_is (isAu_of qg3) rfl) (c_X0_hasState σ (isAu_of qg3) x5) ?_
    refine r_if_ne (t := 28) dX11_ranked_19 (by decide) (fun qc4 => ?_) (fun qc4 => ?_)
    · replace h := ifn h qc4
      refine r_aload dX11_ranked_28 0 rfl ?_
      refine r_iload_n dX11_ranked_30 3 rfl ?_
      refine x_callV (Y := mX0_hasSet) (d' := 1) dX11_ranked_31 ml_X11_168 yv_X0_hasSet (by omega) rfl rfl (by simp [Value.category]) (sR_is (isAu_of qg3) rfl) (c_X0_hasSet σ (isAu_of qg3) x2) ?_
      refine r_if_eq (t := 44) dX11_ranked_34 (by decide) (fun qc5 => ?_) (fun qc5 => ?_)
      · replace h := ifp h qc5
        refine r_aload_n dX11_ranked_44 1 rfl ?_
        refine r_iconst (v := 2) dX11_ranked_45 (by decide) ?_
        obtain ⟨rq7, σ8, qg6, h⟩ := bd2_at h
        refine x_callV (Y := mX11_refuse) (d' := 1) dX11_ranked_46 ml_X11_102 yv_X11_refuse (by omega) rfl rfl (by simp [Value.category]) (sR_is rfl rfl) (lc_X11_refuse qg6) ?_
        refine r_iret rfl dX11_ranked_49 ?_
        exact lfI h
      · replace h := ifn h qc5
        refine r_iload_n dX11_ranked_37 4 rfl ?_
        refine x_callS (Y := mX11_isGreatest) (d' := 1) dX11_ranked_38 ml_X11_178 ys_X11_isGreatest (by omega) rfl rfl (by simp [Value.category]) (lc_X11_isGreatest x3 σ) ?_
        refine r_if_ne (t := 50) dX11_ranked_41 (by decide) (fun qc9 => ?_) (fun qc9 => ?_)
        · replace h := ifn h qc9
          refine r_aload_n dX11_ranked_50 1 rfl ?_
          refine s_getR (b := 15) ok_X11 dX11_ranked_51 (k := 2) (by decide) fl_X11_28 rfl rfl rfl ?_
          refine r_iload_n dX11_ranked_54 3 rfl ?_
          refine r_aload dX11_ranked_55 0 rfl ?_
          refine s_getI ok_X0 dX11_ranked_57 (k := 4) (by decide) fl_X11_148 (isAu_of qg3) rfl ?_
          refine r_iload_n dX11_ranked_60 4 rfl ?_
          refine r_iload_n dX11_ranked_61 4 rfl ?_
          refine x_callS (Y := mX4_level) (d' := 2) dX11_ranked_62 ml_X11_181 ys_X4_level (by omega) rfl rfl (by simp [Value.category]) (c_X4_level σ x3) ?_
          refine x_callV0 (Y := mX4_findUnder) (d' := 7) dX11_ranked_65 ml_X11_184 yv_X4_findUnder (by omega) rfl rfl (by simp [Value.category]) (sR_is rfl rfl) (c_X4_findUnder σ x2 (vI σ ia2 4) x3 (k_lv x3)) ?_
          refine r_st (fun σ10 eσ10 => ?_)
          replace h := bnd_at h eσ10
          refine r_iload dX11_ranked_68 5 rfl ?_
          refine r_if_lt (t := 94) dX11_ranked_70 (by decide) (fun qc11 => ?_) (fun qc11 => ?_)
          · replace h := ifp h qc11
            refine r_aload_n dX11_ranked_94 1 rfl ?_
            refine r_iconst (v := 5) dX11_ranked_95 (by decide) ?_
            obtain ⟨rq13, σ14, qg12, h⟩ := bd2_at h
            refine x_callV (Y := mX11_refuse) (d' := 1) dX11_ranked_96 ml_X11_102 yv_X11_refuse (by omega) rfl rfl (by simp [Value.category]) (sR_is rfl rfl) (lc_X11_refuse qg12) ?_
            refine r_iret rfl dX11_ranked_99 ?_
            exact lfI h
          · replace h := ifn h qc11
            refine r_iload dX11_ranked_73 5 rfl ?_
            refine r_aload_n dX11_ranked_75 1 rfl ?_
            refine s_getR (b := 15) ok_X11 dX11_ranked_76 (k := 2) (by decide) fl_X11_28 rfl rfl rfl ?_
            refine s_getI ok_X4 dX11_ranked_79 (k := 1) (by decide) fl_X11_188 rfl rfl ?_
            refine r_icmp_ge (t := 94) dX11_ranked_82 (by decide) (fun qc15 => ?_) (fun qc15 => ?_)
            · replace h := ifp h qc15
              refine r_aload_n dX11_ranked_94 1 rfl ?_
              refine r_iconst (v := 5) dX11_ranked_95 (by decide) ?_
              obtain ⟨rq17, σ18, qg16, h⟩ := bd2_at h
              refine x_callV (Y := mX11_refuse) (d' := 1) dX11_ranked_96 ml_X11_102 yv_X11_refuse (by omega) rfl rfl (by simp [Value.category]) (sR_is rfl rfl) (lc_X11_refuse qg16) ?_
              refine r_iret rfl dX11_ranked_99 ?_
              exact lfI h
            · replace h := ifn h qc15
              refine r_iload dX11_ranked_85 6 rfl ?_
              refine r_iload_n dX11_ranked_87 3 rfl ?_
              refine x_callS (Y := mX11_isIn) (d' := 1) dX11_ranked_88 ml_X11_192 ys_X11_isIn (by omega) rfl rfl (by simp [Value.category]) (c_X11_isIn σ10 x5 x2) ?_
              refine r_if_ne (t := 100) dX11_ranked_91 (by decide) (fun qc19 => ?_) (fun qc19 => ?_)
              · replace h := ifn h qc19
                refine r_aload_n dX11_ranked_100 1 rfl ?_
                refine r_aload_n dX11_ranked_101 1 rfl ?_
                refine s_getR (b := 15) ok_X11 dX11_ranked_102 (k := 2) (by decide) fl_X11_28 rfl rfl rfl ?_
                refine r_iload dX11_ranked_105 5 rfl ?_
                refine x_callV (Y := mX4_foundAt) (d' := 2) dX11_ranked_107 ml_X11_196 yv_X4_foundAt (by omega) rfl rfl (by simp [Value.category]) (sR_is rfl rfl) (c_X4_foundAt σ10 x4) ?_
                refine r_iload dX11_ranked_110 6 rfl ?_
                refine x_callS (Y := mX4_rankOf) (d' := 1) dX11_ranked_112 ml_X11_199 ys_X4_rankOf (by omega) rfl rfl (by simp [Value.category]) (c_X4_rankOf σ10 (rg σ10 16 x4) x5) ?_
                obtain ⟨rq21, σ22, qg20, h⟩ := bd2_at h
                refine x_callV (Y := mX11_answer) (d' := 1) dX11_ranked_115 ml_X11_126 yv_X11_answer (by omega) rfl rfl (by simp [Value.category]) (sR_is rfl rfl) (lc_X11_answer qg20) ?_
                refine r_iret rfl dX11_ranked_118 ?_
                exact lfI h
              · replace h := ifp h qc19
                refine r_aload_n dX11_ranked_94 1 rfl ?_
                refine r_iconst (v := 5) dX11_ranked_95 (by decide) ?_
                obtain ⟨rq24, σ25, qg23, h⟩ := bd2_at h
                refine x_callV (Y := mX11_refuse) (d' := 1) dX11_ranked_96 ml_X11_102 yv_X11_refuse (by omega) rfl rfl (by simp [Value.category]) (sR_is rfl rfl) (lc_X11_refuse qg23) ?_
                refine r_iret rfl dX11_ranked_99 ?_
                exact lfI h
        · replace h := ifp h qc9
          refine r_aload_n dX11_ranked_44 1 rfl ?_
          refine r_iconst (v := 2) dX11_ranked_45 (by decide) ?_
          obtain ⟨rq27, σ28, qg26, h⟩ := bd2_at h
          refine x_callV (Y := mX11_refuse) (d' := 1) dX11_ranked_46 ml_X11_102 yv_X11_refuse (by omega) rfl rfl (by simp [Value.category]) (sR_is rfl rfl) (lc_X11_refuse qg26) ?_
          refine r_iret rfl dX11_ranked_49 ?_
          exact lfI h
    · replace h := ifp h qc4
      refine r_aload_n dX11_ranked_22 1 rfl ?_
      refine r_iconst (v := 1) dX11_ranked_23 (by decide) ?_
      obtain ⟨rq30, σ31, qg29, h⟩ := bd2_at h
      refine x_callV (Y := mX11_refuse) (d' := 1) dX11_ranked_24 ml_X11_102 yv_X11_refuse (by omega) rfl rfl (by simp [Value.category]) (sR_is rfl rfl) (lc_X11_refuse qg29) ?_
      refine r_iret rfl dX11_ranked_27 ?_
      exact lfI h
  · replace h := ifn h qm1
    refine x_callV (Y := mX11_machineAt) (d' := 1) dX11_ranked_2 ml_X11_138 yv_X11_machineAt (by omega) rfl rfl (by simp [Value.category]) (sR_is rfl rfl) (c_X11_machineAtN σ qm1) ?_
    refine r_astoreN (lo' := [(6, .null), (0, .ref (ad 0)), (1, .int x1), (2, .int x2), (3, .int x3), (4, .int x4), (5, .int x5)]) dX11_ranked_5 (by decide) rfl ?_
    refine r_aloadN dX11_ranked_7 0 rfl ?_
    refine r_ifnullN (t := 22) dX11_ranked_9 (by decide) ?_
    refine r_aload_n dX11_ranked_22 1 rfl ?_
    refine r_iconst (v := 1) dX11_ranked_23 (by decide) ?_
    obtain ⟨rq33, σ34, qg32, h⟩ := bd2_at h
    refine x_callV (Y := mX11_refuse) (d' := 1) dX11_ranked_24 ml_X11_102 yv_X11_refuse (by omega) rfl rfl (by simp [Value.category]) (sR_is rfl rfl) (lc_X11_refuse qg32) ?_
    refine r_iret rfl dX11_ranked_27 ?_
    exact lfI h
set_option maxRecDepth 8000 in
theorem lc_X11_ranked {ad : Nat → Nat} {x1 : Int32} {x2 : Int32} {x3 : Int32} {x4 : Int32} {x5 : Int32} {σ τ : sS} {r : Int32} (h : L_X11_ranked x1 x2 x3 x4 x5 σ = some (r, τ)) : ab_X (sR ad) 8 mX11_ranked [.ref (ad 0), .int x1, .int x2, .int x3, .int x4, .int x5] σ (some (.int r)) τ := ab_X.of (by decide) (Nat.le_of_ble_eq_true rfl) (e_X11_ranked h)
set_option maxRecDepth 8000 in
noncomputable def L_X11_complement (x1 : Int32) (σ : sS) : Option (Int32 × sS) := if q_at σ x1 = true then (bnd (33 + x1.toNatClampNeg) (fun ic2 => grd (isCo ic2) (bd2 (L_X1_stands ic2 σ) (fun rq5 σ6 => if rq5 = 0 then (bd2 (L_X11_refuse 3 σ6) (fun rq9 σ10 => some ((rq9, σ10)))) else (bd2 (L_X11_answer (vI σ6 ic2 7) σ6) (fun rq12 σ13 => some ((rq12, σ13)))))))) else (bd2 (L_X11_refuse 1 σ) (fun rq15 σ16 => some ((rq15, σ16))))
set_option maxRecDepth 8000 in
theorem e_X11_complement {ad : Nat → Nat} {x1 : Int32} {σ : sS} {z : (Int32 × sS)} (h : L_X11_complement x1 σ = some z) : ab_E (sR ad) mX11_complement 11 0 [(0, .ref (ad 0)), (1, .int x1)] [] σ (fun r9 σ9 => r9 = some (.int z.1) ∧ σ9 = z.2) := by
  unfold L_X11_complement at h
  refine r_aload_n dX11_complement_0 0 rfl ?_
  refine r_iload_n dX11_complement_1 1 rfl ?_
  by_cases qm1 : q_at σ x1 = true
  · replace h := ifp h qm1
    refine x_callV (Y := mX11_complementAt) (d' := 1) dX11_complement_2 ml_X11_202 yv_X11_complementAt (by omega) rfl rfl (by simp [Value.category]) (sR_is rfl rfl) (c_X11_complementAt σ qm1) ?_
    refine r_topr (fun ic2 eic2 => ?_)
    replace h := bnd_at h eic2
    obtain ⟨qg3, h⟩ := grd_at h
    refine r_astore_n (lo' := [(2, .ref (ad ic2)), (0, .ref (ad 0)), (1, .int x1)]) dX11_complement_5 (by decide) rfl ?_
    refine r_aload_n dX11_complement_6 0 rfl ?_
    refine r_ifnonnull (t := 16) dX11_complement_7 (by decide) ?_
    refine r_aload_n dX11_complement_16 0 rfl ?_
    obtain ⟨rq5, σ6, qg4, h⟩ := bd2_at h
    refine x_callV (Y := mX1_stands) (d' := 10) dX11_complement_17 ml_X11_206 yv_X1_stands (by omega) rfl rfl (by simp [Value.category]) (sR_is (isCo_of qg3) rfl) (lc_X1_stands (isCo_of qg3) qg4) ?_
    refine r_if_eq (t := 34) dX11_complement_20 (by decide) (fun qc7 => ?_) (fun qc7 => ?_)
    · replace h := ifp h qc7
      refine r_aload_n dX11_complement_34 1 rfl ?_
      refine r_iconst (v := 3) dX11_complement_35 (by decide) ?_
      obtain ⟨rq9, σ10, qg8, h⟩ := bd2_at h
      refine x_callV (Y := mX11_refuse) (d' := 1) dX11_complement_36 ml_X11_102 yv_X11_refuse (by omega) rfl rfl (by simp [Value.category]) (sR_is rfl rfl) (lc_X11_refuse qg8) ?_
      refine r_iret rfl dX11_complement_39 ?_
      exact lfI h
    · replace h := ifn h qc7
      refine r_aload_n dX11_complement_23 1 rfl ?_
      refine r_aload_n dX11_complement_24 0 rfl ?_
      refine s_getI ok_X1 dX11_complement_25 (k := 7) (by decide) fl_X11_209 (isCo_of qg3) rfl ?_
      obtain ⟨rq12, σ13, qg11, h⟩ := bd2_at h
      refine x_callV (Y := mX11_answer) (d' := 1) dX11_complement_28 ml_X11_126 yv_X11_answer (by omega) rfl rfl (by simp [Value.category]) (sR_is rfl rfl) (lc_X11_answer qg11) ?_
      refine r_goto (t := 39) dX11_complement_31 (by decide) ?_
      refine r_iret rfl dX11_complement_39 ?_
      exact lfI h
  · replace h := ifn h qm1
    refine x_callV (Y := mX11_complementAt) (d' := 1) dX11_complement_2 ml_X11_202 yv_X11_complementAt (by omega) rfl rfl (by simp [Value.category]) (sR_is rfl rfl) (c_X11_complementAtN σ qm1) ?_
    refine r_astore_nN (lo' := [(2, .null), (0, .ref (ad 0)), (1, .int x1)]) dX11_complement_5 (by decide) rfl ?_
    refine r_aload_nN dX11_complement_6 0 rfl ?_
    refine r_ifnonnullN dX11_complement_7 ?_
    refine r_aload_n dX11_complement_10 1 rfl ?_
    refine r_iconst (v := 1) dX11_complement_11 (by decide) ?_
    obtain ⟨rq15, σ16, qg14, h⟩ := bd2_at h
    refine x_callV (Y := mX11_refuse) (d' := 1) dX11_complement_12 ml_X11_102 yv_X11_refuse (by omega) rfl rfl (by simp [Value.category]) (sR_is rfl rfl) (lc_X11_refuse qg14) ?_
    refine r_iret rfl dX11_complement_15 ?_
    exact lfI h
set_option maxRecDepth 8000 in
theorem lc_X11_complement {ad : Nat → Nat} {x1 : Int32} {σ τ : sS} {r : Int32} (h : L_X11_complement x1 σ = some (r, τ)) : ab_X (sR ad) 11 mX11_complement [.ref (ad 0), .int x1] σ (some (.int r)) τ := ab_X.of (by decide) (Nat.le_of_ble_eq_true rfl) (e_X11_complement h)
set_option maxRecDepth 8000 in
noncomputable def L_X11_node (x1 : Int32) (x2 : Int32) (x3 : Int32) (σ : sS) : Option (Int32 × sS) := if q_at σ x1 = true then (bnd (33 + x1.toNatClampNeg) (fun ic2 => grd (isCo ic2) (if x2 < 0 then (bd2 (L_X11_refuse 1 σ) (fun rq6 σ7 => some ((rq6, σ7)))) else (if x3 < 0 then (bd2 (L_X11_refuse 1 σ) (fun rq10 σ11 => some ((rq10, σ11)))) else (if x3 ≤ 5 then (bd2 (L_X1_stands ic2 σ) (fun rq14 σ15 => if rq14 = 0 then (bd2 (L_X11_refuse 3 σ15) (fun rq27 σ28 => some ((rq27, σ28)))) else (if x2 < (vI σ15 ic2 7) then (bd (L_X1_told ic2 x2 x3 σ15) (fun rq19 => bd2 (L_X11_answer rq19 σ15) (fun rq21 σ22 => some ((rq21, σ22))))) else (bd2 (L_X11_refuse 1 σ15) (fun rq24 σ25 => some ((rq24, σ25))))))) else (bd2 (L_X11_refuse 1 σ) (fun rq30 σ31 => some ((rq30, σ31))))))))) else (bd2 (L_X11_refuse 1 σ) (fun rq33 σ34 => some ((rq33, σ34))))
set_option maxRecDepth 8000 in
theorem e_X11_node {ad : Nat → Nat} {x1 : Int32} {x2 : Int32} {x3 : Int32} {σ : sS} {z : (Int32 × sS)} (h : L_X11_node x1 x2 x3 σ = some z) : ab_E (sR ad) mX11_node 11 0 [(0, .ref (ad 0)), (1, .int x1), (2, .int x2), (3, .int x3)] [] σ (fun r9 σ9 => r9 = some (.int z.1) ∧ σ9 = z.2) := by
  unfold L_X11_node at h
  refine r_aload_n dX11_node_0 0 rfl ?_
  refine r_iload_n dX11_node_1 1 rfl ?_
  by_cases qm1 : q_at σ x1 = true
  · replace h := ifp h qm1
    refine x_callV (Y := mX11_complementAt) (d' := 1) dX11_node_2 ml_X11_202 yv_X11_complementAt (by omega) rfl rfl (by simp [Value.category]) (sR_is rfl rfl) (c_X11_complementAt σ qm1) ?_
    refine r_topr (fun ic2 eic2 => ?_)
    replace h := bnd_at h eic2
    obtain ⟨qg3, h⟩ := grd_at h
    refine r_astore (lo' := [(4, .ref (ad ic2)), (0, .ref (ad 0)), (1, .int x1), (2, .int x2), (3, .int x3)]) dX11_node_5 (by decide) rfl ?_
    refine r_aload dX11_node_7 0 rfl ?_
    refine r_ifnull dX11_node_9 ?_
    refine r_iload_n dX11_node_12 3 rfl ?_
    refine r_if_lt (t := 25) dX11_node_13 (by decide) (fun qc4 => ?_) (fun qc4 => ?_)
    · replace h := ifp h qc4
      refine r_aload_n dX11_node_25 1 rfl ?_
      refine r_iconst (v := 1) dX11_node_26 (by decide) ?_
      obtain ⟨rq6, σ7, qg5, h⟩ := bd2_at h
      refine x_callV (Y := mX11_refuse) (d' := 1) dX11_node_27 ml_X11_102 yv_X11_refuse (by omega) rfl rfl (by simp [Value.category]) (sR_is rfl rfl) (lc_X11_refuse qg5) ?_
      refine r_iret rfl dX11_node_30 ?_
      exact lfI h
    · replace h := ifn h qc4
      refine r_iload_n dX11_node_16 4 rfl ?_
      refine r_if_lt (t := 25) dX11_node_17 (by decide) (fun qc8 => ?_) (fun qc8 => ?_)
      · replace h := ifp h qc8
        refine r_aload_n dX11_node_25 1 rfl ?_
        refine r_iconst (v := 1) dX11_node_26 (by decide) ?_
        obtain ⟨rq10, σ11, qg9, h⟩ := bd2_at h
        refine x_callV (Y := mX11_refuse) (d' := 1) dX11_node_27 ml_X11_102 yv_X11_refuse (by omega) rfl rfl (by simp [Value.category]) (sR_is rfl rfl) (lc_X11_refuse qg9) ?_
        refine r_iret rfl dX11_node_30 ?_
        exact lfI h
      · replace h := ifn h qc8
        refine r_iload_n dX11_node_20 4 rfl ?_
        refine r_iconst (v := 5) dX11_node_21 (by decide) ?_
        refine r_icmp_le (t := 31) dX11_node_22 (by decide) (fun qc12 => ?_) (fun qc12 => ?_)
        · replace h := ifp h qc12
          refine r_aload dX11_node_31 0 rfl ?_
          obtain ⟨rq14, σ15, qg13, h⟩ := bd2_at h
          refine x_callV (Y := mX1_stands) (d' := 10) dX11_node_33 ml_X11_206 yv_X1_stands (by omega) rfl rfl (by simp [Value.category]) (sR_is (isCo_of qg3) rfl) (lc_X1_stands (isCo_of qg3) qg13) ?_
          refine r_if_ne (t := 45) dX11_node_36 (by decide) (fun qc16 => ?_) (fun qc16 => ?_)
          · replace h := ifn h qc16
            refine r_iload_n dX11_node_45 3 rfl ?_
            refine r_aload dX11_node_46 0 rfl ?_
            refine s_getI ok_X1 dX11_node_48 (k := 7) (by decide) fl_X11_209 (isCo_of qg3) rfl ?_
            refine r_icmp_lt (t := 60) dX11_node_51 (by decide) (fun qc17 => ?_) (fun qc17 => ?_)
            · replace h := ifp h qc17
              refine r_aload_n dX11_node_60 1 rfl ?_
              refine r_aload dX11_node_61 0 rfl ?_
              refine r_iload_n dX11_node_63 3 rfl ?_
              refine r_iload_n dX11_node_64 4 rfl ?_
              obtain ⟨rq19, qg18, h⟩ := bd_at h
              refine x_callV (Y := mX1_told) (d' := 5) dX11_node_65 ml_X11_210 yv_X1_told (by omega) rfl rfl (by simp [Value.category]) (sR_is (isCo_of qg3) rfl) (lc_X1_told (isCo_of qg3) qg18) ?_
              obtain ⟨rq21, σ22, qg20, h⟩ := bd2_at h
              refine x_callV (Y := mX11_answer) (d' := 1) dX11_node_68 ml_X11_126 yv_X11_answer (by omega) rfl rfl (by simp [Value.category]) (sR_is rfl rfl) (lc_X11_answer qg20) ?_
              refine r_iret rfl dX11_node_71 ?_
              exact lfI h
            · replace h := ifn h qc17
              refine r_aload_n dX11_node_54 1 rfl ?_
              refine r_iconst (v := 1) dX11_node_55 (by decide) ?_
              obtain ⟨rq24, σ25, qg23, h⟩ := bd2_at h
              refine x_callV (Y := mX11_refuse) (d' := 1) dX11_node_56 ml_X11_102 yv_X11_refuse (by omega) rfl rfl (by simp [Value.category]) (sR_is rfl rfl) (lc_X11_refuse qg23) ?_
              refine r_iret rfl dX11_node_59 ?_
              exact lfI h
          · replace h := ifp h qc16
            refine r_aload_n dX11_node_39 1 rfl ?_
            refine r_iconst (v := 3) dX11_node_40 (by decide) ?_
            obtain ⟨rq27, σ28, qg26, h⟩ := bd2_at h
            refine x_callV (Y := mX11_refuse) (d' := 1) dX11_node_41 ml_X11_102 yv_X11_refuse (by omega) rfl rfl (by simp [Value.category]) (sR_is rfl rfl) (lc_X11_refuse qg26) ?_
            refine r_iret rfl dX11_node_44 ?_
            exact lfI h
        · replace h := ifn h qc12
          refine r_aload_n dX11_node_25 1 rfl ?_
          refine r_iconst (v := 1) dX11_node_26 (by decide) ?_
          obtain ⟨rq30, σ31, qg29, h⟩ := bd2_at h
          refine x_callV (Y := mX11_refuse) (d' := 1) dX11_node_27 ml_X11_102 yv_X11_refuse (by omega) rfl rfl (by simp [Value.category]) (sR_is rfl rfl) (lc_X11_refuse qg29) ?_
          refine r_iret rfl dX11_node_30 ?_
          exact lfI h
  · replace h := ifn h qm1
    refine x_callV (Y := mX11_complementAt) (d' := 1) dX11_node_2 ml_X11_202 yv_X11_complementAt (by omega) rfl rfl (by simp [Value.category]) (sR_is rfl rfl) (c_X11_complementAtN σ qm1) ?_
    refine r_astoreN (lo' := [(4, .null), (0, .ref (ad 0)), (1, .int x1), (2, .int x2), (3, .int x3)]) dX11_node_5 (by decide) rfl ?_
    refine r_aloadN dX11_node_7 0 rfl ?_
    refine r_ifnullN (t := 25) dX11_node_9 (by decide) ?_
    refine r_aload_n dX11_node_25 1 rfl ?_
    refine r_iconst (v := 1) dX11_node_26 (by decide) ?_
    obtain ⟨rq33, σ34, qg32, h⟩ := bd2_at h
    refine x_callV (Y := mX11_refuse) (d' := 1) dX11_node_27 ml_X11_102 yv_X11_refuse (by omega) rfl rfl (by simp [Value.category]) (sR_is rfl rfl) (lc_X11_refuse qg32) ?_
    refine r_iret rfl dX11_node_30 ?_
    exact lfI h
set_option maxRecDepth 8000 in
theorem lc_X11_node {ad : Nat → Nat} {x1 : Int32} {x2 : Int32} {x3 : Int32} {σ τ : sS} {r : Int32} (h : L_X11_node x1 x2 x3 σ = some (r, τ)) : ab_X (sR ad) 11 mX11_node [.ref (ad 0), .int x1, .int x2, .int x3] σ (some (.int r)) τ := ab_X.of (by decide) (Nat.le_of_ble_eq_true rfl) (e_X11_node h)
set_option maxRecDepth 8000 in
noncomputable def L_X11_rank (x1 : Int32) (x2 : Int32) (x3 : Int32) (σ : sS) : Option (Int32 × sS) := if q_at σ x1 = true then (bnd (33 + x1.toNatClampNeg) (fun ic2 => grd (isCo ic2) (if x2 < 0 then (bd2 (L_X11_refuse 1 σ) (fun rq6 σ7 => some ((rq6, σ7)))) else (if (a_hs σ (ic2 - 6) x3) = 0 then (bd2 (L_X11_refuse 1 σ) (fun rq24 σ25 => some ((rq24, σ25)))) else (bd2 (L_X1_stands ic2 σ) (fun rq10 σ11 => if rq10 = 0 then (bd2 (L_X11_refuse 3 σ11) (fun rq21 σ22 => some ((rq21, σ22)))) else (if x2 < (vI σ11 ic2 7) then (bd2 (L_X11_answer (p_ri σ11 ic2 x2 x3) σ11) (fun rq15 σ16 => some ((rq15, σ16)))) else (bd2 (L_X11_refuse 1 σ11) (fun rq18 σ19 => some ((rq18, σ19))))))))))) else (bd2 (L_X11_refuse 1 σ) (fun rq27 σ28 => some ((rq27, σ28))))
set_option maxRecDepth 8000 in
theorem e_X11_rank {ad : Nat → Nat} {x1 : Int32} {x2 : Int32} {x3 : Int32} {σ : sS} {z : (Int32 × sS)} (h : L_X11_rank x1 x2 x3 σ = some z) : ab_E (sR ad) mX11_rank 11 0 [(0, .ref (ad 0)), (1, .int x1), (2, .int x2), (3, .int x3)] [] σ (fun r9 σ9 => r9 = some (.int z.1) ∧ σ9 = z.2) := by
  unfold L_X11_rank at h
  refine r_aload_n dX11_rank_0 0 rfl ?_
  refine r_iload_n dX11_rank_1 1 rfl ?_
  by_cases qm1 : q_at σ x1 = true
  · replace h := ifp h qm1
    refine x_callV (Y := mX11_complementAt) (d' := 1) dX11_rank_2 ml_X11_202 yv_X11_complementAt (by omega) rfl rfl (by simp [Value.category]) (sR_is rfl rfl) (c_X11_complementAt σ qm1) ?_
    refine r_topr (fun ic2 eic2 => ?_)
    replace h := bnd_at h eic2
    obtain ⟨qg3, h⟩ := grd_at h
    refine r_astore (lo' := [(4, .ref (ad ic2)), (0, .ref (ad 0)), (1, .int x1), (2, .int x2), (3, .int x3)]) dX11_rank_5 (by decide) rfl ?_
    refine r_aload dX11_rank_7 0 rfl ?_
    refine r_ifnull dX11_rank_9 ?_
    refine r_iload_n dX11_rank_12 3 rfl ?_
    refine r_if_lt (t := 28) dX11_rank_13 (by decide) (fun qc4 => ?_) (fun qc4 => ?_)
    · replace h := ifp h qc4
      refine r_aload_n dX11_rank_28 1 rfl ?_
      refine r_iconst (v := 1) dX11_rank_29 (by decide) ?_
      obtain ⟨rq6, σ7, qg5, h⟩ := bd2_at h
      refine x_callV (Y := mX11_refuse) (d' := 1) dX11_rank_30 ml_X11_102 yv_X11_refuse (by omega) rfl rfl (by simp [Value.category]) (sR_is rfl rfl) (lc_X11_refuse qg5) ?_
      refine r_iret rfl dX11_rank_33 ?_
      exact lfI h
    · replace h := ifn h qc4
      refine r_aload dX11_rank_16 0 rfl ?_
      refine s_getR (b := ic2 - 6) ok_X1 dX11_rank_18 (k := 0) (by decide) fl_X11_213 (isCo_of qg3) rfl (co_sr (isCo_of qg3)) ?_
      refine r_iload_n dX11_rank_21 4 rfl ?_
      refine x_callV (Y := mX0_hasState) (d' := 1) dX11_rank_22 ml_X11_189 yv_X0_hasState (by omega) rfl rfl (by simp [Value.category]) (sR_is (co_au (isCo_of qg3)) rfl) (c_X0_hasState σ (co_au (isCo_of qg3)) x3) ?_
      refine r_if_ne (t := 34) dX11_rank_25 (by decide) (fun qc8 => ?_) (fun qc8 => ?_)
      · replace h := ifn h qc8
        refine r_aload dX11_rank_34 0 rfl ?_
        obtain ⟨rq10, σ11, qg9, h⟩ := bd2_at h
        refine x_callV (Y := mX1_stands) (d' := 10) dX11_rank_36 ml_X11_206 yv_X1_stands (by omega) rfl rfl (by simp [Value.category]) (sR_is (isCo_of qg3) rfl) (lc_X1_stands (isCo_of qg3) qg9) ?_
        refine r_if_ne (t := 48) dX11_rank_39 (by decide) (fun qc12 => ?_) (fun qc12 => ?_)
        · replace h := ifn h qc12
          refine r_iload_n dX11_rank_48 3 rfl ?_
          refine r_aload dX11_rank_49 0 rfl ?_
          refine s_getI ok_X1 dX11_rank_51 (k := 7) (by decide) fl_X11_209 (isCo_of qg3) rfl ?_
          refine r_icmp_lt (t := 63) dX11_rank_54 (by decide) (fun qc13 => ?_) (fun qc13 => ?_)
          · replace h := ifp h qc13
            refine r_aload_n dX11_rank_63 1 rfl ?_
            refine r_aload dX11_rank_64 0 rfl ?_
            refine r_iload_n dX11_rank_66 3 rfl ?_
            refine r_iload_n dX11_rank_67 4 rfl ?_
            refine x_callV (Y := mX1_rankIn) (d' := 2) dX11_rank_68 ml_X11_217 yv_X1_rankIn (by omega) rfl rfl (by simp [Value.category]) (sR_is (isCo_of qg3) rfl) (c_X1_rankIn σ11 (isCo_of qg3) x2 x3) ?_
            obtain ⟨rq15, σ16, qg14, h⟩ := bd2_at h
            refine x_callV (Y := mX11_answer) (d' := 1) dX11_rank_71 ml_X11_126 yv_X11_answer (by omega) rfl rfl (by simp [Value.category]) (sR_is rfl rfl) (lc_X11_answer qg14) ?_
            refine r_iret rfl dX11_rank_74 ?_
            exact lfI h
          · replace h := ifn h qc13
            refine r_aload_n dX11_rank_57 1 rfl ?_
            refine r_iconst (v := 1) dX11_rank_58 (by decide) ?_
            obtain ⟨rq18, σ19, qg17, h⟩ := bd2_at h
            refine x_callV (Y := mX11_refuse) (d' := 1) dX11_rank_59 ml_X11_102 yv_X11_refuse (by omega) rfl rfl (by simp [Value.category]) (sR_is rfl rfl) (lc_X11_refuse qg17) ?_
            refine r_iret rfl dX11_rank_62 ?_
            exact lfI h
        · replace h := ifp h qc12
          refine r_aload_n dX11_rank_42 1 rfl ?_
          refine r_iconst (v := 3) dX11_rank_43 (by decide) ?_
          obtain ⟨rq21, σ22, qg20, h⟩ := bd2_at h
          refine x_callV (Y := mX11_refuse) (d' := 1) dX11_rank_44 ml_X11_102 yv_X11_refuse (by omega) rfl rfl (by simp [Value.category]) (sR_is rfl rfl) (lc_X11_refuse qg20) ?_
          refine r_iret rfl dX11_rank_47 ?_
          exact lfI h
      · replace h := ifp h qc8
        refine r_aload_n dX11_rank_28 1 rfl ?_
        refine r_iconst (v := 1) dX11_rank_29 (by decide) ?_
        obtain ⟨rq24, σ25, qg23, h⟩ := bd2_at h
        refine x_callV (Y := mX11_refuse) (d' := 1) dX11_rank_30 ml_X11_102 yv_X11_refuse (by omega) rfl rfl (by simp [Value.category]) (sR_is rfl rfl) (lc_X11_refuse qg23) ?_
        refine r_iret rfl dX11_rank_33 ?_
        exact lfI h
  · replace h := ifn h qm1
    refine x_callV (Y := mX11_complementAt) (d' := 1) dX11_rank_2 ml_X11_202 yv_X11_complementAt (by omega) rfl rfl (by simp [Value.category]) (sR_is rfl rfl) (c_X11_complementAtN σ qm1) ?_
    refine r_astoreN (lo' := [(4, .null), (0, .ref (ad 0)), (1, .int x1), (2, .int x2), (3, .int x3)]) dX11_rank_5 (by decide) rfl ?_
    refine r_aloadN dX11_rank_7 0 rfl ?_
    refine r_ifnullN (t := 28) dX11_rank_9 (by decide) ?_
    refine r_aload_n dX11_rank_28 1 rfl ?_
    refine r_iconst (v := 1) dX11_rank_29 (by decide) ?_
    obtain ⟨rq27, σ28, qg26, h⟩ := bd2_at h
    refine x_callV (Y := mX11_refuse) (d' := 1) dX11_rank_30 ml_X11_102 yv_X11_refuse (by omega) rfl rfl (by simp [Value.category]) (sR_is rfl rfl) (lc_X11_refuse qg26) ?_
    refine r_iret rfl dX11_rank_33 ?_
    exact lfI h
set_option maxRecDepth 8000 in
theorem lc_X11_rank {ad : Nat → Nat} {x1 : Int32} {x2 : Int32} {x3 : Int32} {σ τ : sS} {r : Int32} (h : L_X11_rank x1 x2 x3 σ = some (r, τ)) : ab_X (sR ad) 11 mX11_rank [.ref (ad 0), .int x1, .int x2, .int x3] σ (some (.int r)) τ := ab_X.of (by decide) (Nat.le_of_ble_eq_true rfl) (e_X11_rank h)
set_option maxRecDepth 8000 in
noncomputable def L_X11_next (x1 : Int32) (x2 : Int32) (x3 : Int32) (x4 : Int32) (σ : sS) : Option (Int32 × sS) := if q_at σ x1 = true then (bnd (33 + x1.toNatClampNeg) (fun ic2 => grd (isCo ic2) (if x2 < 0 then (bd2 (L_X11_refuse 1 σ) (fun rq6 σ7 => some ((rq6, σ7)))) else (if x4 < 0 then (bd2 (L_X11_refuse 1 σ) (fun rq10 σ11 => some ((rq10, σ11)))) else (if (a_hg σ (ic2 - 6) x3) = 0 then (bd2 (L_X11_refuse 1 σ) (fun rq32 σ33 => some ((rq32, σ33)))) else (bd2 (L_X1_stands ic2 σ) (fun rq14 σ15 => if rq14 = 0 then (bd2 (L_X11_refuse 3 σ15) (fun rq29 σ30 => some ((rq29, σ30)))) else (if x2 < (vI σ15 ic2 7) then (if (p_fn σ15 ic2 x2 x3) ≤ x4 then (bd2 (L_X11_answer (-2) σ15) (fun rq20 σ21 => some ((rq20, σ21)))) else (bd2 (L_X11_answer (p_gl σ15 ic2 x2 x3 x4) σ15) (fun rq23 σ24 => some ((rq23, σ24))))) else (bd2 (L_X11_refuse 1 σ15) (fun rq26 σ27 => some ((rq26, σ27)))))))))))) else (bd2 (L_X11_refuse 1 σ) (fun rq35 σ36 => some ((rq35, σ36))))
set_option maxRecDepth 8000 in
theorem e_X11_next {ad : Nat → Nat} {x1 : Int32} {x2 : Int32} {x3 : Int32} {x4 : Int32} {σ : sS} {z : (Int32 × sS)} (h : L_X11_next x1 x2 x3 x4 σ = some z) : ab_E (sR ad) mX11_next 11 0 [(0, .ref (ad 0)), (1, .int x1), (2, .int x2), (3, .int x3), (4, .int x4)] [] σ (fun r9 σ9 => r9 = some (.int z.1) ∧ σ9 = z.2) := by
  unfold L_X11_next at h
  refine r_aload_n dX11_next_0 0 rfl ?_
  refine r_iload_n dX11_next_1 1 rfl ?_
  by_cases qm1 : q_at σ x1 = true
  · replace h := ifp h qm1
    refine x_callV (Y := mX11_complementAt) (d' := 1) dX11_next_2 ml_X11_202 yv_X11_complementAt (by omega) rfl rfl (by simp [Value.category]) (sR_is rfl rfl) (c_X11_complementAt σ qm1) ?_
    refine r_topr (fun ic2 eic2 => ?_)
    replace h := bnd_at h eic2
    obtain ⟨qg3, h⟩ := grd_at h
    refine r_astore (lo' := [(5, .ref (ad ic2)), (0, .ref (ad 0)), (1, .int x1), (2, .int x2), (3, .int x3), (4, .int x4)]) dX11_next_5 (by decide) rfl ?_
    refine r_aload dX11_next_7 0 rfl ?_
    refine r_ifnull dX11_next_9 ?_
    refine r_iload_n dX11_next_12 3 rfl ?_
    refine r_if_lt (t := 33) dX11_next_13 (by decide) (fun qc4 => ?_) (fun qc4 => ?_)
    · replace h := ifp h qc4
      refine r_aload_n dX11_next_33 1 rfl ?_
      refine r_iconst (v := 1) dX11_next_34 (by decide) ?_
      obtain ⟨rq6, σ7, qg5, h⟩ := bd2_at h
      refine x_callV (Y := mX11_refuse) (d' := 1) dX11_next_35 ml_X11_102 yv_X11_refuse (by omega) rfl rfl (by simp [Value.category]) (sR_is rfl rfl) (lc_X11_refuse qg5) ?_
      refine r_iret rfl dX11_next_38 ?_
      exact lfI h
    · replace h := ifn h qc4
      refine r_iload dX11_next_16 5 rfl ?_
      refine r_if_lt (t := 33) dX11_next_18 (by decide) (fun qc8 => ?_) (fun qc8 => ?_)
      · replace h := ifp h qc8
        refine r_aload_n dX11_next_33 1 rfl ?_
        refine r_iconst (v := 1) dX11_next_34 (by decide) ?_
        obtain ⟨rq10, σ11, qg9, h⟩ := bd2_at h
        refine x_callV (Y := mX11_refuse) (d' := 1) dX11_next_35 ml_X11_102 yv_X11_refuse (by omega) rfl rfl (by simp [Value.category]) (sR_is rfl rfl) (lc_X11_refuse qg9) ?_
        refine r_iret rfl dX11_next_38 ?_
        exact lfI h
      · replace h := ifn h qc8
        refine r_aload dX11_next_21 0 rfl ?_
        refine s_getR (b := ic2 - 6) ok_X1 dX11_next_23 (k := 0) (by decide) fl_X11_213 (isCo_of qg3) rfl (co_sr (isCo_of qg3)) ?_
        refine r_iload_n dX11_next_26 4 rfl ?_
        refine x_callV (Y := mX0_hasSign) (d' := 1) dX11_next_27 ml_X11_165 yv_X0_hasSign (by omega) rfl rfl (by simp [Value.category]) (sR_is (co_au (isCo_of qg3)) rfl) (c_X0_hasSign σ (co_au (isCo_of qg3)) x3) ?_
        refine r_if_ne (t := 39) dX11_next_30 (by decide) (fun qc12 => ?_) (fun qc12 => ?_)
        · replace h := ifn h qc12
          refine r_aload dX11_next_39 0 rfl ?_
          obtain ⟨rq14, σ15, qg13, h⟩ := bd2_at h
          refine x_callV (Y := mX1_stands) (d' := 10) dX11_next_41 ml_X11_206 yv_X1_stands (by omega) rfl rfl (by simp [Value.category]) (sR_is (isCo_of qg3) rfl) (lc_X1_stands (isCo_of qg3) qg13) ?_
          refine r_if_ne (t := 53) dX11_next_44 (by decide) (fun qc16 => ?_) (fun qc16 => ?_)
          · replace h := ifn h qc16
            refine r_iload_n dX11_next_53 3 rfl ?_
            refine r_aload dX11_next_54 0 rfl ?_
            refine s_getI ok_X1 dX11_next_56 (k := 7) (by decide) fl_X11_209 (isCo_of qg3) rfl ?_
            refine r_icmp_lt (t := 68) dX11_next_59 (by decide) (fun qc17 => ?_) (fun qc17 => ?_)
            · replace h := ifp h qc17
              refine r_aload_n dX11_next_68 1 rfl ?_
              refine r_iload dX11_next_69 5 rfl ?_
              refine r_aload dX11_next_71 0 rfl ?_
              refine r_iload_n dX11_next_73 3 rfl ?_
              refine r_iload_n dX11_next_74 4 rfl ?_
              refine x_callV (Y := mX1_fan) (d' := 2) dX11_next_75 ml_X11_220 yv_X1_fan (by omega) rfl rfl (by simp [Value.category]) (sR_is (isCo_of qg3) rfl) (c_X1_fan σ15 (isCo_of qg3) x2 x3) ?_
              refine r_icmp_ge (t := 93) dX11_next_78 (by decide) (fun qc18 => ?_) (fun qc18 => ?_)
              · replace h := ifp h qc18
                refine r_bipush (v := (-2)) dX11_next_93 (by decide) ?_
                obtain ⟨rq20, σ21, qg19, h⟩ := bd2_at h
                refine x_callV (Y := mX11_answer) (d' := 1) dX11_next_95 ml_X11_126 yv_X11_answer (by omega) rfl rfl (by simp [Value.category]) (sR_is rfl rfl) (lc_X11_answer qg19) ?_
                refine r_iret rfl dX11_next_98 ?_
                exact lfI h
              · replace h := ifn h qc18
                refine r_aload dX11_next_81 0 rfl ?_
                refine r_iload_n dX11_next_83 3 rfl ?_
                refine r_iload_n dX11_next_84 4 rfl ?_
                refine r_iload dX11_next_85 5 rfl ?_
                refine x_callV (Y := mX1_goal) (d' := 2) dX11_next_87 ml_X11_223 yv_X1_goal (by omega) rfl rfl (by simp [Value.category]) (sR_is (isCo_of qg3) rfl) (c_X1_goal σ15 (isCo_of qg3) x2 x3 x4) ?_
                refine r_goto (t := 95) dX11_next_90 (by decide) ?_
                obtain ⟨rq23, σ24, qg22, h⟩ := bd2_at h
                refine x_callV (Y := mX11_answer) (d' := 1) dX11_next_95 ml_X11_126 yv_X11_answer (by omega) rfl rfl (by simp [Value.category]) (sR_is rfl rfl) (lc_X11_answer qg22) ?_
                refine r_iret rfl dX11_next_98 ?_
                exact lfI h
            · replace h := ifn h qc17
              refine r_aload_n dX11_next_62 1 rfl ?_
              refine r_iconst (v := 1) dX11_next_63 (by decide) ?_
              obtain ⟨rq26, σ27, qg25, h⟩ := bd2_at h
              refine x_callV (Y := mX11_refuse) (d' := 1) dX11_next_64 ml_X11_102 yv_X11_refuse (by omega) rfl rfl (by simp [Value.category]) (sR_is rfl rfl) (lc_X11_refuse qg25) ?_
              refine r_iret rfl dX11_next_67 ?_
              exact lfI h
          · replace h := ifp h qc16
            refine r_aload_n dX11_next_47 1 rfl ?_
            refine r_iconst (v := 3) dX11_next_48 (by decide) ?_
            obtain ⟨rq29, σ30, qg28, h⟩ := bd2_at h
            refine x_callV (Y := mX11_refuse) (d' := 1) dX11_next_49 ml_X11_102 yv_X11_refuse (by omega) rfl rfl (by simp [Value.category]) (sR_is rfl rfl) (lc_X11_refuse qg28) ?_
            refine r_iret rfl dX11_next_52 ?_
            exact lfI h
        · replace h := ifp h qc12
          refine r_aload_n dX11_next_33 1 rfl ?_
          refine r_iconst (v := 1) dX11_next_34 (by decide) ?_
          obtain ⟨rq32, σ33, qg31, h⟩ := bd2_at h
          refine x_callV (Y := mX11_refuse) (d' := 1) dX11_next_35 ml_X11_102 yv_X11_refuse (by omega) rfl rfl (by simp [Value.category]) (sR_is rfl rfl) (lc_X11_refuse qg31) ?_
          refine r_iret rfl dX11_next_38 ?_
          exact lfI h
  · replace h := ifn h qm1
    refine x_callV (Y := mX11_complementAt) (d' := 1) dX11_next_2 ml_X11_202 yv_X11_complementAt (by omega) rfl rfl (by simp [Value.category]) (sR_is rfl rfl) (c_X11_complementAtN σ qm1) ?_
    refine r_astoreN (lo' := [(5, .null), (0, .ref (ad 0)), (1, .int x1), (2, .int x2), (3, .int x3), (4, .int x4)]) dX11_next_5 (by decide) rfl ?_
    refine r_aloadN dX11_next_7 0 rfl ?_
    refine r_ifnullN (t := 33) dX11_next_9 (by decide) ?_
    refine r_aload_n dX11_next_33 1 rfl ?_
    refine r_iconst (v := 1) dX11_next_34 (by decide) ?_
    obtain ⟨rq35, σ36, qg34, h⟩ := bd2_at h
    refine x_callV (Y := mX11_refuse) (d' := 1) dX11_next_35 ml_X11_102 yv_X11_refuse (by omega) rfl rfl (by simp [Value.category]) (sR_is rfl rfl) (lc_X11_refuse qg34) ?_
    refine r_iret rfl dX11_next_38 ?_
    exact lfI h
set_option maxRecDepth 8000 in
theorem lc_X11_next {ad : Nat → Nat} {x1 : Int32} {x2 : Int32} {x3 : Int32} {x4 : Int32} {σ τ : sS} {r : Int32} (h : L_X11_next x1 x2 x3 x4 σ = some (r, τ)) : ab_X (sR ad) 11 mX11_next [.ref (ad 0), .int x1, .int x2, .int x3, .int x4] σ (some (.int r)) τ := ab_X.of (by decide) (Nat.le_of_ble_eq_true rfl) (e_X11_next h)
set_option maxRecDepth 8000 in
noncomputable def L_X11_nodes (x1 : Int32) (x2 : Int32) (σ : sS) : Option (Int32 × sS) := if q_at σ x1 = true then (bnd (33 + x1.toNatClampNeg) (fun ic2 => grd (isCo ic2) (if x2 < 0 then (bd2 (L_X11_refuse 1 σ) (fun rq6 σ7 => some ((rq6, σ7)))) else (if x2 ≤ 2 then (bd2 (L_X1_stands ic2 σ) (fun rq10 σ11 => if rq10 = 0 then (bd2 (L_X11_refuse 3 σ11) (fun rq14 σ15 => some ((rq14, σ15)))) else (bd (L_X1_howMany ic2 x2 σ11) (fun rq17 => bd2 (L_X11_answer rq17 σ11) (fun rq19 σ20 => some ((rq19, σ20))))))) else (bd2 (L_X11_refuse 1 σ) (fun rq22 σ23 => some ((rq22, σ23)))))))) else (bd2 (L_X11_refuse 1 σ) (fun rq25 σ26 => some ((rq25, σ26))))
set_option maxRecDepth 8000 in
theorem e_X11_nodes {ad : Nat → Nat} {x1 : Int32} {x2 : Int32} {σ : sS} {z : (Int32 × sS)} (h : L_X11_nodes x1 x2 σ = some z) : ab_E (sR ad) mX11_nodes 11 0 [(0, .ref (ad 0)), (1, .int x1), (2, .int x2)] [] σ (fun r9 σ9 => r9 = some (.int z.1) ∧ σ9 = z.2) := by
  unfold L_X11_nodes at h
  refine r_aload_n dX11_nodes_0 0 rfl ?_
  refine r_iload_n dX11_nodes_1 1 rfl ?_
  by_cases qm1 : q_at σ x1 = true
  · replace h := ifp h qm1
    refine x_callV (Y := mX11_complementAt) (d' := 1) dX11_nodes_2 ml_X11_202 yv_X11_complementAt (by omega) rfl rfl (by simp [Value.category]) (sR_is rfl rfl) (c_X11_complementAt σ qm1) ?_
    refine r_topr (fun ic2 eic2 => ?_)
    replace h := bnd_at h eic2
    obtain ⟨qg3, h⟩ := grd_at h
    refine r_astore_n (lo' := [(3, .ref (ad ic2)), (0, .ref (ad 0)), (1, .int x1), (2, .int x2)]) dX11_nodes_5 (by decide) rfl ?_
    refine r_aload_n dX11_nodes_6 0 rfl ?_
    refine r_ifnull dX11_nodes_7 ?_
    refine r_iload_n dX11_nodes_10 3 rfl ?_
    refine r_if_lt (t := 19) dX11_nodes_11 (by decide) (fun qc4 => ?_) (fun qc4 => ?_)
    · replace h := ifp h qc4
      refine r_aload_n dX11_nodes_19 1 rfl ?_
      refine r_iconst (v := 1) dX11_nodes_20 (by decide) ?_
      obtain ⟨rq6, σ7, qg5, h⟩ := bd2_at h
      refine x_callV (Y := mX11_refuse) (d' := 1) dX11_nodes_21 ml_X11_102 yv_X11_refuse (by omega) rfl rfl (by simp [Value.category]) (sR_is rfl rfl) (lc_X11_refuse qg5) ?_
      refine r_iret rfl dX11_nodes_24 ?_
      exact lfI h
    · replace h := ifn h qc4
      refine r_iload_n dX11_nodes_14 3 rfl ?_
      refine r_iconst (v := 2) dX11_nodes_15 (by decide) ?_
      refine r_icmp_le (t := 25) dX11_nodes_16 (by decide) (fun qc8 => ?_) (fun qc8 => ?_)
      · replace h := ifp h qc8
        refine r_aload_n dX11_nodes_25 0 rfl ?_
        obtain ⟨rq10, σ11, qg9, h⟩ := bd2_at h
        refine x_callV (Y := mX1_stands) (d' := 10) dX11_nodes_26 ml_X11_206 yv_X1_stands (by omega) rfl rfl (by simp [Value.category]) (sR_is (isCo_of qg3) rfl) (lc_X1_stands (isCo_of qg3) qg9) ?_
        refine r_if_eq (t := 44) dX11_nodes_29 (by decide) (fun qc12 => ?_) (fun qc12 => ?_)
        · replace h := ifp h qc12
          refine r_aload_n dX11_nodes_44 1 rfl ?_
          refine r_iconst (v := 3) dX11_nodes_45 (by decide) ?_
          obtain ⟨rq14, σ15, qg13, h⟩ := bd2_at h
          refine x_callV (Y := mX11_refuse) (d' := 1) dX11_nodes_46 ml_X11_102 yv_X11_refuse (by omega) rfl rfl (by simp [Value.category]) (sR_is rfl rfl) (lc_X11_refuse qg13) ?_
          refine r_iret rfl dX11_nodes_49 ?_
          exact lfI h
        · replace h := ifn h qc12
          refine r_aload_n dX11_nodes_32 1 rfl ?_
          refine r_aload_n dX11_nodes_33 0 rfl ?_
          refine r_iload_n dX11_nodes_34 3 rfl ?_
          obtain ⟨rq17, qg16, h⟩ := bd_at h
          refine x_callV (Y := mX1_howMany) (d' := 5) dX11_nodes_35 ml_X11_227 yv_X1_howMany (by omega) rfl rfl (by simp [Value.category]) (sR_is (isCo_of qg3) rfl) (lc_X1_howMany (isCo_of qg3) qg16) ?_
          obtain ⟨rq19, σ20, qg18, h⟩ := bd2_at h
          refine x_callV (Y := mX11_answer) (d' := 1) dX11_nodes_38 ml_X11_126 yv_X11_answer (by omega) rfl rfl (by simp [Value.category]) (sR_is rfl rfl) (lc_X11_answer qg18) ?_
          refine r_goto (t := 49) dX11_nodes_41 (by decide) ?_
          refine r_iret rfl dX11_nodes_49 ?_
          exact lfI h
      · replace h := ifn h qc8
        refine r_aload_n dX11_nodes_19 1 rfl ?_
        refine r_iconst (v := 1) dX11_nodes_20 (by decide) ?_
        obtain ⟨rq22, σ23, qg21, h⟩ := bd2_at h
        refine x_callV (Y := mX11_refuse) (d' := 1) dX11_nodes_21 ml_X11_102 yv_X11_refuse (by omega) rfl rfl (by simp [Value.category]) (sR_is rfl rfl) (lc_X11_refuse qg21) ?_
        refine r_iret rfl dX11_nodes_24 ?_
        exact lfI h
  · replace h := ifn h qm1
    refine x_callV (Y := mX11_complementAt) (d' := 1) dX11_nodes_2 ml_X11_202 yv_X11_complementAt (by omega) rfl rfl (by simp [Value.category]) (sR_is rfl rfl) (c_X11_complementAtN σ qm1) ?_
    refine r_astore_nN (lo' := [(3, .null), (0, .ref (ad 0)), (1, .int x1), (2, .int x2)]) dX11_nodes_5 (by decide) rfl ?_
    refine r_aload_nN dX11_nodes_6 0 rfl ?_
    refine r_ifnullN (t := 19) dX11_nodes_7 (by decide) ?_
    refine r_aload_n dX11_nodes_19 1 rfl ?_
    refine r_iconst (v := 1) dX11_nodes_20 (by decide) ?_
    obtain ⟨rq25, σ26, qg24, h⟩ := bd2_at h
    refine x_callV (Y := mX11_refuse) (d' := 1) dX11_nodes_21 ml_X11_102 yv_X11_refuse (by omega) rfl rfl (by simp [Value.category]) (sR_is rfl rfl) (lc_X11_refuse qg24) ?_
    refine r_iret rfl dX11_nodes_24 ?_
    exact lfI h
set_option maxRecDepth 8000 in
theorem lc_X11_nodes {ad : Nat → Nat} {x1 : Int32} {x2 : Int32} {σ τ : sS} {r : Int32} (h : L_X11_nodes x1 x2 σ = some (r, τ)) : ab_X (sR ad) 11 mX11_nodes [.ref (ad 0), .int x1, .int x2] σ (some (.int r)) τ := ab_X.of (by decide) (Nat.le_of_ble_eq_true rfl) (e_X11_nodes h)
set_option maxRecDepth 8000 in
noncomputable def L_X11_refusalOfLasso (F : Nat) (x1 : Nat) (x2 : Int32) (σ : sS) : Option (Int32 × sS) := if (if x2 < 0 then (0 : Int32) else if vI σ 1 3 < x2 then 0 else 1) = 0 then (some ((2, σ))) else (bnd (t_open σ x2) (fun σ2 => bd2 (L_X5_readLasso F (vI σ2 x1 2) σ2) (fun rq4 σ5 => if rq4 = 0 then (some ((4, σ5))) else (some ((0, σ5))))))
set_option maxRecDepth 8000 in
theorem e_X11_refusalOfLasso {ad : Nat → Nat} {F : Nat} {x1 : Nat} {x2 : Int32} {σ : sS} {z : (Int32 × sS)} (ha : la x1 = (1, 0)) (h : L_X11_refusalOfLasso F x1 x2 σ = some z) : ab_E (sR ad) mX11_refusalOfLasso 7 0 [(0, .ref (ad 0)), (1, .ref (ad x1)), (2, .int x2)] [] σ (fun r9 σ9 => r9 = some (.int z.1) ∧ σ9 = z.2) := by
  unfold L_X11_refusalOfLasso at h
  refine r_aload_n dX11_refusalOfLasso_0 1 rfl ?_
  refine r_ifnonnull (t := 6) dX11_refusalOfLasso_1 (by decide) ?_
  refine r_aload_n dX11_refusalOfLasso_6 0 rfl ?_
  refine s_getR (b := 1) ok_X11 dX11_refusalOfLasso_7 (k := 0) (by decide) fl_X11_10 rfl rfl rfl ?_
  refine r_iload_n dX11_refusalOfLasso_10 2 rfl ?_
  refine x_callV (Y := mX9_holds) (d' := 1) dX11_refusalOfLasso_11 ml_X11_98 yv_X9_holds (by omega) rfl rfl (by simp [Value.category]) (sR_is rfl rfl) (c_X9_holds σ x2) ?_
  refine r_if_ne (t := 19) dX11_refusalOfLasso_14 (by decide) (fun qc1 => ?_) (fun qc1 => ?_)
  · replace h := ifn h qc1
    refine r_aload_n dX11_refusalOfLasso_19 0 rfl ?_
    refine s_getR (b := 1) ok_X11 dX11_refusalOfLasso_20 (k := 0) (by decide) fl_X11_10 rfl rfl rfl ?_
    refine r_iload_n dX11_refusalOfLasso_23 2 rfl ?_
    refine x_callV0 (Y := mX9_open) (d' := 1) dX11_refusalOfLasso_24 ml_X11_106 yv_X9_open (by omega) rfl rfl (by simp [Value.category]) (sR_is rfl rfl) (c_X9_open σ x2) ?_
    refine r_st (fun σ2 eσ2 => ?_)
    replace h := bnd_at h eσ2
    refine r_aload_n dX11_refusalOfLasso_27 0 rfl ?_
    refine s_getR (b := 3) ok_X11 dX11_refusalOfLasso_28 (k := 1) (by decide) fl_X11_21 rfl rfl rfl ?_
    refine r_aload_n dX11_refusalOfLasso_31 1 rfl ?_
    refine s_getI ok_X0 dX11_refusalOfLasso_32 (k := 2) (by decide) fl_X11_155 ha rfl ?_
    obtain ⟨rq4, σ5, qg3, h⟩ := bd2_at h
    refine x_callV (Y := mX5_readLasso) (d' := 6) dX11_refusalOfLasso_35 ml_X11_294 yv_X5_readLasso (by omega) rfl rfl (by simp [Value.category]) (sR_is rfl rfl) (lc_X5_readLasso qg3) ?_
    refine r_if_eq (t := 45) dX11_refusalOfLasso_38 (by decide) (fun qc6 => ?_) (fun qc6 => ?_)
    · replace h := ifp h qc6
      refine r_iconst (v := 4) dX11_refusalOfLasso_45 (by decide) ?_
      refine r_iret rfl dX11_refusalOfLasso_46 ?_
      exact lfI h
    · replace h := ifn h qc6
      refine r_iconst (v := 0) dX11_refusalOfLasso_41 (by decide) ?_
      refine r_goto (t := 46) dX11_refusalOfLasso_42 (by decide) ?_
      refine r_iret rfl dX11_refusalOfLasso_46 ?_
      exact lfI h
  · replace h := ifp h qc1
    refine r_iconst (v := 2) dX11_refusalOfLasso_17 (by decide) ?_
    refine r_iret rfl dX11_refusalOfLasso_18 ?_
    exact lfI h
set_option maxRecDepth 8000 in
theorem lc_X11_refusalOfLasso {ad : Nat → Nat} {F : Nat} {x1 : Nat} {x2 : Int32} {σ τ : sS} {r : Int32} (ha : la x1 = (1, 0)) (h : L_X11_refusalOfLasso F x1 x2 σ = some (r, τ)) : ab_X (sR ad) 7 mX11_refusalOfLasso [.ref (ad 0), .ref (ad x1), .int x2] σ (some (.int r)) τ := ab_X.of (by decide) (Nat.le_of_ble_eq_true rfl) (e_X11_refusalOfLasso ha h)
set_option maxRecDepth 8000 in
def L_X11_refusalOfLassoN (F : Nat) (x2 : Int32) (σ : sS) : Option (Int32 × sS) := some ((1, σ))
set_option maxRecDepth 8000 in
theorem e_X11_refusalOfLassoN {ad : Nat → Nat} {F : Nat} {x2 : Int32} {σ : sS} {z : (Int32 × sS)} (h : L_X11_refusalOfLassoN F x2 σ = some z) : ab_E (sR ad) mX11_refusalOfLasso 7 0 [(0, .ref (ad 0)), (1, .null), (2, .int x2)] [] σ (fun r9 σ9 => r9 = some (.int z.1) ∧ σ9 = z.2) := by
  unfold L_X11_refusalOfLassoN at h
  refine r_aload_nN dX11_refusalOfLasso_0 1 rfl ?_
  refine r_ifnonnullN dX11_refusalOfLasso_1 ?_
  refine r_iconst (v := 1) dX11_refusalOfLasso_4 (by decide) ?_
  refine r_iret rfl dX11_refusalOfLasso_5 ?_
  exact lfI h
set_option maxRecDepth 8000 in
theorem lc_X11_refusalOfLassoN {ad : Nat → Nat} {F : Nat} {x2 : Int32} {σ τ : sS} {r : Int32} (h : L_X11_refusalOfLassoN F x2 σ = some (r, τ)) : ab_X (sR ad) 7 mX11_refusalOfLasso [.ref (ad 0), .null, .int x2] σ (some (.int r)) τ := ab_X.of (by decide) (Nat.le_of_ble_eq_true rfl) (e_X11_refusalOfLassoN h)
