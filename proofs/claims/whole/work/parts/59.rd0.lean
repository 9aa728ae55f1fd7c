/-! Reader, lifted -/
set_option maxRecDepth 8000 in
def L_X5_readArrow_98  (σ : sS) : Option (Int32 × sS) := bnd (t_blame σ (1 : Int32) (vI σ 1 5)) (fun σ12 => some ((0, σ12)))
set_option maxRecDepth 8000 in
theorem l_X5_readArrow_98 {ad : Nat → Nat} {z : (Int32 × sS)}  (σ : sS) (h : L_X5_readArrow_98 σ = some z) : ab_E (sR ad) mX5_readArrow 5 98 [(0, .ref (ad 3))] [] σ (fun r9 σ9 => r9 = some (.int z.1) ∧ σ9 = z.2) := by
  unfold L_X5_readArrow_98 at h
  refine r_aload_n dX5_readArrow_98 0 rfl ?_
  refine s_getR (b := 1) ok_X5 dX5_readArrow_99 (k := 0) (by decide) fl_X5_35 rfl rfl rfl ?_
  refine r_iconst (v := 1) dX5_readArrow_102 (by decide) ?_
  refine r_aload_n dX5_readArrow_103 0 rfl ?_
  refine s_getR (b := 1) ok_X5 dX5_readArrow_104 (k := 0) (by decide) fl_X5_35 rfl rfl rfl ?_
  refine s_getI ok_X9 dX5_readArrow_107 (k := 5) (by decide) fl_X5_59 rfl rfl ?_
  refine x_callV (Y := mX9_blame) (d' := 1) dX5_readArrow_110 ml_X5_62 yv_X9_blame (by omega) rfl rfl (by simp [Value.category]) (sR_is rfl rfl) (c_X9_blame σ (1 : Int32) (vI σ 1 5)) ?_
  refine r_st (fun σ12 eσ12 => ?_)
  replace h := bnd_at h eσ12
  refine r_zret rfl (by decide) dX5_readArrow_113 ?_
  exact lfI h
set_option maxRecDepth 8000 in
def L_X5_readArrow (x1 : Int32) (σ : sS) : Option (Int32 × sS) := if q_lt σ = true then (bnd (9 + (vI σ 3 6 - 1).toNatClampNeg) (fun ia2 => grd (isAu ia2) (bd2 (L_X9_whole (0 : Int32) ((vI σ ia2 1) - 1) σ) (fun rq5 σ6 => if rq5 = ((-1)) then (some ((0, σ6))) else (bd (L_X9_step σ6) (fun σ9 => bnd ((t_by σ9 (vI σ9 1 5)) - 97) (fun yq10 => if (vI σ9 1 4) = 2 then (if (vI σ9 1 6) = 1 then (if yq10 < (vI σ9 3 7) then (bd2 (L_X9_whole (0 : Int32) ((vI σ9 ia2 1) - 1) σ9) (fun rq15 σ16 => if rq15 = ((-1)) then (some ((0, σ16))) else (if (a_jn σ16 ia2 rq5 yq10 rq15) = 0 then (bnd (a_sa σ16 ia2 rq5 yq10 rq15 (1 : Int32)) (fun σ19 => some ((1, σ19)))) else (bnd (t_blame σ16 (3 : Int32) x1) (fun σ20 => some ((0, σ20))))))) else (L_X5_readArrow_98 σ9)) else (L_X5_readArrow_98 σ9)) else (L_X5_readArrow_98 σ9)))))))) else (bnd (t_blame σ (5 : Int32) x1) (fun σ21 => some ((0, σ21))))
set_option maxRecDepth 8000 in
theorem e_X5_readArrow {ad : Nat → Nat} {x1 : Int32} {σ : sS} {z : (Int32 × sS)} (h : L_X5_readArrow x1 σ = some z) : ab_E (sR ad) mX5_readArrow 5 0 [(0, .ref (ad 3)), (1, .int x1)] [] σ (fun r9 σ9 => r9 = some (.int z.1) ∧ σ9 = z.2) := by
  unfold L_X5_readArrow at h
  refine r_aload_n dX5_readArrow_0 0 rfl ?_
  by_cases qm1 : q_lt σ = true
  · replace h := ifp h qm1
    refine x_callV (Y := mX5_latest) (d' := 1) dX5_readArrow_1 ml_X5_126 yv_X5_latest (by omega) rfl rfl (by simp [Value.category]) (sR_is rfl rfl) (c_latest σ qm1) ?_
    refine r_topr (fun ia2 eia2 => ?_)
    replace h := bnd_at h eia2
    obtain ⟨qg3, h⟩ := grd_at h
    refine r_astore_n (lo' := [(2, .ref (ad ia2)), (0, .ref (ad 3)), (1, .int x1)]) dX5_readArrow_4 (by decide) rfl ?_
    refine r_aload_n dX5_readArrow_5 0 rfl ?_
    refine r_ifnonnull (t := 19) dX5_readArrow_6 (by decide) ?_
    refine r_aload_n dX5_readArrow_19 1 rfl ?_
    refine s_getR (b := 1) ok_X5 dX5_readArrow_20 (k := 0) (by decide) fl_X5_35 rfl rfl rfl ?_
    refine r_iconst (v := 0) dX5_readArrow_23 (by decide) ?_
    refine r_aload_n dX5_readArrow_24 0 rfl ?_
    refine s_getI ok_X0 dX5_readArrow_25 (k := 1) (by decide) fl_X5_130 (isAu_of qg3) rfl ?_
    refine r_iconst (v := 1) dX5_readArrow_28 (by decide) ?_
    refine r_isub dX5_readArrow_29 ?_
    obtain ⟨rq5, σ6, qg4, h⟩ := bd2_at h
    refine x_callV (Y := mX9_whole) (d' := 4) dX5_readArrow_30 ml_X5_94 yv_X9_whole (by omega) rfl rfl (by simp [Value.category]) (sR_is rfl rfl) (lc_X9_whole qg4) ?_
    refine r_istore_n (lo' := [(3, .int rq5), (2, .ref (ad ia2)), (0, .ref (ad 3)), (1, .int x1)]) dX5_readArrow_33 (by decide) rfl ?_
    refine r_iload_n dX5_readArrow_34 0 rfl ?_
    refine r_iconst (v := (-1)) dX5_readArrow_35 (by decide) ?_
    refine r_icmp_ne (t := 41) dX5_readArrow_36 (by decide) (fun qc7 => ?_) (fun qc7 => ?_)
    · replace h := ifn h qc7
      refine r_aload_n dX5_readArrow_41 2 rfl ?_
      refine s_getR (b := 1) ok_X5 dX5_readArrow_42 (k := 0) (by decide) fl_X5_35 rfl rfl rfl ?_
      obtain ⟨σ9, qg8, h⟩ := bd_at h
      refine x_callV0 (Y := mX9_step) (d' := 3) dX5_readArrow_45 ml_X5_53 yv_X9_step (by omega) rfl rfl (by simp [Value.category]) (sR_is rfl rfl) (lc_X9_step qg8) ?_
      refine r_aload_n dX5_readArrow_48 2 rfl ?_
      refine s_getR (b := 1) ok_X5 dX5_readArrow_49 (k := 0) (by decide) fl_X5_35 rfl rfl rfl ?_
      refine r_aload_n dX5_readArrow_52 2 rfl ?_
      refine s_getR (b := 1) ok_X5 dX5_readArrow_53 (k := 0) (by decide) fl_X5_35 rfl rfl rfl ?_
      refine s_getI ok_X9 dX5_readArrow_56 (k := 5) (by decide) fl_X5_59 rfl rfl ?_
      refine x_callV (Y := mX9_byteAt) (d' := 2) dX5_readArrow_59 ml_X5_123 yv_X9_byteAt (by omega) rfl rfl (by simp [Value.category]) (sR_is rfl rfl) (c_X9_byteAt σ9 (vI σ9 1 5)) ?_
      refine r_bipush (v := 97) dX5_readArrow_62 (by decide) ?_
      refine r_isub dX5_readArrow_64 ?_
      refine r_topi (fun yq10 eyq10 => ?_)
      replace h := bnd_at h eyq10
      refine r_istore (lo' := [(4, .int yq10), (3, .int rq5), (2, .ref (ad ia2)), (0, .ref (ad 3)), (1, .int x1)]) dX5_readArrow_65 (by decide) rfl ?_
      refine r_aload_n dX5_readArrow_67 3 rfl ?_
      refine s_getR (b := 1) ok_X5 dX5_readArrow_68 (k := 0) (by decide) fl_X5_35 rfl rfl rfl ?_
      refine s_getI ok_X9 dX5_readArrow_71 (k := 4) (by decide) fl_X5_56 rfl rfl ?_
      refine r_iconst (v := 2) dX5_readArrow_74 (by decide) ?_
      refine r_icmp_ne (t := 98) dX5_readArrow_75 (by decide) (fun qc11 => ?_) (fun qc11 => ?_)
      · replace h := ifn h qc11
        exact ab_E.lo [3] rfl (l_X5_readArrow_98 _ h)
      · replace h := ifp h qc11
        refine r_aload_n dX5_readArrow_78 3 rfl ?_
        refine s_getR (b := 1) ok_X5 dX5_readArrow_79 (k := 0) (by decide) fl_X5_35 rfl rfl rfl ?_
        refine s_getI ok_X9 dX5_readArrow_82 (k := 6) (by decide) fl_X5_116 rfl rfl ?_
        refine r_iconst (v := 1) dX5_readArrow_85 (by decide) ?_
        refine r_icmp_ne (t := 98) dX5_readArrow_86 (by decide) (fun qc12 => ?_) (fun qc12 => ?_)
        · replace h := ifn h qc12
          exact ab_E.lo [3] rfl (l_X5_readArrow_98 _ h)
        · replace h := ifp h qc12
          refine r_iload dX5_readArrow_89 0 rfl ?_
          refine r_aload_n dX5_readArrow_91 3 rfl ?_
          refine s_getI ok_X5 dX5_readArrow_92 (k := 7) (by decide) fl_X5_44 rfl rfl ?_
          refine r_icmp_lt (t := 114) dX5_readArrow_95 (by decide) (fun qc13 => ?_) (fun qc13 => ?_)
          · replace h := ifp h qc13
            refine r_aload_n dX5_readArrow_114 3 rfl ?_
            refine s_getR (b := 1) ok_X5 dX5_readArrow_115 (k := 0) (by decide) fl_X5_35 rfl rfl rfl ?_
            refine r_iconst (v := 0) dX5_readArrow_118 (by decide) ?_
            refine r_aload_n dX5_readArrow_119 2 rfl ?_
            refine s_getI ok_X0 dX5_readArrow_120 (k := 1) (by decide) fl_X5_130 (isAu_of qg3) rfl ?_
            refine r_iconst (v := 1) dX5_readArrow_123 (by decide) ?_
            refine r_isub dX5_readArrow_124 ?_
            obtain ⟨rq15, σ16, qg14, h⟩ := bd2_at h
            refine x_callV (Y := mX9_whole) (d' := 4) dX5_readArrow_125 ml_X5_94 yv_X9_whole (by omega) rfl rfl (by simp [Value.category]) (sR_is rfl rfl) (lc_X9_whole qg14) ?_
            refine r_istore (lo' := [(5, .int rq15), (4, .int yq10), (3, .int rq5), (2, .ref (ad ia2)), (0, .ref (ad 3)), (1, .int x1)]) dX5_readArrow_128 (by decide) rfl ?_
            refine r_iload dX5_readArrow_130 0 rfl ?_
            refine r_iconst (v := (-1)) dX5_readArrow_132 (by decide) ?_
            refine r_icmp_ne (t := 138) dX5_readArrow_133 (by decide) (fun qc17 => ?_) (fun qc17 => ?_)
            · replace h := ifn h qc17
              refine r_aload_n dX5_readArrow_138 3 rfl ?_
              refine r_iload_n dX5_readArrow_139 2 rfl ?_
              refine r_iload dX5_readArrow_140 1 rfl ?_
              refine r_iload dX5_readArrow_142 0 rfl ?_
              refine x_callV (Y := mX0_joins) (d' := 3) dX5_readArrow_144 ml_X5_141 yv_X0_joins (by omega) rfl rfl (by simp [Value.category]) (sR_is (isAu_of qg3) rfl) (c_X0_joins σ16 (isAu_of qg3) rq5 yq10 rq15) ?_
              refine r_if_eq (t := 160) dX5_readArrow_147 (by decide) (fun qc18 => ?_) (fun qc18 => ?_)
              · replace h := ifp h qc18
                refine r_aload_n dX5_readArrow_160 3 rfl ?_
                refine r_iload_n dX5_readArrow_161 2 rfl ?_
                refine r_iload dX5_readArrow_162 1 rfl ?_
                refine r_iload dX5_readArrow_164 0 rfl ?_
                refine r_iconst (v := 1) dX5_readArrow_166 (by decide) ?_
                refine x_callV0 (Y := mX0_setArrow) (d' := 3) dX5_readArrow_167 ml_X5_145 yv_X0_setArrow (by omega) rfl rfl (by simp [Value.category]) (sR_is (isAu_of qg3) rfl) (c_X0_setArrow σ16 (isAu_of qg3) rq5 yq10 rq15 (1 : Int32)) ?_
                refine r_st (fun σ19 eσ19 => ?_)
                replace h := bnd_at h eσ19
                refine r_iconst (v := 1) dX5_readArrow_170 (by decide) ?_
                refine r_zret rfl (by decide) dX5_readArrow_171 ?_
                exact lfI h
              · replace h := ifn h qc18
                refine r_aload_n dX5_readArrow_150 4 rfl ?_
                refine s_getR (b := 1) ok_X5 dX5_readArrow_151 (k := 0) (by decide) fl_X5_35 rfl rfl rfl ?_
                refine r_iconst (v := 3) dX5_readArrow_154 (by decide) ?_
                refine r_iload_n dX5_readArrow_155 5 rfl ?_
                refine x_callV (Y := mX9_blame) (d' := 1) dX5_readArrow_156 ml_X5_62 yv_X9_blame (by omega) rfl rfl (by simp [Value.category]) (sR_is rfl rfl) (c_X9_blame σ16 (3 : Int32) x1) ?_
                refine r_st (fun σ20 eσ20 => ?_)
                replace h := bnd_at h eσ20
                refine r_zret rfl (by decide) dX5_readArrow_159 ?_
                exact lfI h
            · replace h := ifp h qc17
              refine r_iconst (v := 0) dX5_readArrow_136 (by decide) ?_
              refine r_zret rfl (by decide) dX5_readArrow_137 ?_
              exact lfI h
          · replace h := ifn h qc13
            exact ab_E.lo [3] rfl (l_X5_readArrow_98 _ h)
    · replace h := ifp h qc7
      refine r_iconst (v := 0) dX5_readArrow_39 (by decide) ?_
      refine r_zret rfl (by decide) dX5_readArrow_40 ?_
      exact lfI h
  · replace h := ifn h qm1
    refine x_callV (Y := mX5_latest) (d' := 1) dX5_readArrow_1 ml_X5_126 yv_X5_latest (by omega) rfl rfl (by simp [Value.category]) (sR_is rfl rfl) (c_latestN σ qm1) ?_
    refine r_astore_nN (lo' := [(2, .null), (0, .ref (ad 3)), (1, .int x1)]) dX5_readArrow_4 (by decide) rfl ?_
    refine r_aload_nN dX5_readArrow_5 0 rfl ?_
    refine r_ifnonnullN dX5_readArrow_6 ?_
    refine r_aload_n dX5_readArrow_9 1 rfl ?_
    refine s_getR (b := 1) ok_X5 dX5_readArrow_10 (k := 0) (by decide) fl_X5_35 rfl rfl rfl ?_
    refine r_iconst (v := 5) dX5_readArrow_13 (by decide) ?_
    refine r_iload_n dX5_readArrow_14 2 rfl ?_
    refine x_callV (Y := mX9_blame) (d' := 1) dX5_readArrow_15 ml_X5_62 yv_X9_blame (by omega) rfl rfl (by simp [Value.category]) (sR_is rfl rfl) (c_X9_blame σ (5 : Int32) x1) ?_
    refine r_st (fun σ21 eσ21 => ?_)
    replace h := bnd_at h eσ21
    refine r_zret rfl (by decide) dX5_readArrow_18 ?_
    exact lfI h
set_option maxRecDepth 8000 in
theorem lc_X5_readArrow {ad : Nat → Nat} {x1 : Int32} {σ τ : sS} {r : Int32} (h : L_X5_readArrow x1 σ = some (r, τ)) : ab_X (sR ad) 5 mX5_readArrow [.ref (ad 3), .int x1] σ (some (.int r)) τ := ab_X.of (by decide) (Nat.le_of_ble_eq_true rfl) (e_X5_readArrow h)
set_option maxRecDepth 8000 in
def L_X5_isKept (σ : sS) : Int32 := if (t_sp σ 0) = 0 then (if (t_sp σ 1) = 0 then (if (t_sp σ 2) = 0 then (if (t_sp σ 3) = 0 then (if (t_sp σ 4) = 0 then (if (t_sp σ 5) = 0 then ((0 : Int32)) else ((1 : Int32))) else ((1 : Int32))) else ((1 : Int32))) else ((1 : Int32))) else ((1 : Int32))) else ((1 : Int32))
set_option maxRecDepth 8000 in
theorem e_X5_isKept {ad : Nat → Nat}  {σ : sS} {z : Int32} (h : L_X5_isKept σ = z) : ab_E (sR ad) mX5_isKept 6 0 [(0, .ref (ad 3))] [] σ (fun r9 σ9 => r9 = some (.int z) ∧ σ9 = σ) := by
  unfold L_X5_isKept at h
  refine r_aload_n dX5_isKept_0 0 rfl ?_
  refine s_getR (b := 1) ok_X5 dX5_isKept_1 (k := 0) (by decide) fl_X5_35 rfl rfl rfl ?_
  refine s_ldcS dX5_isKept_4 sm_X5_66 ?_
  refine x_callV (Y := mX9_spells) (d' := 5) dX5_isKept_6 ml_X5_68 yv_X9_spells (by omega) rfl rfl (by simp [Value.category]) (sR_is rfl rfl) (c_X9_spells σ (i := 0) (by decide)) ?_
  refine r_if_ne (t := 72) dX5_isKept_9 (by decide) (fun qc1 => ?_) (fun qc1 => ?_)
  · replace h := ifn h qc1
    refine r_iconst (v := 1) dX5_isKept_72 (by decide) ?_
    refine r_goto (t := 77) dX5_isKept_73 (by decide) ?_
    refine r_zret rfl (by decide) dX5_isKept_77 ?_
    exact lfT h
  · replace h := ifp h qc1
    refine r_aload_n dX5_isKept_12 0 rfl ?_
    refine s_getR (b := 1) ok_X5 dX5_isKept_13 (k := 0) (by decide) fl_X5_35 rfl rfl rfl ?_
    refine s_ldcS dX5_isKept_16 sm_X5_76 ?_
    refine x_callV (Y := mX9_spells) (d' := 5) dX5_isKept_18 ml_X5_68 yv_X9_spells (by omega) rfl rfl (by simp [Value.category]) (sR_is rfl rfl) (c_X9_spells σ (i := 1) (by decide)) ?_
    refine r_if_ne (t := 72) dX5_isKept_21 (by decide) (fun qc2 => ?_) (fun qc2 => ?_)
    · replace h := ifn h qc2
      refine r_iconst (v := 1) dX5_isKept_72 (by decide) ?_
      refine r_goto (t := 77) dX5_isKept_73 (by decide) ?_
      refine r_zret rfl (by decide) dX5_isKept_77 ?_
      exact lfT h
    · replace h := ifp h qc2
      refine r_aload_n dX5_isKept_24 0 rfl ?_
      refine s_getR (b := 1) ok_X5 dX5_isKept_25 (k := 0) (by decide) fl_X5_35 rfl rfl rfl ?_
      refine s_ldcS dX5_isKept_28 sm_X5_101 ?_
      refine x_callV (Y := mX9_spells) (d' := 5) dX5_isKept_30 ml_X5_68 yv_X9_spells (by omega) rfl rfl (by simp [Value.category]) (sR_is rfl rfl) (c_X9_spells σ (i := 2) (by decide)) ?_
      refine r_if_ne (t := 72) dX5_isKept_33 (by decide) (fun qc3 => ?_) (fun qc3 => ?_)
      · replace h := ifn h qc3
        refine r_iconst (v := 1) dX5_isKept_72 (by decide) ?_
        refine r_goto (t := 77) dX5_isKept_73 (by decide) ?_
        refine r_zret rfl (by decide) dX5_isKept_77 ?_
        exact lfT h
      · replace h := ifp h qc3
        refine r_aload_n dX5_isKept_36 0 rfl ?_
        refine s_getR (b := 1) ok_X5 dX5_isKept_37 (k := 0) (by decide) fl_X5_35 rfl rfl rfl ?_
        refine s_ldcS dX5_isKept_40 sm_X5_81 ?_
        refine x_callV (Y := mX9_spells) (d' := 5) dX5_isKept_42 ml_X5_68 yv_X9_spells (by omega) rfl rfl (by simp [Value.category]) (sR_is rfl rfl) (c_X9_spells σ (i := 3) (by decide)) ?_
        refine r_if_ne (t := 72) dX5_isKept_45 (by decide) (fun qc4 => ?_) (fun qc4 => ?_)
        · replace h := ifn h qc4
          refine r_iconst (v := 1) dX5_isKept_72 (by decide) ?_
          refine r_goto (t := 77) dX5_isKept_73 (by decide) ?_
          refine r_zret rfl (by decide) dX5_isKept_77 ?_
          exact lfT h
        · replace h := ifp h qc4
          refine r_aload_n dX5_isKept_48 0 rfl ?_
          refine s_getR (b := 1) ok_X5 dX5_isKept_49 (k := 0) (by decide) fl_X5_35 rfl rfl rfl ?_
          refine s_ldcS dX5_isKept_52 sm_X5_87 ?_
          refine x_callV (Y := mX9_spells) (d' := 5) dX5_isKept_54 ml_X5_68 yv_X9_spells (by omega) rfl rfl (by simp [Value.category]) (sR_is rfl rfl) (c_X9_spells σ (i := 4) (by decide)) ?_
          refine r_if_ne (t := 72) dX5_isKept_57 (by decide) (fun qc5 => ?_) (fun qc5 => ?_)
          · replace h := ifn h qc5
            refine r_iconst (v := 1) dX5_isKept_72 (by decide) ?_
            refine r_goto (t := 77) dX5_isKept_73 (by decide) ?_
            refine r_zret rfl (by decide) dX5_isKept_77 ?_
            exact lfT h
          · replace h := ifp h qc5
            refine r_aload_n dX5_isKept_60 0 rfl ?_
            refine s_getR (b := 1) ok_X5 dX5_isKept_61 (k := 0) (by decide) fl_X5_35 rfl rfl rfl ?_
            refine s_ldcS dX5_isKept_64 sm_X5_89 ?_
            refine x_callV (Y := mX9_spells) (d' := 5) dX5_isKept_66 ml_X5_68 yv_X9_spells (by omega) rfl rfl (by simp [Value.category]) (sR_is rfl rfl) (c_X9_spells σ (i := 5) (by decide)) ?_
            refine r_if_eq (t := 76) dX5_isKept_69 (by decide) (fun qc6 => ?_) (fun qc6 => ?_)
            · replace h := ifp h qc6
              refine r_iconst (v := 0) dX5_isKept_76 (by decide) ?_
              refine r_zret rfl (by decide) dX5_isKept_77 ?_
              exact lfT h
            · replace h := ifn h qc6
              refine r_iconst (v := 1) dX5_isKept_72 (by decide) ?_
              refine r_goto (t := 77) dX5_isKept_73 (by decide) ?_
              refine r_zret rfl (by decide) dX5_isKept_77 ?_
              exact lfT h
set_option maxRecDepth 8000 in
theorem lc_X5_isKept {ad : Nat → Nat}  (σ : sS) : ab_X (sR ad) 6 mX5_isKept [.ref (ad 3)] σ (some (.int (L_X5_isKept σ))) σ := ab_X.of (by decide) (Nat.le_of_ble_eq_true rfl) (e_X5_isKept rfl)
set_option maxRecDepth 8000 in
def L_X5_isNameOf_22 (F : Nat) (x1 : Int32) (σ : sS) (kx : Option Int32) : Nat → Int32 → Option Int32
  | 0, _ => none
  | n + 1, x2 => if (vI σ 1 6) ≤ x2 then (kx) else (if (t_by σ ((rg σ 4 x1) + x2)) = (t_by σ ((vI σ 1 5) + x2)) then (L_X5_isNameOf_22 F x1 σ kx n (x2 + 1)) else (some ((0 : Int32))))
set_option maxRecDepth 8000 in
theorem l_X5_isNameOf_22 {ad : Nat → Nat} {F : Nat} {x1 : Int32} {σ : sS} {z : Int32} {kx : Option Int32} (hx : kx  = some z → ab_E (sR ad) mX5_isNameOf 3 77 [] [] σ (fun r9 σ9 => r9 = some (.int z) ∧ σ9 = σ)) : ∀ (n : Nat) (x2 : Int32), L_X5_isNameOf_22 F x1 σ kx n x2 = some z → ab_E (sR ad) mX5_isNameOf 3 22 [(2, .int x2), (1, .int x1), (0, .ref (ad 3))] [] σ (fun r9 σ9 => r9 = some (.int z) ∧ σ9 = σ) := by
  intro n
  induction n with
  | zero =>
    intro x2 h
    rw [L_X5_isNameOf_22] at h
    cases h
  | succ n ih =>
    intro x2 h
    rw [L_X5_isNameOf_22] at h
    refine r_iload_n dX5_isNameOf_22 0 rfl ?_
    refine r_aload_n dX5_isNameOf_23 2 rfl ?_
    refine s_getR (b := 1) ok_X5 dX5_isNameOf_24 (k := 0) (by decide) fl_X5_35 rfl rfl rfl ?_
    refine s_getI ok_X9 dX5_isNameOf_27 (k := 6) (by decide) fl_X5_116 rfl rfl ?_
    refine r_icmp_ge (t := 77) dX5_isNameOf_30 (by decide) (fun qc2 => ?_) (fun qc2 => ?_)
    · replace h := ifp h qc2
      exact ab_E.lo [] rfl (hx  h)
    · replace h := ifn h qc2
      refine r_aload_n dX5_isNameOf_33 2 rfl ?_
      refine s_getR (b := 1) ok_X5 dX5_isNameOf_34 (k := 0) (by decide) fl_X5_35 rfl rfl rfl ?_
      refine r_aload_n dX5_isNameOf_37 2 rfl ?_
      refine s_getR (b := 4) ok_X5 dX5_isNameOf_38 (k := 1) (by decide) fl_X5_14 rfl rfl rfl ?_
      refine r_iload_n dX5_isNameOf_41 1 rfl ?_
      refine x_callV (Y := mX7_get) (d' := 1) dX5_isNameOf_42 ml_X5_119 yv_X7_get (by omega) rfl rfl (by simp [Value.category]) (sR_isR rfl) (c_get rfl x1) ?_
      refine r_iload_n dX5_isNameOf_45 0 rfl ?_
      refine r_iadd dX5_isNameOf_46 ?_
      refine x_callV (Y := mX9_byteAt) (d' := 2) dX5_isNameOf_47 ml_X5_123 yv_X9_byteAt (by omega) rfl rfl (by simp [Value.category]) (sR_is rfl rfl) (c_X9_byteAt σ ((rg σ 4 x1) + x2)) ?_
      refine r_aload_n dX5_isNameOf_50 2 rfl ?_
      refine s_getR (b := 1) ok_X5 dX5_isNameOf_51 (k := 0) (by decide) fl_X5_35 rfl rfl rfl ?_
      refine r_aload_n dX5_isNameOf_54 2 rfl ?_
      refine s_getR (b := 1) ok_X5 dX5_isNameOf_55 (k := 0) (by decide) fl_X5_35 rfl rfl rfl ?_
      refine s_getI ok_X9 dX5_isNameOf_58 (k := 5) (by decide) fl_X5_59 rfl rfl ?_
      refine r_iload_n dX5_isNameOf_61 0 rfl ?_
      refine r_iadd dX5_isNameOf_62 ?_
      refine x_callV (Y := mX9_byteAt) (d' := 2) dX5_isNameOf_63 ml_X5_123 yv_X9_byteAt (by omega) rfl rfl (by simp [Value.category]) (sR_is rfl rfl) (c_X9_byteAt σ ((vI σ 1 5) + x2)) ?_
      refine r_icmp_eq (t := 71) dX5_isNameOf_66 (by decide) (fun qc3 => ?_) (fun qc3 => ?_)
      · replace h := ifp h qc3
        refine r_iinc (v := x2 + 1) (lo' := [(2, .int (x2 + 1)), (1, .int x1), (0, .ref (ad 3))]) dX5_isNameOf_71 0 rfl rfl (by decide) rfl ?_
        refine r_goto (t := 22) dX5_isNameOf_74 (by decide) ?_
        exact ab_E.lo [0, 1, 2] rfl (ih _ h)
      · replace h := ifn h qc3
        refine r_iconst (v := 0) dX5_isNameOf_69 (by decide) ?_
        refine r_zret rfl (by decide) dX5_isNameOf_70 ?_
        exact lfP h
set_option maxRecDepth 8000 in
def L_X5_isNameOf (F : Nat) (x1 : Int32) (σ : sS) : Option Int32 := if (rg σ 5 x1) = (vI σ 1 6) then (L_X5_isNameOf_22 F x1 σ (some ((1 : Int32))) F 0) else (some ((0 : Int32)))
set_option maxRecDepth 8000 in
theorem e_X5_isNameOf {ad : Nat → Nat} {F : Nat} {x1 : Int32} {σ : sS} {z : Int32} (h : L_X5_isNameOf F x1 σ = some z) : ab_E (sR ad) mX5_isNameOf 3 0 [(0, .ref (ad 3)), (1, .int x1)] [] σ (fun r9 σ9 => r9 = some (.int z) ∧ σ9 = σ) := by
  unfold L_X5_isNameOf at h
  refine r_aload_n dX5_isNameOf_0 0 rfl ?_
  refine s_getR (b := 5) ok_X5 dX5_isNameOf_1 (k := 2) (by decide) fl_X5_20 rfl rfl rfl ?_
  refine r_iload_n dX5_isNameOf_4 1 rfl ?_
  refine x_callV (Y := mX7_get) (d' := 1) dX5_isNameOf_5 ml_X5_119 yv_X7_get (by omega) rfl rfl (by simp [Value.category]) (sR_isR rfl) (c_get rfl x1) ?_
  refine r_aload_n dX5_isNameOf_8 0 rfl ?_
  refine s_getR (b := 1) ok_X5 dX5_isNameOf_9 (k := 0) (by decide) fl_X5_35 rfl rfl rfl ?_
  refine s_getI ok_X9 dX5_isNameOf_12 (k := 6) (by decide) fl_X5_116 rfl rfl ?_
  refine r_icmp_eq (t := 20) dX5_isNameOf_15 (by decide) (fun qc1 => ?_) (fun qc1 => ?_)
  · replace h := ifp h qc1
    refine r_iconst (v := 0) dX5_isNameOf_20 (by decide) ?_
    refine r_istore_n (lo' := [(2, .int 0), (0, .ref (ad 3)), (1, .int x1)]) dX5_isNameOf_21 (by decide) rfl ?_
    refine ab_E.lo [0, 2, 1] rfl (l_X5_isNameOf_22 (fun h => ?_) _ _ h)
    refine r_iconst (v := 1) dX5_isNameOf_77 (by decide) ?_
    refine r_zret rfl (by decide) dX5_isNameOf_78 ?_
    exact lfP h
  · replace h := ifn h qc1
    refine r_iconst (v := 0) dX5_isNameOf_18 (by decide) ?_
    refine r_zret rfl (by decide) dX5_isNameOf_19 ?_
    exact lfP h
set_option maxRecDepth 8000 in
theorem lc_X5_isNameOf {ad : Nat → Nat} {F : Nat} {x1 : Int32} {σ : sS} {r : Int32} (h : L_X5_isNameOf F x1 σ = some r) : ab_X (sR ad) 3 mX5_isNameOf [.ref (ad 3), .int x1] σ (some (.int r)) σ := ab_X.of (by decide) (Nat.le_of_ble_eq_true rfl) (e_X5_isNameOf h)
set_option maxRecDepth 8000 in
def L_X5_readName_25 (F : Nat)  (σ : sS) : Option (Int32 × sS) := bnd (t_blame σ (1 : Int32) (vI σ 1 5)) (fun σ4 => some ((0, σ4)))
set_option maxRecDepth 8000 in
theorem l_X5_readName_25 {ad : Nat → Nat} {F : Nat} {z : (Int32 × sS)}  (σ : sS) (h : L_X5_readName_25 F σ = some z) : ab_E (sR ad) mX5_readName 7 25 [(0, .ref (ad 3))] [] σ (fun r9 σ9 => r9 = some (.int z.1) ∧ σ9 = z.2) := by
  unfold L_X5_readName_25 at h
  refine r_aload_n dX5_readName_25 0 rfl ?_
  refine s_getR (b := 1) ok_X5 dX5_readName_26 (k := 0) (by decide) fl_X5_35 rfl rfl rfl ?_
  refine r_iconst (v := 1) dX5_readName_29 (by decide) ?_
  refine r_aload_n dX5_readName_30 0 rfl ?_
  refine s_getR (b := 1) ok_X5 dX5_readName_31 (k := 0) (by decide) fl_X5_35 rfl rfl rfl ?_
  refine s_getI ok_X9 dX5_readName_34 (k := 5) (by decide) fl_X5_59 rfl rfl ?_
  refine x_callV (Y := mX9_blame) (d' := 1) dX5_readName_37 ml_X5_62 yv_X9_blame (by omega) rfl rfl (by simp [Value.category]) (sR_is rfl rfl) (c_X9_blame σ (1 : Int32) (vI σ 1 5)) ?_
  refine r_st (fun σ4 eσ4 => ?_)
  replace h := bnd_at h eσ4
  refine r_zret rfl (by decide) dX5_readName_40 ?_
  exact lfI h
set_option maxRecDepth 8000 in
def L_X5_readName_43 (F : Nat) (kx : sS → Option (Int32 × sS)) : Nat → Int32 → sS → Option (Int32 × sS)
  | 0, _, _ => none
  | n + 1, x1, σ => if (vI σ 3 6) ≤ x1 then (kx σ) else (bd (L_X5_isNameOf F x1 σ) (fun rq7 => if rq7 = 0 then (L_X5_readName_43 F kx n (x1 + 1) σ) else (bnd (t_blame σ (3 : Int32) (vI σ 1 5)) (fun σ9 => some ((0, σ9))))))
set_option maxRecDepth 8000 in
theorem l_X5_readName_43 {ad : Nat → Nat} {F : Nat} {z : (Int32 × sS)} {kx : sS → Option (Int32 × sS)} (hx : ∀  (σ : sS), kx σ = some z → ab_E (sR ad) mX5_readName 7 81 [(0, .ref (ad 3))] [] σ (fun r9 σ9 => r9 = some (.int z.1) ∧ σ9 = z.2)) : ∀ (n : Nat) (x1 : Int32) (σ : sS), L_X5_readName_43 F kx n x1 σ = some z → ab_E (sR ad) mX5_readName 7 43 [(1, .int x1), (0, .ref (ad 3))] [] σ (fun r9 σ9 => r9 = some (.int z.1) ∧ σ9 = z.2) := by
  intro n
  induction n with
  | zero =>
    intro x1 σ h
    rw [L_X5_readName_43] at h
    cases h
  | succ n ih =>
    intro x1 σ h
    rw [L_X5_readName_43] at h
    refine r_iload_n dX5_readName_43 0 rfl ?_
    refine r_aload_n dX5_readName_44 1 rfl ?_
    refine s_getI ok_X5 dX5_readName_45 (k := 6) (by decide) fl_X5_40 rfl rfl ?_
    refine r_icmp_ge (t := 81) dX5_readName_48 (by decide) (fun qc5 => ?_) (fun qc5 => ?_)
    · replace h := ifp h qc5
      exact ab_E.lo [1] rfl (hx _ h)
    · replace h := ifn h qc5
      refine r_aload_n dX5_readName_51 1 rfl ?_
      refine r_iload_n dX5_readName_52 0 rfl ?_
      obtain ⟨rq7, qg6, h⟩ := bd_at h
      refine x_callV (Y := mX5_isNameOf) (d' := 3) dX5_readName_53 ml_X5_110 yv_X5_isNameOf (by omega) rfl rfl (by simp [Value.category]) (sR_is rfl rfl) (lc_X5_isNameOf qg6) ?_
      refine r_if_eq (t := 75) dX5_readName_56 (by decide) (fun qc8 => ?_) (fun qc8 => ?_)
      · replace h := ifp h qc8
        refine r_iinc (v := x1 + 1) (lo' := [(1, .int (x1 + 1)), (0, .ref (ad 3))]) dX5_readName_75 0 rfl rfl (by decide) rfl ?_
        refine r_goto (t := 43) dX5_readName_78 (by decide) ?_
        exact ab_E.lo [0, 1] rfl (ih _ _ h)
      · replace h := ifn h qc8
        refine r_aload_n dX5_readName_59 1 rfl ?_
        refine s_getR (b := 1) ok_X5 dX5_readName_60 (k := 0) (by decide) fl_X5_35 rfl rfl rfl ?_
        refine r_iconst (v := 3) dX5_readName_63 (by decide) ?_
        refine r_aload_n dX5_readName_64 1 rfl ?_
        refine s_getR (b := 1) ok_X5 dX5_readName_65 (k := 0) (by decide) fl_X5_35 rfl rfl rfl ?_
        refine s_getI ok_X9 dX5_readName_68 (k := 5) (by decide) fl_X5_59 rfl rfl ?_
        refine x_callV (Y := mX9_blame) (d' := 1) dX5_readName_71 ml_X5_62 yv_X9_blame (by omega) rfl rfl (by simp [Value.category]) (sR_is rfl rfl) (c_X9_blame σ (3 : Int32) (vI σ 1 5)) ?_
        refine r_st (fun σ9 eσ9 => ?_)
        replace h := bnd_at h eσ9
        refine r_zret rfl (by decide) dX5_readName_74 ?_
        exact lfI h
set_option maxRecDepth 8000 in
def L_X5_readName (F : Nat) (σ : sS) : Option (Int32 × sS) := bd (L_X9_step σ) (fun σ2 => if (vI σ2 1 4) = 2 then (if (L_X5_isKept σ2) = 0 then (L_X5_readName_43 F (fun σ5 => bnd (rp σ5 4 (vI σ5 3 6) (vI σ5 1 5)) (fun σ6 => bnd (rp σ6 5 (vI σ6 3 6) (vI σ6 1 6)) (fun σ7 => some ((1, σ7))))) F 0 σ2) else (L_X5_readName_25 F σ2)) else (L_X5_readName_25 F σ2))
set_option maxRecDepth 8000 in
theorem e_X5_readName {ad : Nat → Nat} {F : Nat}  {σ : sS} {z : (Int32 × sS)} (h : L_X5_readName F σ = some z) : ab_E (sR ad) mX5_readName 7 0 [(0, .ref (ad 3))] [] σ (fun r9 σ9 => r9 = some (.int z.1) ∧ σ9 = z.2) := by
  unfold L_X5_readName at h
  refine r_aload_n dX5_readName_0 0 rfl ?_
  refine s_getR (b := 1) ok_X5 dX5_readName_1 (k := 0) (by decide) fl_X5_35 rfl rfl rfl ?_
  obtain ⟨σ2, qg1, h⟩ := bd_at h
  refine x_callV0 (Y := mX9_step) (d' := 3) dX5_readName_4 ml_X5_53 yv_X9_step (by omega) rfl rfl (by simp [Value.category]) (sR_is rfl rfl) (lc_X9_step qg1) ?_
  refine r_aload_n dX5_readName_7 0 rfl ?_
  refine s_getR (b := 1) ok_X5 dX5_readName_8 (k := 0) (by decide) fl_X5_35 rfl rfl rfl ?_
  refine s_getI ok_X9 dX5_readName_11 (k := 4) (by decide) fl_X5_56 rfl rfl ?_
  refine r_iconst (v := 2) dX5_readName_14 (by decide) ?_
  refine r_icmp_ne (t := 25) dX5_readName_15 (by decide) (fun qc3 => ?_) (fun qc3 => ?_)
  · replace h := ifn h qc3
    exact ab_E.lo [0] rfl (l_X5_readName_25 _ h)
  · replace h := ifp h qc3
    refine r_aload_n dX5_readName_18 0 rfl ?_
    refine x_callV (Y := mX5_isKept) (d' := 6) dX5_readName_19 ml_X5_107 yv_X5_isKept (by omega) rfl rfl (by simp [Value.category]) (sR_is rfl rfl) (lc_X5_isKept σ2) ?_
    refine r_if_eq (t := 41) dX5_readName_22 (by decide) (fun qc4 => ?_) (fun qc4 => ?_)
    · replace h := ifp h qc4
      refine r_iconst (v := 0) dX5_readName_41 (by decide) ?_
      refine r_istore_n (lo' := [(1, .int 0), (0, .ref (ad 3))]) dX5_readName_42 (by decide) rfl ?_
      refine ab_E.lo [0, 1] rfl (l_X5_readName_43 (fun σ5 h => ?_) _ _ _ h)
      refine r_aload_n dX5_readName_81 0 rfl ?_
      refine s_getR (b := 4) ok_X5 dX5_readName_82 (k := 1) (by decide) fl_X5_14 rfl rfl rfl ?_
      refine r_aload_n dX5_readName_85 0 rfl ?_
      refine s_getI ok_X5 dX5_readName_86 (k := 6) (by decide) fl_X5_40 rfl rfl ?_
      refine r_aload_n dX5_readName_89 0 rfl ?_
      refine s_getR (b := 1) ok_X5 dX5_readName_90 (k := 0) (by decide) fl_X5_35 rfl rfl rfl ?_
      refine s_getI ok_X9 dX5_readName_93 (k := 5) (by decide) fl_X5_59 rfl rfl ?_
      refine x_callV0 (Y := mX7_put) (d' := 1) dX5_readName_96 ml_X5_113 yv_X7_put (by omega) rfl rfl (by simp [Value.category]) (sR_isR rfl) (c_put rfl (vI σ5 3 6) (vI σ5 1 5)) ?_
      refine r_st (fun σ6 eσ6 => ?_)
      replace h := bnd_at h eσ6
      refine r_aload_n dX5_readName_99 0 rfl ?_
      refine s_getR (b := 5) ok_X5 dX5_readName_100 (k := 2) (by decide) fl_X5_20 rfl rfl rfl ?_
      refine r_aload_n dX5_readName_103 0 rfl ?_
      refine s_getI ok_X5 dX5_readName_104 (k := 6) (by decide) fl_X5_40 rfl rfl ?_
      refine r_aload_n dX5_readName_107 0 rfl ?_
      refine s_getR (b := 1) ok_X5 dX5_readName_108 (k := 0) (by decide) fl_X5_35 rfl rfl rfl ?_
      refine s_getI ok_X9 dX5_readName_111 (k := 6) (by decide) fl_X5_116 rfl rfl ?_
      refine x_callV0 (Y := mX7_put) (d' := 1) dX5_readName_114 ml_X5_113 yv_X7_put (by omega) rfl rfl (by simp [Value.category]) (sR_isR rfl) (c_put rfl (vI σ6 3 6) (vI σ6 1 6)) ?_
      refine r_st (fun σ7 eσ7 => ?_)
      replace h := bnd_at h eσ7
      refine r_iconst (v := 1) dX5_readName_117 (by decide) ?_
      refine r_zret rfl (by decide) dX5_readName_118 ?_
      exact lfI h
    · replace h := ifn h qc4
      exact ab_E.lo [0] rfl (l_X5_readName_25 _ h)
set_option maxRecDepth 8000 in
theorem lc_X5_readName {ad : Nat → Nat} {F : Nat}  {σ τ : sS} {r : Int32} (h : L_X5_readName F σ = some (r, τ)) : ab_X (sR ad) 7 mX5_readName [.ref (ad 3)] σ (some (.int r)) τ := ab_X.of (by decide) (Nat.le_of_ble_eq_true rfl) (e_X5_readName h)
set_option maxRecDepth 8000 in
def L_X5_readAuto (F : Nat) (x1 : Int32) (σ : sS) : Option (Int32 × sS) := if (vI σ 3 7) = 0 then (bnd (t_blame σ (5 : Int32) x1) (fun σ21 => some ((0, σ21)))) else (if (vI σ 3 6) < 3 then (bd2 (L_X5_readName F σ) (fun rq4 σ5 => if rq4 = 0 then (some ((0, σ5))) else (bd (L_X9_step σ5) (fun σ8 => if (t_sp σ8 2) = 0 then (bnd (t_blame σ8 (1 : Int32) (vI σ8 1 5)) (fun σ19 => some ((0, σ19)))) else (bd2 (L_X9_whole (1 : Int32) (4 : Int32) σ8) (fun rq11 σ12 => if rq11 = ((-1)) then (some ((0, σ12))) else (grd (inb (vI σ12 3 6) 3) (bnd (9 + (vI σ12 3 6).toNatClampNeg) (fun ia15 => grd (isAu ia15) (bnd (a_ly σ12 ia15 rq11 (vI σ12 3 7)) (fun σ17 => bnd (uI σ17 3 6 ((vI σ17 3 6) + 1)) (fun σ18 => some ((1, σ18)))))))))))))) else (bnd (t_blame σ (4 : Int32) x1) (fun σ20 => some ((0, σ20)))))
set_option maxRecDepth 8000 in
theorem e_X5_readAuto {ad : Nat → Nat} {F : Nat} {x1 : Int32} {σ : sS} {z : (Int32 × sS)} (h : L_X5_readAuto F x1 σ = some z) : ab_E (sR ad) mX5_readAuto 8 0 [(0, .ref (ad 3)), (1, .int x1)] [] σ (fun r9 σ9 => r9 = some (.int z.1) ∧ σ9 = z.2) := by
  unfold L_X5_readAuto at h
  refine r_aload_n dX5_readAuto_0 0 rfl ?_
  refine s_getI ok_X5 dX5_readAuto_1 (k := 7) (by decide) fl_X5_44 rfl rfl ?_
  refine r_if_ne (t := 17) dX5_readAuto_4 (by decide) (fun qc1 => ?_) (fun qc1 => ?_)
  · replace h := ifn h qc1
    refine r_aload_n dX5_readAuto_17 0 rfl ?_
    refine s_getI ok_X5 dX5_readAuto_18 (k := 6) (by decide) fl_X5_40 rfl rfl ?_
    refine r_iconst (v := 3) dX5_readAuto_21 (by decide) ?_
    refine r_icmp_lt (t := 35) dX5_readAuto_22 (by decide) (fun qc2 => ?_) (fun qc2 => ?_)
    · replace h := ifp h qc2
      refine r_aload_n dX5_readAuto_35 0 rfl ?_
      obtain ⟨rq4, σ5, qg3, h⟩ := bd2_at h
      refine x_callV (Y := mX5_readName) (d' := 7) dX5_readAuto_36 ml_X5_98 yv_X5_readName (by omega) rfl rfl (by simp [Value.category]) (sR_is rfl rfl) (lc_X5_readName qg3) ?_
      refine r_if_ne (t := 44) dX5_readAuto_39 (by decide) (fun qc6 => ?_) (fun qc6 => ?_)
      · replace h := ifn h qc6
        refine r_aload_n dX5_readAuto_44 0 rfl ?_
        refine s_getR (b := 1) ok_X5 dX5_readAuto_45 (k := 0) (by decide) fl_X5_35 rfl rfl rfl ?_
        obtain ⟨σ8, qg7, h⟩ := bd_at h
        refine x_callV0 (Y := mX9_step) (d' := 3) dX5_readAuto_48 ml_X5_53 yv_X9_step (by omega) rfl rfl (by simp [Value.category]) (sR_is rfl rfl) (lc_X9_step qg7) ?_
        refine r_aload_n dX5_readAuto_51 0 rfl ?_
        refine s_getR (b := 1) ok_X5 dX5_readAuto_52 (k := 0) (by decide) fl_X5_35 rfl rfl rfl ?_
        refine s_ldcS dX5_readAuto_55 sm_X5_101 ?_
        refine x_callV (Y := mX9_spells) (d' := 5) dX5_readAuto_57 ml_X5_68 yv_X9_spells (by omega) rfl rfl (by simp [Value.category]) (sR_is rfl rfl) (c_X9_spells σ8 (i := 2) (by decide)) ?_
        refine r_if_ne (t := 79) dX5_readAuto_60 (by decide) (fun qc9 => ?_) (fun qc9 => ?_)
        · replace h := ifn h qc9
          refine r_aload_n dX5_readAuto_79 0 rfl ?_
          refine s_getR (b := 1) ok_X5 dX5_readAuto_80 (k := 0) (by decide) fl_X5_35 rfl rfl rfl ?_
          refine r_iconst (v := 1) dX5_readAuto_83 (by decide) ?_
          refine r_iconst (v := 4) dX5_readAuto_84 (by decide) ?_
          obtain ⟨rq11, σ12, qg10, h⟩ := bd2_at h
          refine x_callV (Y := mX9_whole) (d' := 4) dX5_readAuto_85 ml_X5_94 yv_X9_whole (by omega) rfl rfl (by simp [Value.category]) (sR_is rfl rfl) (lc_X9_whole qg10) ?_
          refine r_istore_n (lo' := [(2, .int rq11), (0, .ref (ad 3)), (1, .int x1)]) dX5_readAuto_88 (by decide) rfl ?_
          refine r_iload_n dX5_readAuto_89 0 rfl ?_
          refine r_iconst (v := (-1)) dX5_readAuto_90 (by decide) ?_
          refine r_icmp_ne (t := 96) dX5_readAuto_91 (by decide) (fun qc13 => ?_) (fun qc13 => ?_)
          · replace h := ifn h qc13
            refine r_aload_n dX5_readAuto_96 1 rfl ?_
            refine s_getR (b := 8) ok_X5 dX5_readAuto_97 (k := 3) (by decide) fl_X5_25 rfl rfl rfl ?_
            refine r_aload_n dX5_readAuto_100 1 rfl ?_
            refine s_getI ok_X5 dX5_readAuto_101 (k := 6) (by decide) fl_X5_40 rfl rfl ?_
            obtain ⟨qg14, h⟩ := grd_at h
            refine s_aald5 (b := 9 + (vI σ12 3 6).toNatClampNeg) dX5_readAuto_104 rfl (inb_of qg14) (sr_8 (inb_sp qg14).2) ?_
            refine r_topr (fun ia15 eia15 => ?_)
            replace h := bnd_at h eia15
            obtain ⟨qg16, h⟩ := grd_at h
            refine r_iload_n dX5_readAuto_105 0 rfl ?_
            refine r_aload_n dX5_readAuto_106 1 rfl ?_
            refine s_getI ok_X5 dX5_readAuto_107 (k := 7) (by decide) fl_X5_44 rfl rfl ?_
            refine x_callV0 (Y := mX0_lay) (d' := 4) dX5_readAuto_110 ml_X5_103 yv_X0_lay (by omega) rfl rfl (by simp [Value.category]) (sR_is (isAu_of qg16) rfl) (c_X0_lay σ12 (isAu_of qg16) rq11 (vI σ12 3 7)) ?_
            refine r_st (fun σ17 eσ17 => ?_)
            replace h := bnd_at h eσ17
            refine r_aload_n dX5_readAuto_113 1 rfl ?_
            refine r_dup dX5_readAuto_114 rfl ?_
            refine s_getI ok_X5 dX5_readAuto_115 (k := 6) (by decide) fl_X5_40 rfl rfl ?_
            refine r_iconst (v := 1) dX5_readAuto_118 (by decide) ?_
            refine r_iadd dX5_readAuto_119 ?_
            refine s_putI ok_X5 dX5_readAuto_120 (k := 6) (by decide) fl_X5_40 rfl rfl rfl rfl rfl ?_
            refine r_st (fun σ18 eσ18 => ?_)
            replace h := bnd_at h eσ18
            refine r_iconst (v := 1) dX5_readAuto_123 (by decide) ?_
            refine r_zret rfl (by decide) dX5_readAuto_124 ?_
            exact lfI h
          · replace h := ifp h qc13
            refine r_iconst (v := 0) dX5_readAuto_94 (by decide) ?_
            refine r_zret rfl (by decide) dX5_readAuto_95 ?_
            exact lfI h
        · replace h := ifp h qc9
          refine r_aload_n dX5_readAuto_63 0 rfl ?_
          refine s_getR (b := 1) ok_X5 dX5_readAuto_64 (k := 0) (by decide) fl_X5_35 rfl rfl rfl ?_
          refine r_iconst (v := 1) dX5_readAuto_67 (by decide) ?_
          refine r_aload_n dX5_readAuto_68 0 rfl ?_
          refine s_getR (b := 1) ok_X5 dX5_readAuto_69 (k := 0) (by decide) fl_X5_35 rfl rfl rfl ?_
          refine s_getI ok_X9 dX5_readAuto_72 (k := 5) (by decide) fl_X5_59 rfl rfl ?_
          refine x_callV (Y := mX9_blame) (d' := 1) dX5_readAuto_75 ml_X5_62 yv_X9_blame (by omega) rfl rfl (by simp [Value.category]) (sR_is rfl rfl) (c_X9_blame σ8 (1 : Int32) (vI σ8 1 5)) ?_
          refine r_st (fun σ19 eσ19 => ?_)
          replace h := bnd_at h eσ19
          refine r_zret rfl (by decide) dX5_readAuto_78 ?_
          exact lfI h
      · replace h := ifp h qc6
        refine r_iconst (v := 0) dX5_readAuto_42 (by decide) ?_
        refine r_zret rfl (by decide) dX5_readAuto_43 ?_
        exact lfI h
    · replace h := ifn h qc2
      refine r_aload_n dX5_readAuto_25 0 rfl ?_
      refine s_getR (b := 1) ok_X5 dX5_readAuto_26 (k := 0) (by decide) fl_X5_35 rfl rfl rfl ?_
      refine r_iconst (v := 4) dX5_readAuto_29 (by decide) ?_
      refine r_iload_n dX5_readAuto_30 1 rfl ?_
      refine x_callV (Y := mX9_blame) (d' := 1) dX5_readAuto_31 ml_X5_62 yv_X9_blame (by omega) rfl rfl (by simp [Value.category]) (sR_is rfl rfl) (c_X9_blame σ (4 : Int32) x1) ?_
      refine r_st (fun σ20 eσ20 => ?_)
      replace h := bnd_at h eσ20
      refine r_zret rfl (by decide) dX5_readAuto_34 ?_
      exact lfI h
  · replace h := ifp h qc1
    refine r_aload_n dX5_readAuto_7 0 rfl ?_
    refine s_getR (b := 1) ok_X5 dX5_readAuto_8 (k := 0) (by decide) fl_X5_35 rfl rfl rfl ?_
    refine r_iconst (v := 5) dX5_readAuto_11 (by decide) ?_
    refine r_iload_n dX5_readAuto_12 1 rfl ?_
    refine x_callV (Y := mX9_blame) (d' := 1) dX5_readAuto_13 ml_X5_62 yv_X9_blame (by omega) rfl rfl (by simp [Value.category]) (sR_is rfl rfl) (c_X9_blame σ (5 : Int32) x1) ?_
    refine r_st (fun σ21 eσ21 => ?_)
    replace h := bnd_at h eσ21
    refine r_zret rfl (by decide) dX5_readAuto_16 ?_
    exact lfI h
set_option maxRecDepth 8000 in
theorem lc_X5_readAuto {ad : Nat → Nat} {F : Nat} {x1 : Int32} {σ τ : sS} {r : Int32} (h : L_X5_readAuto F x1 σ = some (r, τ)) : ab_X (sR ad) 8 mX5_readAuto [.ref (ad 3), .int x1] σ (some (.int r)) τ := ab_X.of (by decide) (Nat.le_of_ble_eq_true rfl) (e_X5_readAuto h)
set_option maxRecDepth 8000 in
def L_X5_readLetters (x1 : Int32) (σ : sS) : Option (Int32 × sS) := if (vI σ 3 7) ≤ 0 then (bd2 (L_X9_whole (1 : Int32) (3 : Int32) σ) (fun rq3 σ4 => if rq3 = ((-1)) then (some ((0, σ4))) else (bnd (uI σ4 3 7 rq3) (fun σ6 => some ((1, σ6)))))) else (bnd (t_blame σ (3 : Int32) x1) (fun σ7 => some ((0, σ7))))
set_option maxRecDepth 8000 in
theorem e_X5_readLetters {ad : Nat → Nat} {x1 : Int32} {σ : sS} {z : (Int32 × sS)} (h : L_X5_readLetters x1 σ = some z) : ab_E (sR ad) mX5_readLetters 5 0 [(0, .ref (ad 3)), (1, .int x1)] [] σ (fun r9 σ9 => r9 = some (.int z.1) ∧ σ9 = z.2) := by
  unfold L_X5_readLetters at h
  refine r_aload_n dX5_readLetters_0 0 rfl ?_
  refine s_getI ok_X5 dX5_readLetters_1 (k := 7) (by decide) fl_X5_44 rfl rfl ?_
  refine r_if_le (t := 17) dX5_readLetters_4 (by decide) (fun qc1 => ?_) (fun qc1 => ?_)
  · replace h := ifp h qc1
    refine r_aload_n dX5_readLetters_17 0 rfl ?_
    refine s_getR (b := 1) ok_X5 dX5_readLetters_18 (k := 0) (by decide) fl_X5_35 rfl rfl rfl ?_
    refine r_iconst (v := 1) dX5_readLetters_21 (by decide) ?_
    refine r_iconst (v := 3) dX5_readLetters_22 (by decide) ?_
    obtain ⟨rq3, σ4, qg2, h⟩ := bd2_at h
    refine x_callV (Y := mX9_whole) (d' := 4) dX5_readLetters_23 ml_X5_94 yv_X9_whole (by omega) rfl rfl (by simp [Value.category]) (sR_is rfl rfl) (lc_X9_whole qg2) ?_
    refine r_istore_n (lo' := [(2, .int rq3), (0, .ref (ad 3)), (1, .int x1)]) dX5_readLetters_26 (by decide) rfl ?_
    refine r_iload_n dX5_readLetters_27 0 rfl ?_
    refine r_iconst (v := (-1)) dX5_readLetters_28 (by decide) ?_
    refine r_icmp_ne (t := 34) dX5_readLetters_29 (by decide) (fun qc5 => ?_) (fun qc5 => ?_)
    · replace h := ifn h qc5
      refine r_aload_n dX5_readLetters_34 1 rfl ?_
      refine r_iload_n dX5_readLetters_35 0 rfl ?_
      refine s_putI ok_X5 dX5_readLetters_36 (k := 7) (by decide) fl_X5_44 rfl rfl rfl rfl rfl ?_
      refine r_st (fun σ6 eσ6 => ?_)
      replace h := bnd_at h eσ6
      refine r_iconst (v := 1) dX5_readLetters_39 (by decide) ?_
      refine r_zret rfl (by decide) dX5_readLetters_40 ?_
      exact lfI h
    · replace h := ifp h qc5
      refine r_iconst (v := 0) dX5_readLetters_32 (by decide) ?_
      refine r_zret rfl (by decide) dX5_readLetters_33 ?_
      exact lfI h
  · replace h := ifn h qc1
    refine r_aload_n dX5_readLetters_7 0 rfl ?_
    refine s_getR (b := 1) ok_X5 dX5_readLetters_8 (k := 0) (by decide) fl_X5_35 rfl rfl rfl ?_
    refine r_iconst (v := 3) dX5_readLetters_11 (by decide) ?_
    refine r_iload_n dX5_readLetters_12 1 rfl ?_
    refine x_callV (Y := mX9_blame) (d' := 1) dX5_readLetters_13 ml_X5_62 yv_X9_blame (by omega) rfl rfl (by simp [Value.category]) (sR_is rfl rfl) (c_X9_blame σ (3 : Int32) x1) ?_
    refine r_st (fun σ7 eσ7 => ?_)
    replace h := bnd_at h eσ7
    refine r_zret rfl (by decide) dX5_readLetters_16 ?_
    exact lfI h
set_option maxRecDepth 8000 in
theorem lc_X5_readLetters {ad : Nat → Nat} {x1 : Int32} {σ τ : sS} {r : Int32} (h : L_X5_readLetters x1 σ = some (r, τ)) : ab_X (sR ad) 5 mX5_readLetters [.ref (ad 3), .int x1] σ (some (.int r)) τ := ab_X.of (by decide) (Nat.le_of_ble_eq_true rfl) (e_X5_readLetters h)
set_option maxRecDepth 8000 in
def L_X5_readState (x1 : Int32) (x2 : Int32) (σ : sS) : Option (Int32 × sS) := if q_lt σ = true then (bnd (9 + (vI σ 3 6 - 1).toNatClampNeg) (fun ia2 => grd (isAu ia2) (bd2 (L_X9_whole (0 : Int32) ((vI σ ia2 1) - 1) σ) (fun rq5 σ6 => if rq5 = ((-1)) then (some ((0, σ6))) else (if x2 = 0 then (if (q_in rq5 (vI σ6 ia2 4)) = 0 then (if x2 = 0 then (bnd (uI σ6 ia2 4 ((vI σ6 ia2 4) ||| ((1 : Int32) <<< (rq5 &&& 31)))) (fun σ11 => some ((1, σ11)))) else (bnd (uI σ6 ia2 3 ((vI σ6 ia2 3) ||| ((1 : Int32) <<< (rq5 &&& 31)))) (fun σ12 => some ((1, σ12))))) else (bnd (t_blame σ6 (3 : Int32) x1) (fun σ13 => some ((0, σ13))))) else (if (q_in rq5 (vI σ6 ia2 3)) = 0 then (if x2 = 0 then (bnd (uI σ6 ia2 4 ((vI σ6 ia2 4) ||| ((1 : Int32) <<< (rq5 &&& 31)))) (fun σ16 => some ((1, σ16)))) else (bnd (uI σ6 ia2 3 ((vI σ6 ia2 3) ||| ((1 : Int32) <<< (rq5 &&& 31)))) (fun σ17 => some ((1, σ17))))) else (bnd (t_blame σ6 (3 : Int32) x1) (fun σ18 => some ((0, σ18)))))))))) else (bnd (t_blame σ (5 : Int32) x1) (fun σ19 => some ((0, σ19))))
set_option maxRecDepth 8000 in
theorem e_X5_readState {ad : Nat → Nat} {x1 : Int32} {x2 : Int32} {σ : sS} {z : (Int32 × sS)} (h : L_X5_readState x1 x2 σ = some z) : ab_E (sR ad) mX5_readState 5 0 [(0, .ref (ad 3)), (1, .int x1), (2, .int x2)] [] σ (fun r9 σ9 => r9 = some (.int z.1) ∧ σ9 = z.2) := by
  unfold L_X5_readState at h
  refine r_aload_n dX5_readState_0 0 rfl ?_
  by_cases qm1 : q_lt σ = true
  · replace h := ifp h qm1
    refine x_callV (Y := mX5_latest) (d' := 1) dX5_readState_1 ml_X5_126 yv_X5_latest (by omega) rfl rfl (by simp [Value.category]) (sR_is rfl rfl) (c_latest σ qm1) ?_
    refine r_topr (fun ia2 eia2 => ?_)
    replace h := bnd_at h eia2
    obtain ⟨qg3, h⟩ := grd_at h
    refine r_astore_n (lo' := [(3, .ref (ad ia2)), (0, .ref (ad 3)), (1, .int x1), (2, .int x2)]) dX5_readState_4 (by decide) rfl ?_
    refine r_aload_n dX5_readState_5 0 rfl ?_
    refine r_ifnonnull (t := 19) dX5_readState_6 (by decide) ?_
    refine r_aload_n dX5_readState_19 1 rfl ?_
    refine s_getR (b := 1) ok_X5 dX5_readState_20 (k := 0) (by decide) fl_X5_35 rfl rfl rfl ?_
    refine r_iconst (v := 0) dX5_readState_23 (by decide) ?_
    refine r_aload_n dX5_readState_24 0 rfl ?_
    refine s_getI ok_X0 dX5_readState_25 (k := 1) (by decide) fl_X5_130 (isAu_of qg3) rfl ?_
    refine r_iconst (v := 1) dX5_readState_28 (by decide) ?_
    refine r_isub dX5_readState_29 ?_
    obtain ⟨rq5, σ6, qg4, h⟩ := bd2_at h
    refine x_callV (Y := mX9_whole) (d' := 4) dX5_readState_30 ml_X5_94 yv_X9_whole (by omega) rfl rfl (by simp [Value.category]) (sR_is rfl rfl) (lc_X9_whole qg4) ?_
    refine r_istore (lo' := [(4, .int rq5), (3, .ref (ad ia2)), (0, .ref (ad 3)), (1, .int x1), (2, .int x2)]) dX5_readState_33 (by decide) rfl ?_
    refine r_iload dX5_readState_35 0 rfl ?_
    refine r_iconst (v := (-1)) dX5_readState_37 (by decide) ?_
    refine r_icmp_ne (t := 43) dX5_readState_38 (by decide) (fun qc7 => ?_) (fun qc7 => ?_)
    · replace h := ifn h qc7
      refine r_iload dX5_readState_43 0 rfl ?_
      refine r_iload_n dX5_readState_45 4 rfl ?_
      refine r_if_eq (t := 56) dX5_readState_46 (by decide) (fun qc8 => ?_) (fun qc8 => ?_)
      · replace h := ifp h qc8
        refine r_aload_n dX5_readState_56 1 rfl ?_
        refine s_getI ok_X0 dX5_readState_57 (k := 4) (by decide) fl_X5_135 (isAu_of qg3) rfl ?_
        refine x_callSN (Y := mX11_isIn) (d' := 1) dX5_readState_60 mn_X5_138 ys_X11_isIn (by omega) rfl rfl (by simp [Value.category]) (c_X11_isIn σ6 rq5 (vI σ6 ia2 4)) ?_
        refine r_if_eq (t := 76) dX5_readState_63 (by decide) (fun qc9 => ?_) (fun qc9 => ?_)
        · replace h := ifp h qc9
          refine r_iload_n dX5_readState_76 4 rfl ?_
          refine r_if_eq (t := 96) dX5_readState_77 (by decide) (fun qc10 => ?_) (fun qc10 => ?_)
          · replace h := ifp h qc10
            refine r_aload_n dX5_readState_96 1 rfl ?_
            refine r_dup dX5_readState_97 rfl ?_
            refine s_getI ok_X0 dX5_readState_98 (k := 4) (by decide) fl_X5_135 (isAu_of qg3) rfl ?_
            refine r_iconst (v := 1) dX5_readState_101 (by decide) ?_
            refine r_iload dX5_readState_102 0 rfl ?_
            refine r_ishl dX5_readState_104 ?_
            refine r_ior dX5_readState_105 ?_
            refine s_putI ok_X0 dX5_readState_106 (k := 4) (by decide) fl_X5_135 rfl rfl rfl (isAu_of qg3) rfl ?_
            refine r_st (fun σ11 eσ11 => ?_)
            replace h := bnd_at h eσ11
            refine r_iconst (v := 1) dX5_readState_109 (by decide) ?_
            refine r_zret rfl (by decide) dX5_readState_110 ?_
            exact lfI h
          · replace h := ifn h qc10
            refine r_aload_n dX5_readState_80 1 rfl ?_
            refine r_dup dX5_readState_81 rfl ?_
            refine s_getI ok_X0 dX5_readState_82 (k := 3) (by decide) fl_X5_132 (isAu_of qg3) rfl ?_
            refine r_iconst (v := 1) dX5_readState_85 (by decide) ?_
            refine r_iload dX5_readState_86 0 rfl ?_
            refine r_ishl dX5_readState_88 ?_
            refine r_ior dX5_readState_89 ?_
            refine s_putI ok_X0 dX5_readState_90 (k := 3) (by decide) fl_X5_132 rfl rfl rfl (isAu_of qg3) rfl ?_
            refine r_st (fun σ12 eσ12 => ?_)
            replace h := bnd_at h eσ12
            refine r_goto (t := 109) dX5_readState_93 (by decide) ?_
            refine r_iconst (v := 1) dX5_readState_109 (by decide) ?_
            refine r_zret rfl (by decide) dX5_readState_110 ?_
            exact lfI h
        · replace h := ifn h qc9
          refine r_aload_n dX5_readState_66 2 rfl ?_
          refine s_getR (b := 1) ok_X5 dX5_readState_67 (k := 0) (by decide) fl_X5_35 rfl rfl rfl ?_
          refine r_iconst (v := 3) dX5_readState_70 (by decide) ?_
          refine r_iload_n dX5_readState_71 3 rfl ?_
          refine x_callV (Y := mX9_blame) (d' := 1) dX5_readState_72 ml_X5_62 yv_X9_blame (by omega) rfl rfl (by simp [Value.category]) (sR_is rfl rfl) (c_X9_blame σ6 (3 : Int32) x1) ?_
          refine r_st (fun σ13 eσ13 => ?_)
          replace h := bnd_at h eσ13
          refine r_zret rfl (by decide) dX5_readState_75 ?_
          exact lfI h
      · replace h := ifn h qc8
        refine r_aload_n dX5_readState_49 1 rfl ?_
        refine s_getI ok_X0 dX5_readState_50 (k := 3) (by decide) fl_X5_132 (isAu_of qg3) rfl ?_
        refine r_goto (t := 60) dX5_readState_53 (by decide) ?_
        refine x_callSN (Y := mX11_isIn) (d' := 1) dX5_readState_60 mn_X5_138 ys_X11_isIn (by omega) rfl rfl (by simp [Value.category]) (c_X11_isIn σ6 rq5 (vI σ6 ia2 3)) ?_
        refine r_if_eq (t := 76) dX5_readState_63 (by decide) (fun qc14 => ?_) (fun qc14 => ?_)
        · replace h := ifp h qc14
          refine r_iload_n dX5_readState_76 4 rfl ?_
          refine r_if_eq (t := 96) dX5_readState_77 (by decide) (fun qc15 => ?_) (fun qc15 => ?_)
          · replace h := ifp h qc15
            refine r_aload_n dX5_readState_96 1 rfl ?_
            refine r_dup dX5_readState_97 rfl ?_
            refine s_getI ok_X0 dX5_readState_98 (k := 4) (by decide) fl_X5_135 (isAu_of qg3) rfl ?_
            refine r_iconst (v := 1) dX5_readState_101 (by decide) ?_
            refine r_iload dX5_readState_102 0 rfl ?_
            refine r_ishl dX5_readState_104 ?_
            refine r_ior dX5_readState_105 ?_
            refine s_putI ok_X0 dX5_readState_106 (k := 4) (by decide) fl_X5_135 rfl rfl rfl (isAu_of qg3) rfl ?_
            refine r_st (fun σ16 eσ16 => ?_)
            replace h := bnd_at h eσ16
            refine r_iconst (v := 1) dX5_readState_109 (by decide) ?_
            refine r_zret rfl (by decide) dX5_readState_110 ?_
            exact lfI h
          · replace h := ifn h qc15
            refine r_aload_n dX5_readState_80 1 rfl ?_
            refine r_dup dX5_readState_81 rfl ?_
            refine s_getI ok_X0 dX5_readState_82 (k := 3) (by decide) fl_X5_132 (isAu_of qg3) rfl ?_
            refine r_iconst (v := 1) dX5_readState_85 (by decide) ?_
            refine r_iload dX5_readState_86 0 rfl ?_
            refine r_ishl dX5_readState_88 ?_
            refine r_ior dX5_readState_89 ?_
            refine s_putI ok_X0 dX5_readState_90 (k := 3) (by decide) fl_X5_132 rfl rfl rfl (isAu_of qg3) rfl ?_
            refine r_st (fun σ17 eσ17 => ?_)
            replace h := bnd_at h eσ17
            refine r_goto (t := 109) dX5_readState_93 (by decide) ?_
            refine r_iconst (v := 1) dX5_readState_109 (by decide) ?_
            refine r_zret rfl (by decide) dX5_readState_110 ?_
            exact lfI h
        · replace h := ifn h qc14
          refine r_aload_n dX5_readState_66 2 rfl ?_
          refine s_getR (b := 1) ok_X5 dX5_readState_67 (k := 0) (by decide) fl_X5_35 rfl rfl rfl ?_
          refine r_iconst (v := 3) dX5_readState_70 (by decide) ?_
          refine r_iload_n dX5_readState_71 3 rfl ?_
          refine x_callV (Y := mX9_blame) (d' := 1) dX5_readState_72 ml_X5_62 yv_X9_blame (by omega) rfl rfl (by simp [Value.category]) (sR_is rfl rfl) (c_X9_blame σ6 (3 : Int32) x1) ?_
          refine r_st (fun σ18 eσ18 => ?_)
          replace h := bnd_at h eσ18
          refine r_zret rfl (by decide) dX5_readState_75 ?_
          exact lfI h
    · replace h := ifp h qc7
      refine r_iconst (v := 0) dX5_readState_41 (by decide) ?_
      refine r_zret rfl (by decide) dX5_readState_42 ?_
      exact lfI h
  · replace h := ifn h qm1
    refine x_callV (Y := mX5_latest) (d' := 1) dX5_readState_1 ml_X5_126 yv_X5_latest (by omega) rfl rfl (by simp [Value.category]) (sR_is rfl rfl) (c_latestN σ qm1) ?_
    refine r_astore_nN (lo' := [(3, .null), (0, .ref (ad 3)), (1, .int x1), (2, .int x2)]) dX5_readState_4 (by decide) rfl ?_
    refine r_aload_nN dX5_readState_5 0 rfl ?_
    refine r_ifnonnullN dX5_readState_6 ?_
    refine r_aload_n dX5_readState_9 1 rfl ?_
    refine s_getR (b := 1) ok_X5 dX5_readState_10 (k := 0) (by decide) fl_X5_35 rfl rfl rfl ?_
    refine r_iconst (v := 5) dX5_readState_13 (by decide) ?_
    refine r_iload_n dX5_readState_14 2 rfl ?_
    refine x_callV (Y := mX9_blame) (d' := 1) dX5_readState_15 ml_X5_62 yv_X9_blame (by omega) rfl rfl (by simp [Value.category]) (sR_is rfl rfl) (c_X9_blame σ (5 : Int32) x1) ?_
    refine r_st (fun σ19 eσ19 => ?_)
    replace h := bnd_at h eσ19
    refine r_zret rfl (by decide) dX5_readState_18 ?_
    exact lfI h
set_option maxRecDepth 8000 in
theorem lc_X5_readState {ad : Nat → Nat} {x1 : Int32} {x2 : Int32} {σ τ : sS} {r : Int32} (h : L_X5_readState x1 x2 σ = some (r, τ)) : ab_X (sR ad) 5 mX5_readState [.ref (ad 3), .int x1, .int x2] σ (some (.int r)) τ := ab_X.of (by decide) (Nat.le_of_ble_eq_true rfl) (e_X5_readState h)
set_option maxRecDepth 8000 in
def L_X5_readLine (F : Nat) (σ : sS) : Option (Int32 × sS) := bd (L_X9_step σ) (fun σ2 => bnd (vI σ2 1 5) (fun yq3 => if (t_sp σ2 0) = 0 then (if (t_sp σ2 1) = 0 then (if (t_sp σ2 3) = 0 then (if (t_sp σ2 4) = 0 then (if (t_sp σ2 5) = 0 then (bnd (t_blame σ2 (1 : Int32) yq3) (fun σ9 => some ((0, σ9)))) else (bd2 (L_X5_readArrow yq3 σ2) (fun rq11 σ12 => grd (is01 rq11) (some ((rq11, σ12)))))) else (bd2 (L_X5_readState yq3 0 σ2) (fun rq15 σ16 => grd (is01 rq15) (some ((rq15, σ16)))))) else (bd2 (L_X5_readState yq3 1 σ2) (fun rq19 σ20 => grd (is01 rq19) (some ((rq19, σ20)))))) else (bd2 (L_X5_readAuto F yq3 σ2) (fun rq23 σ24 => grd (is01 rq23) (some ((rq23, σ24)))))) else (bd2 (L_X5_readLetters yq3 σ2) (fun rq27 σ28 => grd (is01 rq27) (some ((rq27, σ28)))))))
set_option maxRecDepth 8000 in
theorem e_X5_readLine {ad : Nat → Nat} {F : Nat}  {σ : sS} {z : (Int32 × sS)} (h : L_X5_readLine F σ = some z) : ab_E (sR ad) mX5_readLine 9 0 [(0, .ref (ad 3))] [] σ (fun r9 σ9 => r9 = some (.int z.1) ∧ σ9 = z.2) := by
  unfold L_X5_readLine at h
  refine r_aload_n dX5_readLine_0 0 rfl ?_
  refine s_getR (b := 1) ok_X5 dX5_readLine_1 (k := 0) (by decide) fl_X5_35 rfl rfl rfl ?_
  obtain ⟨σ2, qg1, h⟩ := bd_at h
  refine x_callV0 (Y := mX9_step) (d' := 3) dX5_readLine_4 ml_X5_53 yv_X9_step (by omega) rfl rfl (by simp [Value.category]) (sR_is rfl rfl) (lc_X9_step qg1) ?_
  refine r_aload_n dX5_readLine_7 0 rfl ?_
  refine s_getR (b := 1) ok_X5 dX5_readLine_8 (k := 0) (by decide) fl_X5_35 rfl rfl rfl ?_
  refine s_getI ok_X9 dX5_readLine_11 (k := 5) (by decide) fl_X5_59 rfl rfl ?_
  refine r_topi (fun yq3 eyq3 => ?_)
  replace h := bnd_at h eyq3
  refine r_istore_n (lo' := [(1, .int yq3), (0, .ref (ad 3))]) dX5_readLine_14 (by decide) rfl ?_
  refine r_aload_n dX5_readLine_15 1 rfl ?_
  refine s_getR (b := 1) ok_X5 dX5_readLine_16 (k := 0) (by decide) fl_X5_35 rfl rfl rfl ?_
  refine s_ldcS dX5_readLine_19 sm_X5_66 ?_
  refine x_callV (Y := mX9_spells) (d' := 5) dX5_readLine_21 ml_X5_68 yv_X9_spells (by omega) rfl rfl (by simp [Value.category]) (sR_is rfl rfl) (c_X9_spells σ2 (i := 0) (by decide)) ?_
  refine r_if_eq (t := 33) dX5_readLine_24 (by decide) (fun qc4 => ?_) (fun qc4 => ?_)
  · replace h := ifp h qc4
    refine r_aload_n dX5_readLine_33 1 rfl ?_
    refine s_getR (b := 1) ok_X5 dX5_readLine_34 (k := 0) (by decide) fl_X5_35 rfl rfl rfl ?_
    refine s_ldcS dX5_readLine_37 sm_X5_76 ?_
    refine x_callV (Y := mX9_spells) (d' := 5) dX5_readLine_39 ml_X5_68 yv_X9_spells (by omega) rfl rfl (by simp [Value.category]) (sR_is rfl rfl) (c_X9_spells σ2 (i := 1) (by decide)) ?_
    refine r_if_eq (t := 51) dX5_readLine_42 (by decide) (fun qc5 => ?_) (fun qc5 => ?_)
    · replace h := ifp h qc5
      refine r_aload_n dX5_readLine_51 1 rfl ?_
      refine s_getR (b := 1) ok_X5 dX5_readLine_52 (k := 0) (by decide) fl_X5_35 rfl rfl rfl ?_
      refine s_ldcS dX5_readLine_55 sm_X5_81 ?_
      refine x_callV (Y := mX9_spells) (d' := 5) dX5_readLine_57 ml_X5_68 yv_X9_spells (by omega) rfl rfl (by simp [Value.category]) (sR_is rfl rfl) (c_X9_spells σ2 (i := 3) (by decide)) ?_
      refine r_if_eq (t := 70) dX5_readLine_60 (by decide) (fun qc6 => ?_) (fun qc6 => ?_)
      · replace h := ifp h qc6
        refine r_aload_n dX5_readLine_70 1 rfl ?_
        refine s_getR (b := 1) ok_X5 dX5_readLine_71 (k := 0) (by decide) fl_X5_35 rfl rfl rfl ?_
        refine s_ldcS dX5_readLine_74 sm_X5_87 ?_
        refine x_callV (Y := mX9_spells) (d' := 5) dX5_readLine_76 ml_X5_68 yv_X9_spells (by omega) rfl rfl (by simp [Value.category]) (sR_is rfl rfl) (c_X9_spells σ2 (i := 4) (by decide)) ?_
        refine r_if_eq (t := 89) dX5_readLine_79 (by decide) (fun qc7 => ?_) (fun qc7 => ?_)
        · replace h := ifp h qc7
          refine r_aload_n dX5_readLine_89 1 rfl ?_
          refine s_getR (b := 1) ok_X5 dX5_readLine_90 (k := 0) (by decide) fl_X5_35 rfl rfl rfl ?_
          refine s_ldcS dX5_readLine_93 sm_X5_89 ?_
          refine x_callV (Y := mX9_spells) (d' := 5) dX5_readLine_95 ml_X5_68 yv_X9_spells (by omega) rfl rfl (by simp [Value.category]) (sR_is rfl rfl) (c_X9_spells σ2 (i := 5) (by decide)) ?_
          refine r_if_eq (t := 107) dX5_readLine_98 (by decide) (fun qc8 => ?_) (fun qc8 => ?_)
          · replace h := ifp h qc8
            refine r_aload_n dX5_readLine_107 1 rfl ?_
            refine s_getR (b := 1) ok_X5 dX5_readLine_108 (k := 0) (by decide) fl_X5_35 rfl rfl rfl ?_
            refine r_iconst (v := 1) dX5_readLine_111 (by decide) ?_
            refine r_iload_n dX5_readLine_112 0 rfl ?_
            refine x_callV (Y := mX9_blame) (d' := 1) dX5_readLine_113 ml_X5_62 yv_X9_blame (by omega) rfl rfl (by simp [Value.category]) (sR_is rfl rfl) (c_X9_blame σ2 (1 : Int32) yq3) ?_
            refine r_st (fun σ9 eσ9 => ?_)
            replace h := bnd_at h eσ9
            refine r_zret rfl (by decide) dX5_readLine_116 ?_
            exact lfI h
          · replace h := ifn h qc8
            refine r_aload_n dX5_readLine_101 1 rfl ?_
            refine r_iload_n dX5_readLine_102 0 rfl ?_
            obtain ⟨rq11, σ12, qg10, h⟩ := bd2_at h
            refine x_callV (Y := mX5_readArrow) (d' := 5) dX5_readLine_103 ml_X5_91 yv_X5_readArrow (by omega) rfl rfl (by simp [Value.category]) (sR_is rfl rfl) (lc_X5_readArrow qg10) ?_
            obtain ⟨qg13, h⟩ := grd_at h
            refine r_zret rfl (nar01 qg13) dX5_readLine_106 ?_
            exact lfI h
        · replace h := ifn h qc7
          refine r_aload_n dX5_readLine_82 1 rfl ?_
          refine r_iload_n dX5_readLine_83 0 rfl ?_
          refine r_iconst (v := 0) dX5_readLine_84 (by decide) ?_
          obtain ⟨rq15, σ16, qg14, h⟩ := bd2_at h
          refine x_callV (Y := mX5_readState) (d' := 5) dX5_readLine_85 ml_X5_83 yv_X5_readState (by omega) rfl rfl (by simp [Value.category]) (sR_is rfl rfl) (lc_X5_readState qg14) ?_
          obtain ⟨qg17, h⟩ := grd_at h
          refine r_zret rfl (nar01 qg17) dX5_readLine_88 ?_
          exact lfI h
      · replace h := ifn h qc6
        refine r_aload_n dX5_readLine_63 1 rfl ?_
        refine r_iload_n dX5_readLine_64 0 rfl ?_
        refine r_iconst (v := 1) dX5_readLine_65 (by decide) ?_
        obtain ⟨rq19, σ20, qg18, h⟩ := bd2_at h
        refine x_callV (Y := mX5_readState) (d' := 5) dX5_readLine_66 ml_X5_83 yv_X5_readState (by omega) rfl rfl (by simp [Value.category]) (sR_is rfl rfl) (lc_X5_readState qg18) ?_
        obtain ⟨qg21, h⟩ := grd_at h
        refine r_zret rfl (nar01 qg21) dX5_readLine_69 ?_
        exact lfI h
    · replace h := ifn h qc5
      refine r_aload_n dX5_readLine_45 1 rfl ?_
      refine r_iload_n dX5_readLine_46 0 rfl ?_
      obtain ⟨rq23, σ24, qg22, h⟩ := bd2_at h
      refine x_callV (Y := mX5_readAuto) (d' := 8) dX5_readLine_47 ml_X5_78 yv_X5_readAuto (by omega) rfl rfl (by simp [Value.category]) (sR_is rfl rfl) (lc_X5_readAuto qg22) ?_
      obtain ⟨qg25, h⟩ := grd_at h
      refine r_zret rfl (nar01 qg25) dX5_readLine_50 ?_
      exact lfI h
  · replace h := ifn h qc4
    refine r_aload_n dX5_readLine_27 1 rfl ?_
    refine r_iload_n dX5_readLine_28 0 rfl ?_
    obtain ⟨rq27, σ28, qg26, h⟩ := bd2_at h
    refine x_callV (Y := mX5_readLetters) (d' := 5) dX5_readLine_29 ml_X5_72 yv_X5_readLetters (by omega) rfl rfl (by simp [Value.category]) (sR_is rfl rfl) (lc_X5_readLetters qg26) ?_
    obtain ⟨qg29, h⟩ := grd_at h
    refine r_zret rfl (nar01 qg29) dX5_readLine_32 ?_
    exact lfI h
set_option maxRecDepth 8000 in
theorem lc_X5_readLine {ad : Nat → Nat} {F : Nat}  {σ τ : sS} {r : Int32} (h : L_X5_readLine F σ = some (r, τ)) : ab_X (sR ad) 9 mX5_readLine [.ref (ad 3)] σ (some (.int r)) τ := ab_X.of (by decide) (Nat.le_of_ble_eq_true rfl) (e_X5_readLine h)
set_option maxRecDepth 8000 in
def L_X5_readAutomata_12 (F : Nat) (kx : sS → Option (Int32 × sS)) : Nat → Int32 → sS → Option (Int32 × sS)
  | 0, _, _ => none
  | n + 1, x1, σ => if 400 ≤ x1 then (kx σ) else (bd2 (L_X5_readLine F σ) (fun rq5 σ6 => if rq5 = 0 then (some ((0, σ6))) else (bd (L_X9_step σ6) (fun σ9 => if (vI σ9 1 4) = 0 then (if 0 < (vI σ9 3 6) then (some ((1, σ9))) else (bnd (t_blame σ9 (5 : Int32) (vI σ9 1 5)) (fun σ13 => some ((0, σ13))))) else (if (vI σ9 1 4) = 59 then (L_X5_readAutomata_12 F kx n (x1 + 1) σ9) else (kx σ9))))))
set_option maxRecDepth 8000 in
theorem l_X5_readAutomata_12 {ad : Nat → Nat} {F : Nat} {z : (Int32 × sS)} {kx : sS → Option (Int32 × sS)} (hx : ∀  (σ : sS), kx σ = some z → ab_E (sR ad) mX5_readAutomata 10 97 [(0, .ref (ad 3))] [] σ (fun r9 σ9 => r9 = some (.int z.1) ∧ σ9 = z.2)) : ∀ (n : Nat) (x1 : Int32) (σ : sS), L_X5_readAutomata_12 F kx n x1 σ = some z → ab_E (sR ad) mX5_readAutomata 10 12 [(1, .int x1), (0, .ref (ad 3))] [] σ (fun r9 σ9 => r9 = some (.int z.1) ∧ σ9 = z.2) := by
  intro n
  induction n with
  | zero =>
    intro x1 σ h
    rw [L_X5_readAutomata_12] at h
    cases h
  | succ n ih =>
    intro x1 σ h
    rw [L_X5_readAutomata_12] at h
    refine r_iload_n dX5_readAutomata_12 0 rfl ?_
    refine r_sipush (v := 400) dX5_readAutomata_13 (by decide) ?_
    refine r_icmp_ge (t := 97) dX5_readAutomata_16 (by decide) (fun qc3 => ?_) (fun qc3 => ?_)
    · replace h := ifp h qc3
      exact ab_E.lo [1] rfl (hx _ h)
    · replace h := ifn h qc3
      refine r_aload_n dX5_readAutomata_19 1 rfl ?_
      obtain ⟨rq5, σ6, qg4, h⟩ := bd2_at h
      refine x_callV (Y := mX5_readLine) (d' := 9) dX5_readAutomata_20 ml_X5_49 yv_X5_readLine (by omega) rfl rfl (by simp [Value.category]) (sR_is rfl rfl) (lc_X5_readLine qg4) ?_
      refine r_if_ne (t := 28) dX5_readAutomata_23 (by decide) (fun qc7 => ?_) (fun qc7 => ?_)
      · replace h := ifn h qc7
        refine r_aload_n dX5_readAutomata_28 1 rfl ?_
        refine s_getR (b := 1) ok_X5 dX5_readAutomata_29 (k := 0) (by decide) fl_X5_35 rfl rfl rfl ?_
        obtain ⟨σ9, qg8, h⟩ := bd_at h
        refine x_callV0 (Y := mX9_step) (d' := 3) dX5_readAutomata_32 ml_X5_53 yv_X9_step (by omega) rfl rfl (by simp [Value.category]) (sR_is rfl rfl) (lc_X9_step qg8) ?_
        refine r_aload_n dX5_readAutomata_35 1 rfl ?_
        refine s_getR (b := 1) ok_X5 dX5_readAutomata_36 (k := 0) (by decide) fl_X5_35 rfl rfl rfl ?_
        refine s_getI ok_X9 dX5_readAutomata_39 (k := 4) (by decide) fl_X5_56 rfl rfl ?_
        refine r_if_ne (t := 76) dX5_readAutomata_42 (by decide) (fun qc10 => ?_) (fun qc10 => ?_)
        · replace h := ifn h qc10
          refine r_aload_n dX5_readAutomata_76 1 rfl ?_
          refine s_getR (b := 1) ok_X5 dX5_readAutomata_77 (k := 0) (by decide) fl_X5_35 rfl rfl rfl ?_
          refine s_getI ok_X9 dX5_readAutomata_80 (k := 4) (by decide) fl_X5_56 rfl rfl ?_
          refine r_bipush (v := 59) dX5_readAutomata_83 (by decide) ?_
          refine r_icmp_eq (t := 91) dX5_readAutomata_85 (by decide) (fun qc11 => ?_) (fun qc11 => ?_)
          · replace h := ifp h qc11
            refine r_iinc (v := x1 + 1) (lo' := [(1, .int (x1 + 1)), (0, .ref (ad 3))]) dX5_readAutomata_91 0 rfl rfl (by decide) rfl ?_
            refine r_goto (t := 12) dX5_readAutomata_94 (by decide) ?_
            exact ab_E.lo [0, 1] rfl (ih _ _ h)
          · replace h := ifn h qc11
            refine r_goto (t := 97) dX5_readAutomata_88 (by decide) ?_
            exact ab_E.lo [1] rfl (hx _ h)
        · replace h := ifp h qc10
          refine r_aload_n dX5_readAutomata_45 1 rfl ?_
          refine s_getI ok_X5 dX5_readAutomata_46 (k := 6) (by decide) fl_X5_40 rfl rfl ?_
          refine r_if_gt (t := 70) dX5_readAutomata_49 (by decide) (fun qc12 => ?_) (fun qc12 => ?_)
          · replace h := ifp h qc12
            refine r_iconst (v := 1) dX5_readAutomata_70 (by decide) ?_
            refine r_goto (t := 75) dX5_readAutomata_71 (by decide) ?_
            refine r_zret rfl (by decide) dX5_readAutomata_75 ?_
            exact lfI h
          · replace h := ifn h qc12
            refine r_aload_n dX5_readAutomata_52 1 rfl ?_
            refine s_getR (b := 1) ok_X5 dX5_readAutomata_53 (k := 0) (by decide) fl_X5_35 rfl rfl rfl ?_
            refine r_iconst (v := 5) dX5_readAutomata_56 (by decide) ?_
            refine r_aload_n dX5_readAutomata_57 1 rfl ?_
            refine s_getR (b := 1) ok_X5 dX5_readAutomata_58 (k := 0) (by decide) fl_X5_35 rfl rfl rfl ?_
            refine s_getI ok_X9 dX5_readAutomata_61 (k := 5) (by decide) fl_X5_59 rfl rfl ?_
            refine x_callV (Y := mX9_blame) (d' := 1) dX5_readAutomata_64 ml_X5_62 yv_X9_blame (by omega) rfl rfl (by simp [Value.category]) (sR_is rfl rfl) (c_X9_blame σ9 (5 : Int32) (vI σ9 1 5)) ?_
            refine r_st (fun σ13 eσ13 => ?_)
            replace h := bnd_at h eσ13
            refine r_if_eq (t := 74) dX5_readAutomata_67 (by decide) (fun _ => ?_) (fun hh9 => absurd (by decide) hh9)
            refine r_iconst (v := 0) dX5_readAutomata_74 (by decide) ?_
            refine r_zret rfl (by decide) dX5_readAutomata_75 ?_
            exact lfI h
      · replace h := ifp h qc7
        refine r_iconst (v := 0) dX5_readAutomata_26 (by decide) ?_
        refine r_zret rfl (by decide) dX5_readAutomata_27 ?_
        exact lfI h
set_option maxRecDepth 8000 in
def L_X5_readAutomata_97 (F : Nat)  (σ : sS) : Option (Int32 × sS) := bnd (t_blame σ (1 : Int32) (vI σ 1 5)) (fun σ4 => some ((0, σ4)))
set_option maxRecDepth 8000 in
theorem l_X5_readAutomata_97 {ad : Nat → Nat} {F : Nat} {z : (Int32 × sS)}  (σ : sS) (h : L_X5_readAutomata_97 F σ = some z) : ab_E (sR ad) mX5_readAutomata 10 97 [(0, .ref (ad 3))] [] σ (fun r9 σ9 => r9 = some (.int z.1) ∧ σ9 = z.2) := by
  unfold L_X5_readAutomata_97 at h
  refine r_aload_n dX5_readAutomata_97 0 rfl ?_
  refine s_getR (b := 1) ok_X5 dX5_readAutomata_98 (k := 0) (by decide) fl_X5_35 rfl rfl rfl ?_
  refine r_iconst (v := 1) dX5_readAutomata_101 (by decide) ?_
  refine r_aload_n dX5_readAutomata_102 0 rfl ?_
  refine s_getR (b := 1) ok_X5 dX5_readAutomata_103 (k := 0) (by decide) fl_X5_35 rfl rfl rfl ?_
  refine s_getI ok_X9 dX5_readAutomata_106 (k := 5) (by decide) fl_X5_59 rfl rfl ?_
  refine x_callV (Y := mX9_blame) (d' := 1) dX5_readAutomata_109 ml_X5_62 yv_X9_blame (by omega) rfl rfl (by simp [Value.category]) (sR_is rfl rfl) (c_X9_blame σ (1 : Int32) (vI σ 1 5)) ?_
  refine r_st (fun σ4 eσ4 => ?_)
  replace h := bnd_at h eσ4
  refine r_zret rfl (by decide) dX5_readAutomata_112 ?_
  exact lfI h
set_option maxRecDepth 8000 in
def L_X5_readAutomata (F : Nat) (σ : sS) : Option (Int32 × sS) := bnd (uI σ 3 6 0) (fun σ1 => bnd (uI σ1 3 7 0) (fun σ2 => L_X5_readAutomata_12 F (fun σ3 => L_X5_readAutomata_97 F σ3) F 0 σ2))
set_option maxRecDepth 8000 in
theorem e_X5_readAutomata {ad : Nat → Nat} {F : Nat}  {σ : sS} {z : (Int32 × sS)} (h : L_X5_readAutomata F σ = some z) : ab_E (sR ad) mX5_readAutomata 10 0 [(0, .ref (ad 3))] [] σ (fun r9 σ9 => r9 = some (.int z.1) ∧ σ9 = z.2) := by
  unfold L_X5_readAutomata at h
  refine r_aload_n dX5_readAutomata_0 0 rfl ?_
  refine r_iconst (v := 0) dX5_readAutomata_1 (by decide) ?_
  refine s_putI ok_X5 dX5_readAutomata_2 (k := 6) (by decide) fl_X5_40 rfl rfl rfl rfl rfl ?_
  refine r_st (fun σ1 eσ1 => ?_)
  replace h := bnd_at h eσ1
  refine r_aload_n dX5_readAutomata_5 0 rfl ?_
  refine r_iconst (v := 0) dX5_readAutomata_6 (by decide) ?_
  refine s_putI ok_X5 dX5_readAutomata_7 (k := 7) (by decide) fl_X5_44 rfl rfl rfl rfl rfl ?_
  refine r_st (fun σ2 eσ2 => ?_)
  replace h := bnd_at h eσ2
  refine r_iconst (v := 0) dX5_readAutomata_10 (by decide) ?_
  refine r_istore_n (lo' := [(1, .int 0), (0, .ref (ad 3))]) dX5_readAutomata_11 (by decide) rfl ?_
  refine ab_E.lo [0, 1] rfl (l_X5_readAutomata_12 (fun σ3 h => ?_) _ _ _ h)
  exact ab_E.lo [0] rfl (l_X5_readAutomata_97 _ h)
set_option maxRecDepth 8000 in
theorem lc_X5_readAutomata {ad : Nat → Nat} {F : Nat}  {σ τ : sS} {r : Int32} (h : L_X5_readAutomata F σ = some (r, τ)) : ab_X (sR ad) 10 mX5_readAutomata [.ref (ad 3)] σ (some (.int r)) τ := ab_X.of (by decide) (Nat.le_of_ble_eq_true rfl) (e_X5_readAutomata h)
set_option maxRecDepth 8000 in
def L_X5_readWord_2 (F : Nat) (x1 : Nat) (x2 : Int32) (kx : sS → Option (Int32 × sS)) : Nat → Int32 → sS → Option (Int32 × sS)
  | 0, _, _ => none
  | n + 1, x3, σ => if (vI σ 1 6) ≤ x3 then (kx σ) else (if ((t_by σ ((vI σ 1 5) + x3)) - 97) < x2 then (if (vU σ x1) < 10 then (bd (L_X7_push x1 ((t_by σ ((vI σ 1 5) + x3)) - 97) σ) (fun σ5 => L_X5_readWord_2 F x1 x2 kx n (x3 + 1) σ5)) else (bnd (t_blame σ (4 : Int32) (vI σ 1 5)) (fun σ6 => some ((0, σ6))))) else (bnd (t_blame σ (1 : Int32) (vI σ 1 5)) (fun σ7 => some ((0, σ7)))))
set_option maxRecDepth 8000 in
theorem l_X5_readWord_2 {ad : Nat → Nat} {F : Nat} {x1 : Nat} {x2 : Int32} {z : (Int32 × sS)} (h7 : la x1 = (7, 0)) {kx : sS → Option (Int32 × sS)} (hx : ∀  (σ : sS), kx σ = some z → ab_E (sR ad) mX5_readWord 4 106 [] [] σ (fun r9 σ9 => r9 = some (.int z.1) ∧ σ9 = z.2)) : ∀ (n : Nat) (x3 : Int32) (σ : sS), L_X5_readWord_2 F x1 x2 kx n x3 σ = some z → ab_E (sR ad) mX5_readWord 4 2 [(3, .int x3), (2, .int x2), (0, .ref (ad 3)), (1, .ref (ad x1))] [] σ (fun r9 σ9 => r9 = some (.int z.1) ∧ σ9 = z.2) := by
  intro n
  induction n with
  | zero =>
    intro x3 σ h
    rw [L_X5_readWord_2] at h
    cases h
  | succ n ih =>
    intro x3 σ h
    rw [L_X5_readWord_2] at h
    refine r_iload_n dX5_readWord_2 0 rfl ?_
    refine r_aload_n dX5_readWord_3 2 rfl ?_
    refine s_getR (b := 1) ok_X5 dX5_readWord_4 (k := 0) (by decide) fl_X5_35 rfl rfl rfl ?_
    refine s_getI ok_X9 dX5_readWord_7 (k := 6) (by decide) fl_X5_116 rfl rfl ?_
    refine r_icmp_ge (t := 106) dX5_readWord_10 (by decide) (fun qc1 => ?_) (fun qc1 => ?_)
    · replace h := ifp h qc1
      exact ab_E.lo [] rfl (hx _ h)
    · replace h := ifn h qc1
      refine r_aload_n dX5_readWord_13 2 rfl ?_
      refine s_getR (b := 1) ok_X5 dX5_readWord_14 (k := 0) (by decide) fl_X5_35 rfl rfl rfl ?_
      refine r_aload_n dX5_readWord_17 2 rfl ?_
      refine s_getR (b := 1) ok_X5 dX5_readWord_18 (k := 0) (by decide) fl_X5_35 rfl rfl rfl ?_
      refine s_getI ok_X9 dX5_readWord_21 (k := 5) (by decide) fl_X5_59 rfl rfl ?_
      refine r_iload_n dX5_readWord_24 0 rfl ?_
      refine r_iadd dX5_readWord_25 ?_
      refine x_callV (Y := mX9_byteAt) (d' := 2) dX5_readWord_26 ml_X5_123 yv_X9_byteAt (by omega) rfl rfl (by simp [Value.category]) (sR_is rfl rfl) (c_X9_byteAt σ ((vI σ 1 5) + x3)) ?_
      refine r_bipush (v := 97) dX5_readWord_29 (by decide) ?_
      refine r_isub dX5_readWord_31 ?_
      refine r_iload_n dX5_readWord_32 1 rfl ?_
      refine r_icmp_lt (t := 52) dX5_readWord_33 (by decide) (fun qc2 => ?_) (fun qc2 => ?_)
      · replace h := ifp h qc2
        refine r_aload_n dX5_readWord_52 3 rfl ?_
        refine s_getU dX5_readWord_53 fl_X5_156 h7 ?_
        refine r_bipush (v := 10) dX5_readWord_56 (by decide) ?_
        refine r_icmp_lt (t := 77) dX5_readWord_58 (by decide) (fun qc3 => ?_) (fun qc3 => ?_)
        · replace h := ifp h qc3
          refine r_aload_n dX5_readWord_77 3 rfl ?_
          refine r_aload_n dX5_readWord_78 2 rfl ?_
          refine s_getR (b := 1) ok_X5 dX5_readWord_79 (k := 0) (by decide) fl_X5_35 rfl rfl rfl ?_
          refine r_aload_n dX5_readWord_82 2 rfl ?_
          refine s_getR (b := 1) ok_X5 dX5_readWord_83 (k := 0) (by decide) fl_X5_35 rfl rfl rfl ?_
          refine s_getI ok_X9 dX5_readWord_86 (k := 5) (by decide) fl_X5_59 rfl rfl ?_
          refine r_iload_n dX5_readWord_89 0 rfl ?_
          refine r_iadd dX5_readWord_90 ?_
          refine x_callV (Y := mX9_byteAt) (d' := 2) dX5_readWord_91 ml_X5_123 yv_X9_byteAt (by omega) rfl rfl (by simp [Value.category]) (sR_is rfl rfl) (c_X9_byteAt σ ((vI σ 1 5) + x3)) ?_
          refine r_bipush (v := 97) dX5_readWord_94 (by decide) ?_
          refine r_isub dX5_readWord_96 ?_
          obtain ⟨σ5, qg4, h⟩ := bd_at h
          refine x_callV0 (Y := mX7_push) (d' := 3) dX5_readWord_97 ml_X5_163 yv_X7_push (by omega) rfl rfl (by simp [Value.category]) (sR_isR h7) (lc_X7_push h7 qg4) ?_
          refine r_iinc (v := x3 + 1) (lo' := [(3, .int (x3 + 1)), (2, .int x2), (0, .ref (ad 3)), (1, .ref (ad x1))]) dX5_readWord_100 0 rfl rfl (by decide) rfl ?_
          refine r_goto (t := 2) dX5_readWord_103 (by decide) ?_
          exact ab_E.lo [0, 1, 2, 3] rfl (ih _ _ h)
        · replace h := ifn h qc3
          refine r_aload_n dX5_readWord_61 2 rfl ?_
          refine s_getR (b := 1) ok_X5 dX5_readWord_62 (k := 0) (by decide) fl_X5_35 rfl rfl rfl ?_
          refine r_iconst (v := 4) dX5_readWord_65 (by decide) ?_
          refine r_aload_n dX5_readWord_66 2 rfl ?_
          refine s_getR (b := 1) ok_X5 dX5_readWord_67 (k := 0) (by decide) fl_X5_35 rfl rfl rfl ?_
          refine s_getI ok_X9 dX5_readWord_70 (k := 5) (by decide) fl_X5_59 rfl rfl ?_
          refine x_callV (Y := mX9_blame) (d' := 1) dX5_readWord_73 ml_X5_62 yv_X9_blame (by omega) rfl rfl (by simp [Value.category]) (sR_is rfl rfl) (c_X9_blame σ (4 : Int32) (vI σ 1 5)) ?_
          refine r_st (fun σ6 eσ6 => ?_)
          replace h := bnd_at h eσ6
          refine r_zret rfl (by decide) dX5_readWord_76 ?_
          exact lfI h
      · replace h := ifn h qc2
        refine r_aload_n dX5_readWord_36 2 rfl ?_
        refine s_getR (b := 1) ok_X5 dX5_readWord_37 (k := 0) (by decide) fl_X5_35 rfl rfl rfl ?_
        refine r_iconst (v := 1) dX5_readWord_40 (by decide) ?_
        refine r_aload_n dX5_readWord_41 2 rfl ?_
        refine s_getR (b := 1) ok_X5 dX5_readWord_42 (k := 0) (by decide) fl_X5_35 rfl rfl rfl ?_
        refine s_getI ok_X9 dX5_readWord_45 (k := 5) (by decide) fl_X5_59 rfl rfl ?_
        refine x_callV (Y := mX9_blame) (d' := 1) dX5_readWord_48 ml_X5_62 yv_X9_blame (by omega) rfl rfl (by simp [Value.category]) (sR_is rfl rfl) (c_X9_blame σ (1 : Int32) (vI σ 1 5)) ?_
        refine r_st (fun σ7 eσ7 => ?_)
        replace h := bnd_at h eσ7
        refine r_zret rfl (by decide) dX5_readWord_51 ?_
        exact lfI h
set_option maxRecDepth 8000 in
def L_X5_readWord (F : Nat) (x1 : Nat) (x2 : Int32) (σ : sS) : Option (Int32 × sS) := L_X5_readWord_2 F x1 x2 (fun σ1 => some ((1, σ1))) F 0 σ
set_option maxRecDepth 8000 in
theorem e_X5_readWord {ad : Nat → Nat} {F : Nat} {x1 : Nat} {x2 : Int32} {σ : sS} {z : (Int32 × sS)} (h7 : la x1 = (7, 0)) (h : L_X5_readWord F x1 x2 σ = some z) : ab_E (sR ad) mX5_readWord 4 0 [(0, .ref (ad 3)), (1, .ref (ad x1)), (2, .int x2)] [] σ (fun r9 σ9 => r9 = some (.int z.1) ∧ σ9 = z.2) := by
  unfold L_X5_readWord at h
  refine r_iconst (v := 0) dX5_readWord_0 (by decide) ?_
  refine r_istore_n (lo' := [(3, .int 0), (0, .ref (ad 3)), (1, .ref (ad x1)), (2, .int x2)]) dX5_readWord_1 (by decide) rfl ?_
  refine ab_E.lo [0, 3, 1, 2] rfl (l_X5_readWord_2 h7 (fun σ1 h => ?_) _ _ _ h)
  refine r_iconst (v := 1) dX5_readWord_106 (by decide) ?_
  refine r_zret rfl (by decide) dX5_readWord_107 ?_
  exact lfI h
set_option maxRecDepth 8000 in
theorem lc_X5_readWord {ad : Nat → Nat} {F : Nat} {x1 : Nat} {x2 : Int32} {σ τ : sS} {r : Int32} (h7 : la x1 = (7, 0)) (h : L_X5_readWord F x1 x2 σ = some (r, τ)) : ab_X (sR ad) 4 mX5_readWord [.ref (ad 3), .ref (ad x1), .int x2] σ (some (.int r)) τ := ab_X.of (by decide) (Nat.le_of_ble_eq_true rfl) (e_X5_readWord h7 h)
set_option maxRecDepth 8000 in
def L_X5_readPart_52 (F : Nat) (x1 : Nat) (x2 : Int32) (x3 : Int32) (kh : Int32 → sS → Option (Int32 × sS)) (kx : sS → Option (Int32 × sS)) (x4 : Int32) (σ : sS) : Option (Int32 × sS) := if (vI σ 1 4) = 2 then (bd2 (L_X5_readWord F x1 x3 σ) (fun rq8 σ9 => if rq8 = 0 then (some ((0, σ9))) else (kh (x4 + 1) σ9))) else (kx σ)
set_option maxRecDepth 8000 in
theorem l_X5_readPart_52 {ad : Nat → Nat} {F : Nat} {x1 : Nat} {x2 : Int32} {x3 : Int32} {z : (Int32 × sS)} (h7 : la x1 = (7, 0)) {kh : Int32 → sS → Option (Int32 × sS)} (hh : ∀ (x4 : Int32) (σ : sS), kh x4 σ = some z → ab_E (sR ad) mX5_readPart 5 9 [(4, .int x4), (2, .int x2), (3, .int x3), (0, .ref (ad 3)), (1, .ref (ad x1))] [] σ (fun r9 σ9 => r9 = some (.int z.1) ∧ σ9 = z.2)) {kx : sS → Option (Int32 × sS)} (hx : ∀  (σ : sS), kx σ = some z → ab_E (sR ad) mX5_readPart 5 83 [(0, .ref (ad 3))] [] σ (fun r9 σ9 => r9 = some (.int z.1) ∧ σ9 = z.2)) (x4 : Int32) (σ : sS) (h : L_X5_readPart_52 F x1 x2 x3 kh kx x4 σ = some z) : ab_E (sR ad) mX5_readPart 5 52 [(4, .int x4), (2, .int x2), (3, .int x3), (0, .ref (ad 3)), (1, .ref (ad x1))] [] σ (fun r9 σ9 => r9 = some (.int z.1) ∧ σ9 = z.2) := by
  unfold L_X5_readPart_52 at h
  refine r_aload_n dX5_readPart_52 3 rfl ?_
  refine s_getR (b := 1) ok_X5 dX5_readPart_53 (k := 0) (by decide) fl_X5_35 rfl rfl rfl ?_
  refine s_getI ok_X9 dX5_readPart_56 (k := 4) (by decide) fl_X5_56 rfl rfl ?_
  refine r_iconst (v := 2) dX5_readPart_59 (by decide) ?_
  refine r_icmp_eq (t := 66) dX5_readPart_60 (by decide) (fun qc6 => ?_) (fun qc6 => ?_)
  · replace h := ifp h qc6
    refine r_aload_n dX5_readPart_66 3 rfl ?_
    refine r_aload_n dX5_readPart_67 4 rfl ?_
    refine r_iload_n dX5_readPart_68 2 rfl ?_
    obtain ⟨rq8, σ9, qg7, h⟩ := bd2_at h
    refine x_callV (Y := mX5_readWord) (d' := 4) dX5_readPart_69 ml_X5_159 yv_X5_readWord (by omega) rfl rfl (by simp [Value.category]) (sR_is rfl rfl) (lc_X5_readWord h7 qg7) ?_
    refine r_if_ne (t := 77) dX5_readPart_72 (by decide) (fun qc10 => ?_) (fun qc10 => ?_)
    · replace h := ifn h qc10
      refine r_iinc (v := x4 + 1) (lo' := [(4, .int (x4 + 1)), (2, .int x2), (3, .int x3), (0, .ref (ad 3)), (1, .ref (ad x1))]) dX5_readPart_77 0 rfl rfl (by decide) rfl ?_
      refine r_goto (t := 9) dX5_readPart_80 (by decide) ?_
      exact ab_E.lo [0, 1, 2, 3, 4] rfl (hh _ _ h)
    · replace h := ifp h qc10
      refine r_iconst (v := 0) dX5_readPart_75 (by decide) ?_
      refine r_zret rfl (by decide) dX5_readPart_76 ?_
      exact lfI h
  · replace h := ifn h qc6
    refine r_goto (t := 83) dX5_readPart_63 (by decide) ?_
    exact ab_E.lo [3] rfl (hx _ h)
set_option maxRecDepth 8000 in
def L_X5_readPart_9 (F : Nat) (x1 : Nat) (x2 : Int32) (x3 : Int32) (kx : sS → Option (Int32 × sS)) : Nat → Int32 → sS → Option (Int32 × sS)
  | 0, _, _ => none
  | n + 1, x4, σ => if 400 < x4 then (kx σ) else (bd (L_X9_step σ) (fun σ4 => if (vI σ4 1 4) = x2 then (if x1 = 6 then (some ((1, σ4))) else (if (vU σ4 x1) ≤ 0 then (L_X5_readPart_52 F x1 x2 x3 (L_X5_readPart_9 F x1 x2 x3 kx n) kx x4 σ4) else (some ((1, σ4))))) else (L_X5_readPart_52 F x1 x2 x3 (L_X5_readPart_9 F x1 x2 x3 kx n) kx x4 σ4)))
set_option maxRecDepth 8000 in
theorem l_X5_readPart_9 {ad : Nat → Nat} {F : Nat} {x1 : Nat} {x2 : Int32} {x3 : Int32} {z : (Int32 × sS)} (h7 : la x1 = (7, 0)) {kx : sS → Option (Int32 × sS)} (hx : ∀  (σ : sS), kx σ = some z → ab_E (sR ad) mX5_readPart 5 83 [(0, .ref (ad 3))] [] σ (fun r9 σ9 => r9 = some (.int z.1) ∧ σ9 = z.2)) : ∀ (n : Nat) (x4 : Int32) (σ : sS), L_X5_readPart_9 F x1 x2 x3 kx n x4 σ = some z → ab_E (sR ad) mX5_readPart 5 9 [(4, .int x4), (2, .int x2), (3, .int x3), (0, .ref (ad 3)), (1, .ref (ad x1))] [] σ (fun r9 σ9 => r9 = some (.int z.1) ∧ σ9 = z.2) := by
  intro n
  induction n with
  | zero =>
    intro x4 σ h
    rw [L_X5_readPart_9] at h
    cases h
  | succ n ih =>
    intro x4 σ h
    rw [L_X5_readPart_9] at h
    refine r_iload dX5_readPart_9 0 rfl ?_
    refine r_sipush (v := 400) dX5_readPart_11 (by decide) ?_
    refine r_icmp_gt (t := 83) dX5_readPart_14 (by decide) (fun qc2 => ?_) (fun qc2 => ?_)
    · replace h := ifp h qc2
      exact ab_E.lo [3] rfl (hx _ h)
    · replace h := ifn h qc2
      refine r_aload_n dX5_readPart_17 3 rfl ?_
      refine s_getR (b := 1) ok_X5 dX5_readPart_18 (k := 0) (by decide) fl_X5_35 rfl rfl rfl ?_
      obtain ⟨σ4, qg3, h⟩ := bd_at h
      refine x_callV0 (Y := mX9_step) (d' := 3) dX5_readPart_21 ml_X5_53 yv_X9_step (by omega) rfl rfl (by simp [Value.category]) (sR_is rfl rfl) (lc_X9_step qg3) ?_
      refine r_aload_n dX5_readPart_24 3 rfl ?_
      refine s_getR (b := 1) ok_X5 dX5_readPart_25 (k := 0) (by decide) fl_X5_35 rfl rfl rfl ?_
      refine s_getI ok_X9 dX5_readPart_28 (k := 4) (by decide) fl_X5_56 rfl rfl ?_
      refine r_iload_n dX5_readPart_31 1 rfl ?_
      refine r_icmp_ne (t := 52) dX5_readPart_32 (by decide) (fun qc5 => ?_) (fun qc5 => ?_)
      · replace h := ifn h qc5
        exact ab_E.lo [0, 1, 2, 3, 4] rfl (l_X5_readPart_52 h7 ih hx _ _ h)
      · replace h := ifp h qc5
        refine r_aload_n dX5_readPart_35 4 rfl ?_
        refine r_aload_n dX5_readPart_36 3 rfl ?_
        refine s_getR (b := 6) ok_X5 dX5_readPart_37 (k := 4) (by decide) fl_X5_29 rfl rfl rfl ?_
        refine s_acmp_eq (t := 50) dX5_readPart_40 (by decide) (la_ne h7 (by decide)) (la_ne rfl (by decide)) (fun qc6 => ?_) (fun qc6 => ?_)
        · replace h := ifp h qc6
          refine r_iconst (v := 1) dX5_readPart_50 (by decide) ?_
          refine r_zret rfl (by decide) dX5_readPart_51 ?_
          exact lfI h
        · replace h := ifn h qc6
          refine r_aload_n dX5_readPart_43 4 rfl ?_
          refine s_getU dX5_readPart_44 fl_X5_156 h7 ?_
          refine r_if_le (t := 52) dX5_readPart_47 (by decide) (fun qc7 => ?_) (fun qc7 => ?_)
          · replace h := ifp h qc7
            exact ab_E.lo [0, 1, 2, 3, 4] rfl (l_X5_readPart_52 h7 ih hx _ _ h)
          · replace h := ifn h qc7
            refine r_iconst (v := 1) dX5_readPart_50 (by decide) ?_
            refine r_zret rfl (by decide) dX5_readPart_51 ?_
            exact lfI h
set_option maxRecDepth 8000 in
def L_X5_readPart_83 (F : Nat) (x1 : Nat)  (σ : sS) : Option (Int32 × sS) := bnd (t_blame σ (1 : Int32) (vI σ 1 5)) (fun σ3 => some ((0, σ3)))
set_option maxRecDepth 8000 in
theorem l_X5_readPart_83 {ad : Nat → Nat} {F : Nat} {x1 : Nat} {z : (Int32 × sS)} (h7 : la x1 = (7, 0))  (σ : sS) (h : L_X5_readPart_83 F x1 σ = some z) : ab_E (sR ad) mX5_readPart 5 83 [(0, .ref (ad 3))] [] σ (fun r9 σ9 => r9 = some (.int z.1) ∧ σ9 = z.2) := by
  unfold L_X5_readPart_83 at h
  refine r_aload_n dX5_readPart_83 0 rfl ?_
  refine s_getR (b := 1) ok_X5 dX5_readPart_84 (k := 0) (by decide) fl_X5_35 rfl rfl rfl ?_
  refine r_iconst (v := 1) dX5_readPart_87 (by decide) ?_
  refine r_aload_n dX5_readPart_88 0 rfl ?_
  refine s_getR (b := 1) ok_X5 dX5_readPart_89 (k := 0) (by decide) fl_X5_35 rfl rfl rfl ?_
  refine s_getI ok_X9 dX5_readPart_92 (k := 5) (by decide) fl_X5_59 rfl rfl ?_
  refine x_callV (Y := mX9_blame) (d' := 1) dX5_readPart_95 ml_X5_62 yv_X9_blame (by omega) rfl rfl (by simp [Value.category]) (sR_is rfl rfl) (c_X9_blame σ (1 : Int32) (vI σ 1 5)) ?_
  refine r_st (fun σ3 eσ3 => ?_)
  replace h := bnd_at h eσ3
  refine r_zret rfl (by decide) dX5_readPart_98 ?_
  exact lfI h
set_option maxRecDepth 8000 in
def L_X5_readPart (F : Nat) (x1 : Nat) (x2 : Int32) (x3 : Int32) (σ : sS) : Option (Int32 × sS) := bnd (rz σ x1 10) (fun σ1 => L_X5_readPart_9 F x1 x2 x3 (fun σ2 => L_X5_readPart_83 F x1 σ2) F 0 σ1)
set_option maxRecDepth 8000 in
theorem e_X5_readPart {ad : Nat → Nat} {F : Nat} {x1 : Nat} {x2 : Int32} {x3 : Int32} {σ : sS} {z : (Int32 × sS)} (h7 : la x1 = (7, 0)) (h : L_X5_readPart F x1 x2 x3 σ = some z) : ab_E (sR ad) mX5_readPart 5 0 [(0, .ref (ad 3)), (1, .ref (ad x1)), (2, .int x2), (3, .int x3)] [] σ (fun r9 σ9 => r9 = some (.int z.1) ∧ σ9 = z.2) := by
  unfold L_X5_readPart at h
  refine r_aload_n dX5_readPart_0 1 rfl ?_
  refine r_bipush (v := 10) dX5_readPart_1 (by decide) ?_
  refine x_callV0 (Y := mX7_wipe) (d' := 3) dX5_readPart_3 ml_X5_153 yv_X7_wipe (by omega) rfl rfl (by simp [Value.category]) (sR_isR h7) (c_wipe h7 10 (by decide)) ?_
  refine r_st (fun σ1 eσ1 => ?_)
  replace h := bnd_at h eσ1
  refine r_iconst (v := 0) dX5_readPart_6 (by decide) ?_
  refine r_istore (lo' := [(4, .int 0), (0, .ref (ad 3)), (1, .ref (ad x1)), (2, .int x2), (3, .int x3)]) dX5_readPart_7 (by decide) rfl ?_
  refine ab_E.lo [0, 3, 4, 1, 2] rfl (l_X5_readPart_9 h7 (fun σ2 h => ?_) _ _ _ h)
  exact ab_E.lo [0] rfl (l_X5_readPart_83 h7 _ h)
set_option maxRecDepth 8000 in
theorem lc_X5_readPart {ad : Nat → Nat} {F : Nat} {x1 : Nat} {x2 : Int32} {x3 : Int32} {σ τ : sS} {r : Int32} (h7 : la x1 = (7, 0)) (h : L_X5_readPart F x1 x2 x3 σ = some (r, τ)) : ab_X (sR ad) 5 mX5_readPart [.ref (ad 3), .ref (ad x1), .int x2, .int x3] σ (some (.int r)) τ := ab_X.of (by decide) (Nat.le_of_ble_eq_true rfl) (e_X5_readPart h7 h)
set_option maxRecDepth 8000 in
def L_X5_readLasso (F : Nat) (x1 : Int32) (σ : sS) : Option (Int32 × sS) := bd2 (L_X5_readPart F 6 40 x1 σ) (fun rq2 σ3 => if rq2 = 0 then (some ((0, σ3))) else (bd2 (L_X5_readPart F 7 41 x1 σ3) (fun rq6 σ7 => if rq6 = 0 then (some ((0, σ7))) else (bd (L_X9_step σ7) (fun σ10 => if (vI σ10 1 4) = 0 then (some ((1, σ10))) else (bnd (t_blame σ10 (1 : Int32) (vI σ10 1 5)) (fun σ12 => some ((0, σ12)))))))))
set_option maxRecDepth 8000 in
theorem e_X5_readLasso {ad : Nat → Nat} {F : Nat} {x1 : Int32} {σ : sS} {z : (Int32 × sS)} (h : L_X5_readLasso F x1 σ = some z) : ab_E (sR ad) mX5_readLasso 6 0 [(0, .ref (ad 3)), (1, .int x1)] [] σ (fun r9 σ9 => r9 = some (.int z.1) ∧ σ9 = z.2) := by
  unfold L_X5_readLasso at h
  refine r_aload_n dX5_readLasso_0 0 rfl ?_
  refine r_aload_n dX5_readLasso_1 0 rfl ?_
  refine s_getR (b := 6) ok_X5 dX5_readLasso_2 (k := 4) (by decide) fl_X5_29 rfl rfl rfl ?_
  refine r_bipush (v := 40) dX5_readLasso_5 (by decide) ?_
  refine r_iload_n dX5_readLasso_7 1 rfl ?_
  obtain ⟨rq2, σ3, qg1, h⟩ := bd2_at h
  refine x_callV (Y := mX5_readPart) (d' := 5) dX5_readLasso_8 ml_X5_149 yv_X5_readPart (by omega) rfl rfl (by simp [Value.category]) (sR_is rfl rfl) (lc_X5_readPart rfl qg1) ?_
  refine r_if_eq (t := 28) dX5_readLasso_11 (by decide) (fun qc4 => ?_) (fun qc4 => ?_)
  · replace h := ifp h qc4
    refine r_iconst (v := 0) dX5_readLasso_28 (by decide) ?_
    refine r_zret rfl (by decide) dX5_readLasso_29 ?_
    exact lfI h
  · replace h := ifn h qc4
    refine r_aload_n dX5_readLasso_14 0 rfl ?_
    refine r_aload_n dX5_readLasso_15 0 rfl ?_
    refine s_getR (b := 7) ok_X5 dX5_readLasso_16 (k := 5) (by decide) fl_X5_32 rfl rfl rfl ?_
    refine r_bipush (v := 41) dX5_readLasso_19 (by decide) ?_
    refine r_iload_n dX5_readLasso_21 1 rfl ?_
    obtain ⟨rq6, σ7, qg5, h⟩ := bd2_at h
    refine x_callV (Y := mX5_readPart) (d' := 5) dX5_readLasso_22 ml_X5_149 yv_X5_readPart (by omega) rfl rfl (by simp [Value.category]) (sR_is rfl rfl) (lc_X5_readPart rfl qg5) ?_
    refine r_if_ne (t := 30) dX5_readLasso_25 (by decide) (fun qc8 => ?_) (fun qc8 => ?_)
    · replace h := ifn h qc8
      refine r_aload_n dX5_readLasso_30 0 rfl ?_
      refine s_getR (b := 1) ok_X5 dX5_readLasso_31 (k := 0) (by decide) fl_X5_35 rfl rfl rfl ?_
      obtain ⟨σ10, qg9, h⟩ := bd_at h
      refine x_callV0 (Y := mX9_step) (d' := 3) dX5_readLasso_34 ml_X5_53 yv_X9_step (by omega) rfl rfl (by simp [Value.category]) (sR_is rfl rfl) (lc_X9_step qg9) ?_
      refine r_aload_n dX5_readLasso_37 0 rfl ?_
      refine s_getR (b := 1) ok_X5 dX5_readLasso_38 (k := 0) (by decide) fl_X5_35 rfl rfl rfl ?_
      refine s_getI ok_X9 dX5_readLasso_41 (k := 4) (by decide) fl_X5_56 rfl rfl ?_
      refine r_if_eq (t := 65) dX5_readLasso_44 (by decide) (fun qc11 => ?_) (fun qc11 => ?_)
      · replace h := ifp h qc11
        refine r_iconst (v := 1) dX5_readLasso_65 (by decide) ?_
        refine r_goto (t := 70) dX5_readLasso_66 (by decide) ?_
        refine r_zret rfl (by decide) dX5_readLasso_70 ?_
        exact lfI h
      · replace h := ifn h qc11
        refine r_aload_n dX5_readLasso_47 0 rfl ?_
        refine s_getR (b := 1) ok_X5 dX5_readLasso_48 (k := 0) (by decide) fl_X5_35 rfl rfl rfl ?_
        refine r_iconst (v := 1) dX5_readLasso_51 (by decide) ?_
        refine r_aload_n dX5_readLasso_52 0 rfl ?_
        refine s_getR (b := 1) ok_X5 dX5_readLasso_53 (k := 0) (by decide) fl_X5_35 rfl rfl rfl ?_
        refine s_getI ok_X9 dX5_readLasso_56 (k := 5) (by decide) fl_X5_59 rfl rfl ?_
        refine x_callV (Y := mX9_blame) (d' := 1) dX5_readLasso_59 ml_X5_62 yv_X9_blame (by omega) rfl rfl (by simp [Value.category]) (sR_is rfl rfl) (c_X9_blame σ10 (1 : Int32) (vI σ10 1 5)) ?_
        refine r_st (fun σ12 eσ12 => ?_)
        replace h := bnd_at h eσ12
        refine r_if_eq (t := 69) dX5_readLasso_62 (by decide) (fun _ => ?_) (fun hh9 => absurd (by decide) hh9)
        refine r_iconst (v := 0) dX5_readLasso_69 (by decide) ?_
        refine r_zret rfl (by decide) dX5_readLasso_70 ?_
        exact lfI h
    · replace h := ifp h qc8
      refine r_iconst (v := 0) dX5_readLasso_28 (by decide) ?_
      refine r_zret rfl (by decide) dX5_readLasso_29 ?_
      exact lfI h
set_option maxRecDepth 8000 in
theorem lc_X5_readLasso {ad : Nat → Nat} {F : Nat} {x1 : Int32} {σ τ : sS} {r : Int32} (h : L_X5_readLasso F x1 σ = some (r, τ)) : ab_X (sR ad) 6 mX5_readLasso [.ref (ad 3), .int x1] σ (some (.int r)) τ := ab_X.of (by decide) (Nat.le_of_ble_eq_true rfl) (e_X5_readLasso h)
