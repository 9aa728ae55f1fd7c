/-! the reference, lifted, 2 -/
set_option maxRecDepth 8000 in
def L_X12_needsAuto (σ : sS) : Option sS := if (vI σ 90 21) = 0 then (bd (L_X12_flaw 5 σ) (fun σ3 => some σ3)) else (if (vI σ 90 22) = 0 then (bd (L_X12_flaw 5 σ) (fun σ6 => some σ6)) else (some σ))
set_option maxRecDepth 8000 in
theorem e_X12_needsAuto {ad : Nat → Nat}  {σ : sS} {z : sS} (h : L_X12_needsAuto σ = some z) : ab_E (sR ad) mX12_needsAuto 3 0 [(0, .ref (ad 90))] [] σ (fun r9 σ9 => r9 = none ∧ σ9 = z) := by
  unfold L_X12_needsAuto at h
  refine r_aload_n dX12_needsAuto_0 0 rfl ?_
  refine s_getI ok_X12 dX12_needsAuto_1 (k := 21) (by decide) fl_X12_212 rfl rfl ?_
  refine r_if_eq (t := 14) dX12_needsAuto_4 (by decide) (fun qc1 => ?_) (fun qc1 => ?_)
  · replace h := ifp h qc1
    refine r_aload_n dX12_needsAuto_14 0 rfl ?_
    refine r_iconst (v := 5) dX12_needsAuto_15 (by decide) ?_
    obtain ⟨σ3, qg2, h⟩ := bd_at h
    refine x_callV0 (Y := mX12_flaw) (d' := 2) dX12_needsAuto_16 ml_X12_205 yv_X12_flaw (by omega) rfl rfl (by simp [Value.category]) (sR_is rfl rfl) (lc_X12_flaw qg2) ?_
    refine r_vret rfl dX12_needsAuto_19 ?_
    exact lfV h
  · replace h := ifn h qc1
    refine r_aload_n dX12_needsAuto_7 0 rfl ?_
    refine s_getI ok_X12 dX12_needsAuto_8 (k := 22) (by decide) fl_X12_215 rfl rfl ?_
    refine r_if_ne (t := 19) dX12_needsAuto_11 (by decide) (fun qc4 => ?_) (fun qc4 => ?_)
    · replace h := ifn h qc4
      refine r_vret rfl dX12_needsAuto_19 ?_
      exact lfV h
    · replace h := ifp h qc4
      refine r_aload_n dX12_needsAuto_14 0 rfl ?_
      refine r_iconst (v := 5) dX12_needsAuto_15 (by decide) ?_
      obtain ⟨σ6, qg5, h⟩ := bd_at h
      refine x_callV0 (Y := mX12_flaw) (d' := 2) dX12_needsAuto_16 ml_X12_205 yv_X12_flaw (by omega) rfl rfl (by simp [Value.category]) (sR_is rfl rfl) (lc_X12_flaw qg5) ?_
      refine r_vret rfl dX12_needsAuto_19 ?_
      exact lfV h
set_option maxRecDepth 8000 in
theorem lc_X12_needsAuto {ad : Nat → Nat}  {σ τ : sS} (h : L_X12_needsAuto σ = some τ) : ab_X (sR ad) 3 mX12_needsAuto [.ref (ad 90)] σ none τ := ab_X.of (by decide) (Nat.le_of_ble_eq_true rfl) (e_X12_needsAuto h)
set_option maxRecDepth 8000 in
def L_X12_readState (F : Nat) (σ : sS) : Option (Int32 × sS) := grd (inb (((3 : Int32) + (vI σ 90 22)) - 1) 6) (bd2 (L_X12_readWhole F 0 ((vI σ 114 (((3 : Int32) + (vI σ 90 22)) - 1).toNatClampNeg) - 1) σ) (fun rq3 σ4 => some ((rq3, σ4))))
set_option maxRecDepth 8000 in
theorem e_X12_readState {ad : Nat → Nat} {F : Nat}  {σ : sS} {z : (Int32 × sS)} (h : L_X12_readState F σ = some z) : ab_E (sR ad) mX12_readState 5 0 [(0, .ref (ad 90))] [] σ (fun r9 σ9 => r9 = some (.int z.1) ∧ σ9 = z.2) := by
  unfold L_X12_readState at h
  refine r_aload_n dX12_readState_0 0 rfl ?_
  refine r_iconst (v := 0) dX12_readState_1 (by decide) ?_
  refine r_aload_n dX12_readState_2 0 rfl ?_
  refine s_getR (b := 114) ok_X12 dX12_readState_3 (k := 14) (by decide) fl_X12_17 rfl rfl rfl ?_
  refine r_iconst (v := 3) dX12_readState_6 (by decide) ?_
  refine r_aload_n dX12_readState_7 0 rfl ?_
  refine s_getI ok_X12 dX12_readState_8 (k := 22) (by decide) fl_X12_215 rfl rfl ?_
  refine r_iadd dX12_readState_11 ?_
  refine r_iconst (v := 1) dX12_readState_12 (by decide) ?_
  refine r_isub dX12_readState_13 ?_
  obtain ⟨qg1, h⟩ := grd_at h
  refine s_iald dX12_readState_14 rfl (inb_of qg1) ?_
  refine r_iconst (v := 1) dX12_readState_15 (by decide) ?_
  refine r_isub dX12_readState_16 ?_
  obtain ⟨rq3, σ4, qg2, h⟩ := bd2_at h
  refine x_callV (Y := mX12_readWhole) (d' := 4) dX12_readState_17 ml_X12_249 yv_X12_readWhole (by omega) rfl rfl (by simp [Value.category]) (sR_is rfl rfl) (lc_X12_readWhole qg2) ?_
  refine r_iret rfl dX12_readState_20 ?_
  exact lfI h
set_option maxRecDepth 8000 in
theorem lc_X12_readState {ad : Nat → Nat} {F : Nat}  {σ τ : sS} {r : Int32} (h : L_X12_readState F σ = some (r, τ)) : ab_X (sR ad) 5 mX12_readState [.ref (ad 90)] σ (some (.int r)) τ := ab_X.of (by decide) (Nat.le_of_ble_eq_true rfl) (e_X12_readState h)
set_option maxRecDepth 8000 in
def L_X12_readEdge_139 (F : Nat) (x5 : Int32) (x6 : Int32) (σ : sS) : Option sS := grd (inb x6 96) (grd (inb x6 96) (bnd (uI σ 117 x6.toNatClampNeg ((vI σ 117 x6.toNatClampNeg) ||| ((1 : Int32) <<< (x5 &&& 31)))) (fun σ25 => some σ25)))
set_option maxRecDepth 8000 in
theorem l_X12_readEdge_139 {ad : Nat → Nat} {F : Nat} {z : sS} (x5 : Int32) (x6 : Int32) (σ : sS) (h : L_X12_readEdge_139 F x5 x6 σ = some z) : ab_E (sR ad) mX12_readEdge 6 139 [(5, .int x5), (6, .int x6), (0, .ref (ad 90))] [] σ (fun r9 σ9 => r9 = none ∧ σ9 = z) := by
  unfold L_X12_readEdge_139 at h
  refine r_aload_n dX12_readEdge_139 2 rfl ?_
  refine s_getR (b := 117) ok_X12 dX12_readEdge_140 (k := 17) (by decide) fl_X12_26 rfl rfl rfl ?_
  refine r_iload dX12_readEdge_143 1 rfl ?_
  refine r_dup2 dX12_readEdge_145 rfl rfl ?_
  obtain ⟨qg23, h⟩ := grd_at h
  refine s_iald dX12_readEdge_146 rfl (inb_of qg23) ?_
  refine r_iconst (v := 1) dX12_readEdge_147 (by decide) ?_
  refine r_iload dX12_readEdge_148 0 rfl ?_
  refine r_ishl dX12_readEdge_150 ?_
  refine r_ior dX12_readEdge_151 ?_
  obtain ⟨qg24, h⟩ := grd_at h
  refine s_iast dX12_readEdge_152 rfl (inb_of qg24) ?_
  refine r_st (fun σ25 eσ25 => ?_)
  replace h := bnd_at h eσ25
  refine r_vret rfl dX12_readEdge_153 ?_
  exact lfV h
set_option maxRecDepth 8000 in
def L_X12_readEdge_62 (F : Nat) (x1 : Int32) (x2 : Int32) (x3 : Int32) (σ : sS) : Option sS := if x3 = 0 then (bd (L_X12_goOn F σ) (fun σ15 => bd2 (L_X12_readState F σ15) (fun rq17 σ18 => if (vI σ18 90 7) ≤ 0 then (bnd ((((16 : Int32) * (((3 : Int32) + (vI σ18 90 22)) - 1)) + ((4 : Int32) * 0)) + x2) (fun yq20 => grd (inb yq20 96) (if (((vI σ18 117 yq20.toNatClampNeg) >>> (rq17 &&& 31)) &&& 1) = 1 then (bd (L_X12_flawAt 3 x1 σ18) (fun σ24 => L_X12_readEdge_139 F rq17 yq20 σ24)) else (L_X12_readEdge_139 F rq17 yq20 σ18)))) else (some σ18)))) else (bnd (((vL σ 90 13).toInt32) - 1) (fun yq25 => bd (L_X12_goOn F σ) (fun σ27 => bd2 (L_X12_readState F σ27) (fun rq29 σ30 => if (vI σ30 90 7) ≤ 0 then (bnd ((((16 : Int32) * (((3 : Int32) + (vI σ30 90 22)) - 1)) + ((4 : Int32) * yq25)) + x2) (fun yq32 => grd (inb yq32 96) (if (((vI σ30 117 yq32.toNatClampNeg) >>> (rq29 &&& 31)) &&& 1) = 1 then (bd (L_X12_flawAt 3 x1 σ30) (fun σ36 => L_X12_readEdge_139 F rq29 yq32 σ36)) else (L_X12_readEdge_139 F rq29 yq32 σ30)))) else (some σ30)))))
set_option maxRecDepth 8000 in
theorem l_X12_readEdge_62 {ad : Nat → Nat} {F : Nat} {z : sS} (x1 : Int32) (x2 : Int32) (x3 : Int32) (σ : sS) (h : L_X12_readEdge_62 F x1 x2 x3 σ = some z) : ab_E (sR ad) mX12_readEdge 6 62 [(1, .int x1), (2, .int x2), (3, .int x3), (0, .ref (ad 90))] [] σ (fun r9 σ9 => r9 = none ∧ σ9 = z) := by
  unfold L_X12_readEdge_62 at h
  refine r_iload_n dX12_readEdge_62 2 rfl ?_
  refine r_if_eq (t := 76) dX12_readEdge_63 (by decide) (fun qc13 => ?_) (fun qc13 => ?_)
  · replace h := ifp h qc13
    refine r_iconst (v := 0) dX12_readEdge_76 (by decide) ?_
    refine r_istore (lo' := [(4, .int 0), (1, .int x1), (2, .int x2), (3, .int x3), (0, .ref (ad 90))]) dX12_readEdge_77 (by decide) rfl ?_
    refine r_aload_n dX12_readEdge_79 4 rfl ?_
    obtain ⟨σ15, qg14, h⟩ := bd_at h
    refine x_callV0 (Y := mX12_goOn) (d' := 3) dX12_readEdge_80 ml_X12_209 yv_X12_goOn (by omega) rfl rfl (by simp [Value.category]) (sR_is rfl rfl) (lc_X12_goOn qg14) ?_
    refine r_aload_n dX12_readEdge_83 4 rfl ?_
    obtain ⟨rq17, σ18, qg16, h⟩ := bd2_at h
    refine x_callV (Y := mX12_readState) (d' := 5) dX12_readEdge_84 ml_X12_264 yv_X12_readState (by omega) rfl rfl (by simp [Value.category]) (sR_is rfl rfl) (lc_X12_readState qg16) ?_
    refine r_istore (lo' := [(5, .int rq17), (4, .int 0), (1, .int x1), (2, .int x2), (3, .int x3), (0, .ref (ad 90))]) dX12_readEdge_87 (by decide) rfl ?_
    refine r_aload_n dX12_readEdge_89 5 rfl ?_
    refine s_getI ok_X12 dX12_readEdge_90 (k := 7) (by decide) fl_X12_140 rfl rfl ?_
    refine r_if_le (t := 97) dX12_readEdge_93 (by decide) (fun qc19 => ?_) (fun qc19 => ?_)
    · replace h := ifp h qc19
      refine r_bipush (v := 16) dX12_readEdge_97 (by decide) ?_
      refine r_iconst (v := 3) dX12_readEdge_99 (by decide) ?_
      refine r_aload_n dX12_readEdge_100 5 rfl ?_
      refine s_getI ok_X12 dX12_readEdge_101 (k := 22) (by decide) fl_X12_215 rfl rfl ?_
      refine r_iadd dX12_readEdge_104 ?_
      refine r_iconst (v := 1) dX12_readEdge_105 (by decide) ?_
      refine r_isub dX12_readEdge_106 ?_
      refine r_imul dX12_readEdge_107 ?_
      refine r_iconst (v := 4) dX12_readEdge_108 (by decide) ?_
      refine r_iload dX12_readEdge_109 1 rfl ?_
      refine r_imul dX12_readEdge_111 ?_
      refine r_iadd dX12_readEdge_112 ?_
      refine r_iload_n dX12_readEdge_113 3 rfl ?_
      refine r_iadd dX12_readEdge_114 ?_
      refine r_topi (fun yq20 eyq20 => ?_)
      replace h := bnd_at h eyq20
      refine r_istore (lo' := [(6, .int yq20), (5, .int rq17), (4, .int 0), (1, .int x1), (2, .int x2), (3, .int x3), (0, .ref (ad 90))]) dX12_readEdge_115 (by decide) rfl ?_
      refine r_aload_n dX12_readEdge_117 6 rfl ?_
      refine s_getR (b := 117) ok_X12 dX12_readEdge_118 (k := 17) (by decide) fl_X12_26 rfl rfl rfl ?_
      refine r_iload dX12_readEdge_121 0 rfl ?_
      obtain ⟨qg21, h⟩ := grd_at h
      refine s_iald dX12_readEdge_123 rfl (inb_of qg21) ?_
      refine r_iload dX12_readEdge_124 1 rfl ?_
      refine r_ishr dX12_readEdge_126 ?_
      refine r_iconst (v := 1) dX12_readEdge_127 (by decide) ?_
      refine r_iand dX12_readEdge_128 ?_
      refine r_iconst (v := 1) dX12_readEdge_129 (by decide) ?_
      refine r_icmp_ne (t := 139) dX12_readEdge_130 (by decide) (fun qc22 => ?_) (fun qc22 => ?_)
      · replace h := ifn h qc22
        exact ab_E.lo [1, 0, 6] rfl (l_X12_readEdge_139 _ _ _ h)
      · replace h := ifp h qc22
        refine r_aload_n dX12_readEdge_133 6 rfl ?_
        refine r_iconst (v := 3) dX12_readEdge_134 (by decide) ?_
        refine r_iload_n dX12_readEdge_135 3 rfl ?_
        obtain ⟨σ24, qg23, h⟩ := bd_at h
        refine x_callV0 (Y := mX12_flawAt) (d' := 1) dX12_readEdge_136 ml_X12_149 yv_X12_flawAt (by omega) rfl rfl (by simp [Value.category]) (sR_is rfl rfl) (lc_X12_flawAt qg23) ?_
        exact ab_E.lo [1, 0, 6] rfl (l_X12_readEdge_139 _ _ _ h)
    · replace h := ifn h qc19
      refine r_vret rfl dX12_readEdge_96 ?_
      exact lfV h
  · replace h := ifn h qc13
    refine r_aload_n dX12_readEdge_66 3 rfl ?_
    refine s_getL ok_X12 dX12_readEdge_67 (k := 13) (by decide) fl_X12_170 rfl rfl ?_
    refine r_l2i dX12_readEdge_70 ?_
    refine r_iconst (v := 1) dX12_readEdge_71 (by decide) ?_
    refine r_isub dX12_readEdge_72 ?_
    refine r_goto (t := 77) dX12_readEdge_73 (by decide) ?_
    refine r_topi (fun yq25 eyq25 => ?_)
    replace h := bnd_at h eyq25
    refine r_istore (lo' := [(4, .int yq25), (1, .int x1), (2, .int x2), (3, .int x3), (0, .ref (ad 90))]) dX12_readEdge_77 (by decide) rfl ?_
    refine r_aload_n dX12_readEdge_79 4 rfl ?_
    obtain ⟨σ27, qg26, h⟩ := bd_at h
    refine x_callV0 (Y := mX12_goOn) (d' := 3) dX12_readEdge_80 ml_X12_209 yv_X12_goOn (by omega) rfl rfl (by simp [Value.category]) (sR_is rfl rfl) (lc_X12_goOn qg26) ?_
    refine r_aload_n dX12_readEdge_83 4 rfl ?_
    obtain ⟨rq29, σ30, qg28, h⟩ := bd2_at h
    refine x_callV (Y := mX12_readState) (d' := 5) dX12_readEdge_84 ml_X12_264 yv_X12_readState (by omega) rfl rfl (by simp [Value.category]) (sR_is rfl rfl) (lc_X12_readState qg28) ?_
    refine r_istore (lo' := [(5, .int rq29), (4, .int yq25), (1, .int x1), (2, .int x2), (3, .int x3), (0, .ref (ad 90))]) dX12_readEdge_87 (by decide) rfl ?_
    refine r_aload_n dX12_readEdge_89 5 rfl ?_
    refine s_getI ok_X12 dX12_readEdge_90 (k := 7) (by decide) fl_X12_140 rfl rfl ?_
    refine r_if_le (t := 97) dX12_readEdge_93 (by decide) (fun qc31 => ?_) (fun qc31 => ?_)
    · replace h := ifp h qc31
      refine r_bipush (v := 16) dX12_readEdge_97 (by decide) ?_
      refine r_iconst (v := 3) dX12_readEdge_99 (by decide) ?_
      refine r_aload_n dX12_readEdge_100 5 rfl ?_
      refine s_getI ok_X12 dX12_readEdge_101 (k := 22) (by decide) fl_X12_215 rfl rfl ?_
      refine r_iadd dX12_readEdge_104 ?_
      refine r_iconst (v := 1) dX12_readEdge_105 (by decide) ?_
      refine r_isub dX12_readEdge_106 ?_
      refine r_imul dX12_readEdge_107 ?_
      refine r_iconst (v := 4) dX12_readEdge_108 (by decide) ?_
      refine r_iload dX12_readEdge_109 1 rfl ?_
      refine r_imul dX12_readEdge_111 ?_
      refine r_iadd dX12_readEdge_112 ?_
      refine r_iload_n dX12_readEdge_113 3 rfl ?_
      refine r_iadd dX12_readEdge_114 ?_
      refine r_topi (fun yq32 eyq32 => ?_)
      replace h := bnd_at h eyq32
      refine r_istore (lo' := [(6, .int yq32), (5, .int rq29), (4, .int yq25), (1, .int x1), (2, .int x2), (3, .int x3), (0, .ref (ad 90))]) dX12_readEdge_115 (by decide) rfl ?_
      refine r_aload_n dX12_readEdge_117 6 rfl ?_
      refine s_getR (b := 117) ok_X12 dX12_readEdge_118 (k := 17) (by decide) fl_X12_26 rfl rfl rfl ?_
      refine r_iload dX12_readEdge_121 0 rfl ?_
      obtain ⟨qg33, h⟩ := grd_at h
      refine s_iald dX12_readEdge_123 rfl (inb_of qg33) ?_
      refine r_iload dX12_readEdge_124 1 rfl ?_
      refine r_ishr dX12_readEdge_126 ?_
      refine r_iconst (v := 1) dX12_readEdge_127 (by decide) ?_
      refine r_iand dX12_readEdge_128 ?_
      refine r_iconst (v := 1) dX12_readEdge_129 (by decide) ?_
      refine r_icmp_ne (t := 139) dX12_readEdge_130 (by decide) (fun qc34 => ?_) (fun qc34 => ?_)
      · replace h := ifn h qc34
        exact ab_E.lo [1, 0, 6] rfl (l_X12_readEdge_139 _ _ _ h)
      · replace h := ifp h qc34
        refine r_aload_n dX12_readEdge_133 6 rfl ?_
        refine r_iconst (v := 3) dX12_readEdge_134 (by decide) ?_
        refine r_iload_n dX12_readEdge_135 3 rfl ?_
        obtain ⟨σ36, qg35, h⟩ := bd_at h
        refine x_callV0 (Y := mX12_flawAt) (d' := 1) dX12_readEdge_136 ml_X12_149 yv_X12_flawAt (by omega) rfl rfl (by simp [Value.category]) (sR_is rfl rfl) (lc_X12_flawAt qg35) ?_
        exact ab_E.lo [1, 0, 6] rfl (l_X12_readEdge_139 _ _ _ h)
    · replace h := ifn h qc31
      refine r_vret rfl dX12_readEdge_96 ?_
      exact lfV h
set_option maxRecDepth 8000 in
def L_X12_readEdge_51 (F : Nat) (x1 : Int32) (x2 : Int32) (σ : sS) : Option sS := bd (L_X12_flaw 1 σ) (fun σ12 => L_X12_readEdge_62 F x1 x2 0 σ12)
set_option maxRecDepth 8000 in
theorem l_X12_readEdge_51 {ad : Nat → Nat} {F : Nat} {z : sS} (x1 : Int32) (x2 : Int32) (σ : sS) (h : L_X12_readEdge_51 F x1 x2 σ = some z) : ab_E (sR ad) mX12_readEdge 6 51 [(1, .int x1), (2, .int x2), (0, .ref (ad 90))] [] σ (fun r9 σ9 => r9 = none ∧ σ9 = z) := by
  unfold L_X12_readEdge_51 at h
  refine r_iconst (v := 0) dX12_readEdge_51 (by decide) ?_
  refine r_istore_n (lo' := [(3, .int 0), (1, .int x1), (2, .int x2), (0, .ref (ad 90))]) dX12_readEdge_52 (by decide) rfl ?_
  refine r_iload_n dX12_readEdge_53 0 rfl ?_
  refine r_if_ne (t := 62) dX12_readEdge_54 (by decide) (fun hh9 => absurd (by decide) hh9) (fun _ => ?_)
  refine r_aload_n dX12_readEdge_57 3 rfl ?_
  refine r_iconst (v := 1) dX12_readEdge_58 (by decide) ?_
  obtain ⟨σ12, qg11, h⟩ := bd_at h
  refine x_callV0 (Y := mX12_flaw) (d' := 2) dX12_readEdge_59 ml_X12_205 yv_X12_flaw (by omega) rfl rfl (by simp [Value.category]) (sR_is rfl rfl) (lc_X12_flaw qg11) ?_
  exact ab_E.lo [1, 2, 0, 3] rfl (l_X12_readEdge_62 _ _ _ _ h)
set_option maxRecDepth 8000 in
def L_X12_readEdge (F : Nat) (σ : sS) : Option sS := bnd (vI σ 90 10) (fun yq1 => bd (L_X12_needsAuto σ) (fun σ3 => if (vI σ3 90 7) ≤ 0 then (bd (L_X12_goOn F σ3) (fun σ6 => bd2 (L_X12_readState F σ6) (fun rq8 σ9 => if (vI σ9 90 9) = 2 then (if 0 < (lg_cmp (vL σ9 90 13) ((vI σ9 90 21).toInt64)) then (L_X12_readEdge_51 F yq1 rq8 σ9) else (L_X12_readEdge_62 F yq1 rq8 1 σ9)) else (L_X12_readEdge_51 F yq1 rq8 σ9)))) else (some σ3)))
set_option maxRecDepth 8000 in
theorem e_X12_readEdge {ad : Nat → Nat} {F : Nat}  {σ : sS} {z : sS} (h : L_X12_readEdge F σ = some z) : ab_E (sR ad) mX12_readEdge 6 0 [(0, .ref (ad 90))] [] σ (fun r9 σ9 => r9 = none ∧ σ9 = z) := by
  unfold L_X12_readEdge at h
  refine r_aload_n dX12_readEdge_0 0 rfl ?_
  refine s_getI ok_X12 dX12_readEdge_1 (k := 10) (by decide) fl_X12_146 rfl rfl ?_
  refine r_topi (fun yq1 eyq1 => ?_)
  replace h := bnd_at h eyq1
  refine r_istore_n (lo' := [(1, .int yq1), (0, .ref (ad 90))]) dX12_readEdge_4 (by decide) rfl ?_
  refine r_aload_n dX12_readEdge_5 1 rfl ?_
  obtain ⟨σ3, qg2, h⟩ := bd_at h
  refine x_callV0 (Y := mX12_needsAuto) (d' := 3) dX12_readEdge_6 ml_X12_261 yv_X12_needsAuto (by omega) rfl rfl (by simp [Value.category]) (sR_is rfl rfl) (lc_X12_needsAuto qg2) ?_
  refine r_aload_n dX12_readEdge_9 1 rfl ?_
  refine s_getI ok_X12 dX12_readEdge_10 (k := 7) (by decide) fl_X12_140 rfl rfl ?_
  refine r_if_le (t := 17) dX12_readEdge_13 (by decide) (fun qc4 => ?_) (fun qc4 => ?_)
  · replace h := ifp h qc4
    refine r_aload_n dX12_readEdge_17 1 rfl ?_
    obtain ⟨σ6, qg5, h⟩ := bd_at h
    refine x_callV0 (Y := mX12_goOn) (d' := 3) dX12_readEdge_18 ml_X12_209 yv_X12_goOn (by omega) rfl rfl (by simp [Value.category]) (sR_is rfl rfl) (lc_X12_goOn qg5) ?_
    refine r_aload_n dX12_readEdge_21 1 rfl ?_
    obtain ⟨rq8, σ9, qg7, h⟩ := bd2_at h
    refine x_callV (Y := mX12_readState) (d' := 5) dX12_readEdge_22 ml_X12_264 yv_X12_readState (by omega) rfl rfl (by simp [Value.category]) (sR_is rfl rfl) (lc_X12_readState qg7) ?_
    refine r_istore_n (lo' := [(2, .int rq8), (1, .int yq1), (0, .ref (ad 90))]) dX12_readEdge_25 (by decide) rfl ?_
    refine r_aload_n dX12_readEdge_26 2 rfl ?_
    refine s_getI ok_X12 dX12_readEdge_27 (k := 9) (by decide) fl_X12_163 rfl rfl ?_
    refine r_iconst (v := 2) dX12_readEdge_30 (by decide) ?_
    refine r_icmp_ne (t := 51) dX12_readEdge_31 (by decide) (fun qc10 => ?_) (fun qc10 => ?_)
    · replace h := ifn h qc10
      exact ab_E.lo [1, 0, 2] rfl (l_X12_readEdge_51 _ _ _ h)
    · replace h := ifp h qc10
      refine r_aload_n dX12_readEdge_34 2 rfl ?_
      refine s_getL ok_X12 dX12_readEdge_35 (k := 13) (by decide) fl_X12_170 rfl rfl ?_
      refine r_aload_n dX12_readEdge_38 2 rfl ?_
      refine s_getI ok_X12 dX12_readEdge_39 (k := 21) (by decide) fl_X12_212 rfl rfl ?_
      refine r_i2l dX12_readEdge_42 ?_
      refine r_lcmp dX12_readEdge_43 ?_
      refine r_if_gt (t := 51) dX12_readEdge_44 (by decide) (fun qc11 => ?_) (fun qc11 => ?_)
      · replace h := ifp h qc11
        exact ab_E.lo [1, 0, 2] rfl (l_X12_readEdge_51 _ _ _ h)
      · replace h := ifn h qc11
        refine r_iconst (v := 1) dX12_readEdge_47 (by decide) ?_
        refine r_goto (t := 52) dX12_readEdge_48 (by decide) ?_
        refine r_istore_n (lo' := [(3, .int 1), (2, .int rq8), (1, .int yq1), (0, .ref (ad 90))]) dX12_readEdge_52 (by decide) rfl ?_
        refine r_iload_n dX12_readEdge_53 0 rfl ?_
        refine r_if_ne (t := 62) dX12_readEdge_54 (by decide) (fun _ => ?_) (fun hh9 => absurd hh9 (by decide))
        exact ab_E.lo [2, 1, 0, 3] rfl (l_X12_readEdge_62 _ _ _ _ h)
  · replace h := ifn h qc4
    refine r_vret rfl dX12_readEdge_16 ?_
    exact lfV h
set_option maxRecDepth 8000 in
theorem lc_X12_readEdge {ad : Nat → Nat} {F : Nat}  {σ τ : sS} (h : L_X12_readEdge F σ = some τ) : ab_X (sR ad) 6 mX12_readEdge [.ref (ad 90)] σ none τ := ab_X.of (by decide) (Nat.le_of_ble_eq_true rfl) (e_X12_readEdge h)
set_option maxRecDepth 8000 in
def L_X12_readLetters_12 (F : Nat)  (σ : sS) : Option sS := bd (L_X12_goOn F σ) (fun σ3 => bd2 (L_X12_readWhole F 1 3 σ3) (fun rq5 σ6 => if (vI σ6 90 7) = 0 then (bnd (uI σ6 90 21 rq5) (fun σ8 => some σ8)) else (some σ6)))
set_option maxRecDepth 8000 in
theorem l_X12_readLetters_12 {ad : Nat → Nat} {F : Nat} {z : sS}  (σ : sS) (h : L_X12_readLetters_12 F σ = some z) : ab_E (sR ad) mX12_readLetters 5 12 [(0, .ref (ad 90))] [] σ (fun r9 σ9 => r9 = none ∧ σ9 = z) := by
  unfold L_X12_readLetters_12 at h
  refine r_aload_n dX12_readLetters_12 0 rfl ?_
  obtain ⟨σ3, qg2, h⟩ := bd_at h
  refine x_callV0 (Y := mX12_goOn) (d' := 3) dX12_readLetters_13 ml_X12_209 yv_X12_goOn (by omega) rfl rfl (by simp [Value.category]) (sR_is rfl rfl) (lc_X12_goOn qg2) ?_
  refine r_aload_n dX12_readLetters_16 0 rfl ?_
  refine r_iconst (v := 1) dX12_readLetters_17 (by decide) ?_
  refine r_iconst (v := 3) dX12_readLetters_18 (by decide) ?_
  obtain ⟨rq5, σ6, qg4, h⟩ := bd2_at h
  refine x_callV (Y := mX12_readWhole) (d' := 4) dX12_readLetters_19 ml_X12_249 yv_X12_readWhole (by omega) rfl rfl (by simp [Value.category]) (sR_is rfl rfl) (lc_X12_readWhole qg4) ?_
  refine r_istore_n (lo' := [(1, .int rq5), (0, .ref (ad 90))]) dX12_readLetters_22 (by decide) rfl ?_
  refine r_aload_n dX12_readLetters_23 1 rfl ?_
  refine s_getI ok_X12 dX12_readLetters_24 (k := 7) (by decide) fl_X12_140 rfl rfl ?_
  refine r_if_ne (t := 35) dX12_readLetters_27 (by decide) (fun qc7 => ?_) (fun qc7 => ?_)
  · replace h := ifn h qc7
    refine r_vret rfl dX12_readLetters_35 ?_
    exact lfV h
  · replace h := ifp h qc7
    refine r_aload_n dX12_readLetters_30 1 rfl ?_
    refine r_iload_n dX12_readLetters_31 0 rfl ?_
    refine s_putI ok_X12 dX12_readLetters_32 (k := 21) (by decide) fl_X12_212 rfl rfl rfl rfl rfl ?_
    refine r_st (fun σ8 eσ8 => ?_)
    replace h := bnd_at h eσ8
    refine r_vret rfl dX12_readLetters_35 ?_
    exact lfV h
set_option maxRecDepth 8000 in
def L_X12_readLetters (F : Nat) (σ : sS) : Option sS := if (vI σ 90 21) ≤ 0 then (L_X12_readLetters_12 F σ) else (bd (L_X12_flaw 3 σ) (fun σ3 => L_X12_readLetters_12 F σ3))
set_option maxRecDepth 8000 in
theorem e_X12_readLetters {ad : Nat → Nat} {F : Nat}  {σ : sS} {z : sS} (h : L_X12_readLetters F σ = some z) : ab_E (sR ad) mX12_readLetters 5 0 [(0, .ref (ad 90))] [] σ (fun r9 σ9 => r9 = none ∧ σ9 = z) := by
  unfold L_X12_readLetters at h
  refine r_aload_n dX12_readLetters_0 0 rfl ?_
  refine s_getI ok_X12 dX12_readLetters_1 (k := 21) (by decide) fl_X12_212 rfl rfl ?_
  refine r_if_le (t := 12) dX12_readLetters_4 (by decide) (fun qc1 => ?_) (fun qc1 => ?_)
  · replace h := ifp h qc1
    exact ab_E.lo [0] rfl (l_X12_readLetters_12 _ h)
  · replace h := ifn h qc1
    refine r_aload_n dX12_readLetters_7 0 rfl ?_
    refine r_iconst (v := 3) dX12_readLetters_8 (by decide) ?_
    obtain ⟨σ3, qg2, h⟩ := bd_at h
    refine x_callV0 (Y := mX12_flaw) (d' := 2) dX12_readLetters_9 ml_X12_205 yv_X12_flaw (by omega) rfl rfl (by simp [Value.category]) (sR_is rfl rfl) (lc_X12_flaw qg2) ?_
    exact ab_E.lo [0] rfl (l_X12_readLetters_12 _ h)
set_option maxRecDepth 8000 in
theorem lc_X12_readLetters {ad : Nat → Nat} {F : Nat}  {σ τ : sS} (h : L_X12_readLetters F σ = some τ) : ab_X (sR ad) 5 mX12_readLetters [.ref (ad 90)] σ none τ := ab_X.of (by decide) (Nat.le_of_ble_eq_true rfl) (e_X12_readLetters h)
set_option maxRecDepth 8000 in
def L_X12_readMark_79 (F : Nat) (x1 : Int32) (x3 : Int32) (x4 : Int32) (σ : sS) : Option sS := if x1 = 0 then (grd (inb x4 6) (grd (inb x4 6) (bnd (uI σ 116 x4.toNatClampNeg ((vI σ 116 x4.toNatClampNeg) ||| ((1 : Int32) <<< (x3 &&& 31)))) (fun σ18 => some σ18)))) else (grd (inb x4 6) (grd (inb x4 6) (bnd (uI σ 115 x4.toNatClampNeg ((vI σ 115 x4.toNatClampNeg) ||| ((1 : Int32) <<< (x3 &&& 31)))) (fun σ21 => some σ21))))
set_option maxRecDepth 8000 in
theorem l_X12_readMark_79 {ad : Nat → Nat} {F : Nat} {z : sS} (x1 : Int32) (x3 : Int32) (x4 : Int32) (σ : sS) (h : L_X12_readMark_79 F x1 x3 x4 σ = some z) : ab_E (sR ad) mX12_readMark 6 79 [(1, .int x1), (3, .int x3), (4, .int x4), (0, .ref (ad 90))] [] σ (fun r9 σ9 => r9 = none ∧ σ9 = z) := by
  unfold L_X12_readMark_79 at h
  refine r_iload_n dX12_readMark_79 0 rfl ?_
  refine r_if_eq (t := 99) dX12_readMark_80 (by decide) (fun qc15 => ?_) (fun qc15 => ?_)
  · replace h := ifp h qc15
    refine r_aload_n dX12_readMark_99 3 rfl ?_
    refine s_getR (b := 116) ok_X12 dX12_readMark_100 (k := 16) (by decide) fl_X12_23 rfl rfl rfl ?_
    refine r_iload dX12_readMark_103 2 rfl ?_
    refine r_dup2 dX12_readMark_105 rfl rfl ?_
    obtain ⟨qg16, h⟩ := grd_at h
    refine s_iald dX12_readMark_106 rfl (inb_of qg16) ?_
    refine r_iconst (v := 1) dX12_readMark_107 (by decide) ?_
    refine r_iload_n dX12_readMark_108 1 rfl ?_
    refine r_ishl dX12_readMark_109 ?_
    refine r_ior dX12_readMark_110 ?_
    obtain ⟨qg17, h⟩ := grd_at h
    refine s_iast dX12_readMark_111 rfl (inb_of qg17) ?_
    refine r_st (fun σ18 eσ18 => ?_)
    replace h := bnd_at h eσ18
    refine r_vret rfl dX12_readMark_112 ?_
    exact lfV h
  · replace h := ifn h qc15
    refine r_aload_n dX12_readMark_83 3 rfl ?_
    refine s_getR (b := 115) ok_X12 dX12_readMark_84 (k := 15) (by decide) fl_X12_20 rfl rfl rfl ?_
    refine r_iload dX12_readMark_87 2 rfl ?_
    refine r_dup2 dX12_readMark_89 rfl rfl ?_
    obtain ⟨qg19, h⟩ := grd_at h
    refine s_iald dX12_readMark_90 rfl (inb_of qg19) ?_
    refine r_iconst (v := 1) dX12_readMark_91 (by decide) ?_
    refine r_iload_n dX12_readMark_92 1 rfl ?_
    refine r_ishl dX12_readMark_93 ?_
    refine r_ior dX12_readMark_94 ?_
    obtain ⟨qg20, h⟩ := grd_at h
    refine s_iast dX12_readMark_95 rfl (inb_of qg20) ?_
    refine r_st (fun σ21 eσ21 => ?_)
    replace h := bnd_at h eσ21
    refine r_goto (t := 112) dX12_readMark_96 (by decide) ?_
    refine r_vret rfl dX12_readMark_112 ?_
    exact lfV h
set_option maxRecDepth 8000 in
def L_X12_readMark (F : Nat) (x1 : Int32) (σ : sS) : Option sS := bnd (vI σ 90 10) (fun yq1 => bd (L_X12_needsAuto σ) (fun σ3 => if (vI σ3 90 7) ≤ 0 then (bd (L_X12_goOn F σ3) (fun σ6 => bd2 (L_X12_readState F σ6) (fun rq8 σ9 => if (vI σ9 90 7) ≤ 0 then (bnd (((3 : Int32) + (vI σ9 90 22)) - 1) (fun yq11 => if x1 = 0 then (grd (inb yq11 6) (if (((vI σ9 116 yq11.toNatClampNeg) >>> (rq8 &&& 31)) &&& 1) = 1 then (bd (L_X12_flawAt 3 yq1 σ9) (fun σ16 => L_X12_readMark_79 F x1 rq8 yq11 σ16)) else (L_X12_readMark_79 F x1 rq8 yq11 σ9))) else (grd (inb yq11 6) (if (((vI σ9 115 yq11.toNatClampNeg) >>> (rq8 &&& 31)) &&& 1) = 1 then (bd (L_X12_flawAt 3 yq1 σ9) (fun σ20 => L_X12_readMark_79 F x1 rq8 yq11 σ20)) else (L_X12_readMark_79 F x1 rq8 yq11 σ9))))) else (some σ9)))) else (some σ3)))
set_option maxRecDepth 8000 in
theorem e_X12_readMark {ad : Nat → Nat} {F : Nat} {x1 : Int32} {σ : sS} {z : sS} (h : L_X12_readMark F x1 σ = some z) : ab_E (sR ad) mX12_readMark 6 0 [(0, .ref (ad 90)), (1, .int x1)] [] σ (fun r9 σ9 => r9 = none ∧ σ9 = z) := by
  unfold L_X12_readMark at h
  refine r_aload_n dX12_readMark_0 0 rfl ?_
  refine s_getI ok_X12 dX12_readMark_1 (k := 10) (by decide) fl_X12_146 rfl rfl ?_
  refine r_topi (fun yq1 eyq1 => ?_)
  replace h := bnd_at h eyq1
  refine r_istore_n (lo' := [(2, .int yq1), (0, .ref (ad 90)), (1, .int x1)]) dX12_readMark_4 (by decide) rfl ?_
  refine r_aload_n dX12_readMark_5 1 rfl ?_
  obtain ⟨σ3, qg2, h⟩ := bd_at h
  refine x_callV0 (Y := mX12_needsAuto) (d' := 3) dX12_readMark_6 ml_X12_261 yv_X12_needsAuto (by omega) rfl rfl (by simp [Value.category]) (sR_is rfl rfl) (lc_X12_needsAuto qg2) ?_
  refine r_aload_n dX12_readMark_9 1 rfl ?_
  refine s_getI ok_X12 dX12_readMark_10 (k := 7) (by decide) fl_X12_140 rfl rfl ?_
  refine r_if_le (t := 17) dX12_readMark_13 (by decide) (fun qc4 => ?_) (fun qc4 => ?_)
  · replace h := ifp h qc4
    refine r_aload_n dX12_readMark_17 1 rfl ?_
    obtain ⟨σ6, qg5, h⟩ := bd_at h
    refine x_callV0 (Y := mX12_goOn) (d' := 3) dX12_readMark_18 ml_X12_209 yv_X12_goOn (by omega) rfl rfl (by simp [Value.category]) (sR_is rfl rfl) (lc_X12_goOn qg5) ?_
    refine r_aload_n dX12_readMark_21 1 rfl ?_
    obtain ⟨rq8, σ9, qg7, h⟩ := bd2_at h
    refine x_callV (Y := mX12_readState) (d' := 5) dX12_readMark_22 ml_X12_264 yv_X12_readState (by omega) rfl rfl (by simp [Value.category]) (sR_is rfl rfl) (lc_X12_readState qg7) ?_
    refine r_istore_n (lo' := [(3, .int rq8), (2, .int yq1), (0, .ref (ad 90)), (1, .int x1)]) dX12_readMark_25 (by decide) rfl ?_
    refine r_aload_n dX12_readMark_26 2 rfl ?_
    refine s_getI ok_X12 dX12_readMark_27 (k := 7) (by decide) fl_X12_140 rfl rfl ?_
    refine r_if_le (t := 34) dX12_readMark_30 (by decide) (fun qc10 => ?_) (fun qc10 => ?_)
    · replace h := ifp h qc10
      refine r_iconst (v := 3) dX12_readMark_34 (by decide) ?_
      refine r_aload_n dX12_readMark_35 2 rfl ?_
      refine s_getI ok_X12 dX12_readMark_36 (k := 22) (by decide) fl_X12_215 rfl rfl ?_
      refine r_iadd dX12_readMark_39 ?_
      refine r_iconst (v := 1) dX12_readMark_40 (by decide) ?_
      refine r_isub dX12_readMark_41 ?_
      refine r_topi (fun yq11 eyq11 => ?_)
      replace h := bnd_at h eyq11
      refine r_istore (lo' := [(4, .int yq11), (3, .int rq8), (2, .int yq1), (0, .ref (ad 90)), (1, .int x1)]) dX12_readMark_42 (by decide) rfl ?_
      refine r_iload_n dX12_readMark_44 4 rfl ?_
      refine r_if_eq (t := 58) dX12_readMark_45 (by decide) (fun qc12 => ?_) (fun qc12 => ?_)
      · replace h := ifp h qc12
        refine r_aload_n dX12_readMark_58 3 rfl ?_
        refine s_getR (b := 116) ok_X12 dX12_readMark_59 (k := 16) (by decide) fl_X12_23 rfl rfl rfl ?_
        refine r_iload dX12_readMark_62 0 rfl ?_
        obtain ⟨qg13, h⟩ := grd_at h
        refine s_iald dX12_readMark_64 rfl (inb_of qg13) ?_
        refine r_iload_n dX12_readMark_65 1 rfl ?_
        refine r_ishr dX12_readMark_66 ?_
        refine r_iconst (v := 1) dX12_readMark_67 (by decide) ?_
        refine r_iand dX12_readMark_68 ?_
        refine r_iconst (v := 1) dX12_readMark_69 (by decide) ?_
        refine r_icmp_ne (t := 79) dX12_readMark_70 (by decide) (fun qc14 => ?_) (fun qc14 => ?_)
        · replace h := ifn h qc14
          exact ab_E.lo [4, 1, 0, 3] rfl (l_X12_readMark_79 _ _ _ _ h)
        · replace h := ifp h qc14
          refine r_aload_n dX12_readMark_73 3 rfl ?_
          refine r_iconst (v := 3) dX12_readMark_74 (by decide) ?_
          refine r_iload_n dX12_readMark_75 2 rfl ?_
          obtain ⟨σ16, qg15, h⟩ := bd_at h
          refine x_callV0 (Y := mX12_flawAt) (d' := 1) dX12_readMark_76 ml_X12_149 yv_X12_flawAt (by omega) rfl rfl (by simp [Value.category]) (sR_is rfl rfl) (lc_X12_flawAt qg15) ?_
          exact ab_E.lo [4, 1, 0, 3] rfl (l_X12_readMark_79 _ _ _ _ h)
      · replace h := ifn h qc12
        refine r_aload_n dX12_readMark_48 3 rfl ?_
        refine s_getR (b := 115) ok_X12 dX12_readMark_49 (k := 15) (by decide) fl_X12_20 rfl rfl rfl ?_
        refine r_iload dX12_readMark_52 0 rfl ?_
        obtain ⟨qg17, h⟩ := grd_at h
        refine s_iald dX12_readMark_54 rfl (inb_of qg17) ?_
        refine r_goto (t := 65) dX12_readMark_55 (by decide) ?_
        refine r_iload_n dX12_readMark_65 1 rfl ?_
        refine r_ishr dX12_readMark_66 ?_
        refine r_iconst (v := 1) dX12_readMark_67 (by decide) ?_
        refine r_iand dX12_readMark_68 ?_
        refine r_iconst (v := 1) dX12_readMark_69 (by decide) ?_
        refine r_icmp_ne (t := 79) dX12_readMark_70 (by decide) (fun qc18 => ?_) (fun qc18 => ?_)
        · replace h := ifn h qc18
          exact ab_E.lo [4, 1, 0, 3] rfl (l_X12_readMark_79 _ _ _ _ h)
        · replace h := ifp h qc18
          refine r_aload_n dX12_readMark_73 3 rfl ?_
          refine r_iconst (v := 3) dX12_readMark_74 (by decide) ?_
          refine r_iload_n dX12_readMark_75 2 rfl ?_
          obtain ⟨σ20, qg19, h⟩ := bd_at h
          refine x_callV0 (Y := mX12_flawAt) (d' := 1) dX12_readMark_76 ml_X12_149 yv_X12_flawAt (by omega) rfl rfl (by simp [Value.category]) (sR_is rfl rfl) (lc_X12_flawAt qg19) ?_
          exact ab_E.lo [4, 1, 0, 3] rfl (l_X12_readMark_79 _ _ _ _ h)
    · replace h := ifn h qc10
      refine r_vret rfl dX12_readMark_33 ?_
      exact lfV h
  · replace h := ifn h qc4
    refine r_vret rfl dX12_readMark_16 ?_
    exact lfV h
set_option maxRecDepth 8000 in
theorem lc_X12_readMark {ad : Nat → Nat} {F : Nat} {x1 : Int32} {σ τ : sS} (h : L_X12_readMark F x1 σ = some τ) : ab_X (sR ad) 6 mX12_readMark [.ref (ad 90), .int x1] σ none τ := ab_X.of (by decide) (Nat.le_of_ble_eq_true rfl) (e_X12_readMark h)
set_option maxRecDepth 8000 in
def L_X12_readLine (F : Nat) (σ : sS) : Option sS := bd (L_X12_isWord F 0 σ) (fun rq2 => if rq2 = 0 then (bd (L_X12_isWord F 1 σ) (fun rq5 => if rq5 = 0 then (bd (L_X12_isWord F 3 σ) (fun rq8 => if rq8 = 0 then (bd (L_X12_isWord F 4 σ) (fun rq11 => if rq11 = 0 then (bd (L_X12_isWord F 5 σ) (fun rq14 => if rq14 = 0 then (bd (L_X12_flaw 1 σ) (fun σ17 => some σ17)) else (bd (L_X12_readEdge F σ) (fun σ19 => some σ19)))) else (bd (L_X12_readMark F 0 σ) (fun σ21 => some σ21)))) else (bd (L_X12_readMark F 1 σ) (fun σ23 => some σ23)))) else (bd (L_X12_readAuto F σ) (fun σ25 => some σ25)))) else (bd (L_X12_readLetters F σ) (fun σ27 => some σ27)))
set_option maxRecDepth 8000 in
theorem e_X12_readLine {ad : Nat → Nat} {F : Nat}  {σ : sS} {z : sS} (h : L_X12_readLine F σ = some z) : ab_E (sR ad) mX12_readLine 9 0 [(0, .ref (ad 90))] [] σ (fun r9 σ9 => r9 = none ∧ σ9 = z) := by
  unfold L_X12_readLine at h
  refine r_aload_n dX12_readLine_0 0 rfl ?_
  refine s_ldcS dX12_readLine_1 sm_X12_227 ?_
  obtain ⟨rq2, qg1, h⟩ := bd_at h
  refine x_callV (Y := mX12_isWord) (d' := 6) dX12_readLine_3 ml_X12_201 yv_X12_isWord (by omega) rfl rfl (by simp [Value.category]) (sR_is rfl rfl) (lc_X12_isWord (by decide) qg1) ?_
  refine r_if_eq (t := 16) dX12_readLine_6 (by decide) (fun qc3 => ?_) (fun qc3 => ?_)
  · replace h := ifp h qc3
    refine r_aload_n dX12_readLine_16 0 rfl ?_
    refine s_ldcS dX12_readLine_17 sm_X12_229 ?_
    obtain ⟨rq5, qg4, h⟩ := bd_at h
    refine x_callV (Y := mX12_isWord) (d' := 6) dX12_readLine_19 ml_X12_201 yv_X12_isWord (by omega) rfl rfl (by simp [Value.category]) (sR_is rfl rfl) (lc_X12_isWord (by decide) qg4) ?_
    refine r_if_eq (t := 32) dX12_readLine_22 (by decide) (fun qc6 => ?_) (fun qc6 => ?_)
    · replace h := ifp h qc6
      refine r_aload_n dX12_readLine_32 0 rfl ?_
      refine s_ldcS dX12_readLine_33 sm_X12_232 ?_
      obtain ⟨rq8, qg7, h⟩ := bd_at h
      refine x_callV (Y := mX12_isWord) (d' := 6) dX12_readLine_35 ml_X12_201 yv_X12_isWord (by omega) rfl rfl (by simp [Value.category]) (sR_is rfl rfl) (lc_X12_isWord (by decide) qg7) ?_
      refine r_if_eq (t := 49) dX12_readLine_38 (by decide) (fun qc9 => ?_) (fun qc9 => ?_)
      · replace h := ifp h qc9
        refine r_aload_n dX12_readLine_49 0 rfl ?_
        refine s_ldcS dX12_readLine_50 sm_X12_233 ?_
        obtain ⟨rq11, qg10, h⟩ := bd_at h
        refine x_callV (Y := mX12_isWord) (d' := 6) dX12_readLine_52 ml_X12_201 yv_X12_isWord (by omega) rfl rfl (by simp [Value.category]) (sR_is rfl rfl) (lc_X12_isWord (by decide) qg10) ?_
        refine r_if_eq (t := 66) dX12_readLine_55 (by decide) (fun qc12 => ?_) (fun qc12 => ?_)
        · replace h := ifp h qc12
          refine r_aload_n dX12_readLine_66 0 rfl ?_
          refine s_ldcS dX12_readLine_67 sm_X12_235 ?_
          obtain ⟨rq14, qg13, h⟩ := bd_at h
          refine x_callV (Y := mX12_isWord) (d' := 6) dX12_readLine_69 ml_X12_201 yv_X12_isWord (by omega) rfl rfl (by simp [Value.category]) (sR_is rfl rfl) (lc_X12_isWord (by decide) qg13) ?_
          refine r_if_eq (t := 82) dX12_readLine_72 (by decide) (fun qc15 => ?_) (fun qc15 => ?_)
          · replace h := ifp h qc15
            refine r_aload_n dX12_readLine_82 0 rfl ?_
            refine r_iconst (v := 1) dX12_readLine_83 (by decide) ?_
            obtain ⟨σ17, qg16, h⟩ := bd_at h
            refine x_callV0 (Y := mX12_flaw) (d' := 2) dX12_readLine_84 ml_X12_205 yv_X12_flaw (by omega) rfl rfl (by simp [Value.category]) (sR_is rfl rfl) (lc_X12_flaw qg16) ?_
            refine r_vret rfl dX12_readLine_87 ?_
            exact lfV h
          · replace h := ifn h qc15
            refine r_aload_n dX12_readLine_75 0 rfl ?_
            obtain ⟨σ19, qg18, h⟩ := bd_at h
            refine x_callV0 (Y := mX12_readEdge) (d' := 6) dX12_readLine_76 ml_X12_246 yv_X12_readEdge (by omega) rfl rfl (by simp [Value.category]) (sR_is rfl rfl) (lc_X12_readEdge qg18) ?_
            refine r_goto (t := 87) dX12_readLine_79 (by decide) ?_
            refine r_vret rfl dX12_readLine_87 ?_
            exact lfV h
        · replace h := ifn h qc12
          refine r_aload_n dX12_readLine_58 0 rfl ?_
          refine r_iconst (v := 0) dX12_readLine_59 (by decide) ?_
          obtain ⟨σ21, qg20, h⟩ := bd_at h
          refine x_callV0 (Y := mX12_readMark) (d' := 6) dX12_readLine_60 ml_X12_242 yv_X12_readMark (by omega) rfl rfl (by simp [Value.category]) (sR_is rfl rfl) (lc_X12_readMark qg20) ?_
          refine r_goto (t := 87) dX12_readLine_63 (by decide) ?_
          refine r_vret rfl dX12_readLine_87 ?_
          exact lfV h
      · replace h := ifn h qc9
        refine r_aload_n dX12_readLine_41 0 rfl ?_
        refine r_iconst (v := 1) dX12_readLine_42 (by decide) ?_
        obtain ⟨σ23, qg22, h⟩ := bd_at h
        refine x_callV0 (Y := mX12_readMark) (d' := 6) dX12_readLine_43 ml_X12_242 yv_X12_readMark (by omega) rfl rfl (by simp [Value.category]) (sR_is rfl rfl) (lc_X12_readMark qg22) ?_
        refine r_goto (t := 87) dX12_readLine_46 (by decide) ?_
        refine r_vret rfl dX12_readLine_87 ?_
        exact lfV h
    · replace h := ifn h qc6
      refine r_aload_n dX12_readLine_25 0 rfl ?_
      obtain ⟨σ25, qg24, h⟩ := bd_at h
      refine x_callV0 (Y := mX12_readAuto) (d' := 8) dX12_readLine_26 ml_X12_239 yv_X12_readAuto (by omega) rfl rfl (by simp [Value.category]) (sR_is rfl rfl) (lc_X12_readAuto qg24) ?_
      refine r_goto (t := 87) dX12_readLine_29 (by decide) ?_
      refine r_vret rfl dX12_readLine_87 ?_
      exact lfV h
  · replace h := ifn h qc3
    refine r_aload_n dX12_readLine_9 0 rfl ?_
    obtain ⟨σ27, qg26, h⟩ := bd_at h
    refine x_callV0 (Y := mX12_readLetters) (d' := 5) dX12_readLine_10 ml_X12_237 yv_X12_readLetters (by omega) rfl rfl (by simp [Value.category]) (sR_is rfl rfl) (lc_X12_readLetters qg26) ?_
    refine r_goto (t := 87) dX12_readLine_13 (by decide) ?_
    refine r_vret rfl dX12_readLine_87 ?_
    exact lfV h
set_option maxRecDepth 8000 in
theorem lc_X12_readLine {ad : Nat → Nat} {F : Nat}  {σ τ : sS} (h : L_X12_readLine F σ = some τ) : ab_X (sR ad) 9 mX12_readLine [.ref (ad 90)] σ none τ := ab_X.of (by decide) (Nat.le_of_ble_eq_true rfl) (e_X12_readLine h)
set_option maxRecDepth 8000 in
def L_X12_readAll_12 (F : Nat) (kx : sS → Option sS) : Nat → Int32 → sS → Option sS
  | 0, _, _ => none
  | n + 1, x1, σ => if 48 ≤ x1 then (kx σ) else (grd (inb ((48 : Int32) + x1) 96) (bnd (uI σ 117 ((48 : Int32) + x1).toNatClampNeg 0) (fun σ5 => L_X12_readAll_12 F kx n (x1 + 1) σ5)))
set_option maxRecDepth 8000 in
theorem l_X12_readAll_12 {ad : Nat → Nat} {F : Nat} {z : sS} {kx : sS → Option sS} (hx : ∀  (σ : sS), kx σ = some z → ab_E (sR ad) mX12_readAll 10 34 [(0, .ref (ad 90))] [] σ (fun r9 σ9 => r9 = none ∧ σ9 = z)) : ∀ (n : Nat) (x1 : Int32) (σ : sS), L_X12_readAll_12 F kx n x1 σ = some z → ab_E (sR ad) mX12_readAll 10 12 [(1, .int x1), (0, .ref (ad 90))] [] σ (fun r9 σ9 => r9 = none ∧ σ9 = z) := by
  intro n
  induction n with
  | zero =>
    intro x1 σ h
    rw [L_X12_readAll_12] at h
    cases h
  | succ n ih =>
    intro x1 σ h
    rw [L_X12_readAll_12] at h
    refine r_iload_n dX12_readAll_12 0 rfl ?_
    refine r_bipush (v := 48) dX12_readAll_13 (by decide) ?_
    refine r_icmp_ge (t := 34) dX12_readAll_15 (by decide) (fun qc3 => ?_) (fun qc3 => ?_)
    · replace h := ifp h qc3
      exact ab_E.lo [1] rfl (hx _ h)
    · replace h := ifn h qc3
      refine r_aload_n dX12_readAll_18 1 rfl ?_
      refine s_getR (b := 117) ok_X12 dX12_readAll_19 (k := 17) (by decide) fl_X12_26 rfl rfl rfl ?_
      refine r_bipush (v := 48) dX12_readAll_22 (by decide) ?_
      refine r_iload_n dX12_readAll_24 0 rfl ?_
      refine r_iadd dX12_readAll_25 ?_
      refine r_iconst (v := 0) dX12_readAll_26 (by decide) ?_
      obtain ⟨qg4, h⟩ := grd_at h
      refine s_iast dX12_readAll_27 rfl (inb_of qg4) ?_
      refine r_st (fun σ5 eσ5 => ?_)
      replace h := bnd_at h eσ5
      refine r_iinc (v := x1 + 1) (lo' := [(1, .int (x1 + 1)), (0, .ref (ad 90))]) dX12_readAll_28 0 rfl rfl (by decide) rfl ?_
      refine r_goto (t := 12) dX12_readAll_31 (by decide) ?_
      exact ab_E.lo [0, 1] rfl (ih _ _ h)
set_option maxRecDepth 8000 in
def L_X12_readAll_38 (F : Nat) (kx : sS → Option sS) : Nat → sS → Option sS
  | 0, _ => none
  | n + 1, σ => if (L_X12_isSign 59 σ) = 0 then (kx σ) else (bd (L_X12_goOn F σ) (fun σ8 => bd (L_X12_readLine F σ8) (fun σ10 => L_X12_readAll_38 F kx n σ10)))
set_option maxRecDepth 8000 in
theorem l_X12_readAll_38 {ad : Nat → Nat} {F : Nat} {z : sS} {kx : sS → Option sS} (hx : ∀  (σ : sS), kx σ = some z → ab_E (sR ad) mX12_readAll 10 58 [(0, .ref (ad 90))] [] σ (fun r9 σ9 => r9 = none ∧ σ9 = z)) : ∀ (n : Nat)  (σ : sS), L_X12_readAll_38 F kx n σ = some z → ab_E (sR ad) mX12_readAll 10 38 [(0, .ref (ad 90))] [] σ (fun r9 σ9 => r9 = none ∧ σ9 = z) := by
  intro n
  induction n with
  | zero =>
    intro σ h
    rw [L_X12_readAll_38] at h
    cases h
  | succ n ih =>
    intro σ h
    rw [L_X12_readAll_38] at h
    refine r_aload_n dX12_readAll_38 0 rfl ?_
    refine r_bipush (v := 59) dX12_readAll_39 (by decide) ?_
    refine x_callV (Y := mX12_isSign) (d' := 1) dX12_readAll_41 ml_X12_221 yv_X12_isSign (by omega) rfl rfl (by simp [Value.category]) (sR_is rfl rfl) (lc_X12_isSign 59 σ) ?_
    refine r_if_eq (t := 58) dX12_readAll_44 (by decide) (fun qc6 => ?_) (fun qc6 => ?_)
    · replace h := ifp h qc6
      exact ab_E.lo [0] rfl (hx _ h)
    · replace h := ifn h qc6
      refine r_aload_n dX12_readAll_47 0 rfl ?_
      obtain ⟨σ8, qg7, h⟩ := bd_at h
      refine x_callV0 (Y := mX12_goOn) (d' := 3) dX12_readAll_48 ml_X12_209 yv_X12_goOn (by omega) rfl rfl (by simp [Value.category]) (sR_is rfl rfl) (lc_X12_goOn qg7) ?_
      refine r_aload_n dX12_readAll_51 0 rfl ?_
      obtain ⟨σ10, qg9, h⟩ := bd_at h
      refine x_callV0 (Y := mX12_readLine) (d' := 9) dX12_readAll_52 ml_X12_218 yv_X12_readLine (by omega) rfl rfl (by simp [Value.category]) (sR_is rfl rfl) (lc_X12_readLine qg9) ?_
      refine r_goto (t := 38) dX12_readAll_55 (by decide) ?_
      exact ab_E.lo [0] rfl (ih _ h)
set_option maxRecDepth 8000 in
def L_X12_readAll (F : Nat) (σ : sS) : Option sS := bnd (uI σ 90 21 0) (fun σ1 => bnd (uI σ1 90 22 0) (fun σ2 => L_X12_readAll_12 F (fun σ3 => bd (L_X12_readLine F σ3) (fun σ5 => L_X12_readAll_38 F (fun σ6 => bd (L_X12_needsEnd σ6) (fun σ8 => if (vI σ8 90 7) = 0 then (if (vI σ8 90 22) = 0 then (bd (L_X12_flaw 5 σ8) (fun σ12 => some σ12)) else (some σ8)) else (some σ8))) F σ5)) F 0 σ2))
set_option maxRecDepth 8000 in
theorem e_X12_readAll {ad : Nat → Nat} {F : Nat}  {σ : sS} {z : sS} (h : L_X12_readAll F σ = some z) : ab_E (sR ad) mX12_readAll 10 0 [(0, .ref (ad 90))] [] σ (fun r9 σ9 => r9 = none ∧ σ9 = z) := by
  unfold L_X12_readAll at h
  refine r_aload_n dX12_readAll_0 0 rfl ?_
  refine r_iconst (v := 0) dX12_readAll_1 (by decide) ?_
  refine s_putI ok_X12 dX12_readAll_2 (k := 21) (by decide) fl_X12_212 rfl rfl rfl rfl rfl ?_
  refine r_st (fun σ1 eσ1 => ?_)
  replace h := bnd_at h eσ1
  refine r_aload_n dX12_readAll_5 0 rfl ?_
  refine r_iconst (v := 0) dX12_readAll_6 (by decide) ?_
  refine s_putI ok_X12 dX12_readAll_7 (k := 22) (by decide) fl_X12_215 rfl rfl rfl rfl rfl ?_
  refine r_st (fun σ2 eσ2 => ?_)
  replace h := bnd_at h eσ2
  refine r_iconst (v := 0) dX12_readAll_10 (by decide) ?_
  refine r_istore_n (lo' := [(1, .int 0), (0, .ref (ad 90))]) dX12_readAll_11 (by decide) rfl ?_
  refine ab_E.lo [0, 1] rfl (l_X12_readAll_12 (fun σ3 h => ?_) _ _ _ h)
  refine r_aload_n dX12_readAll_34 0 rfl ?_
  obtain ⟨σ5, qg4, h⟩ := bd_at h
  refine x_callV0 (Y := mX12_readLine) (d' := 9) dX12_readAll_35 ml_X12_218 yv_X12_readLine (by omega) rfl rfl (by simp [Value.category]) (sR_is rfl rfl) (lc_X12_readLine qg4) ?_
  refine ab_E.lo [0] rfl (l_X12_readAll_38 (fun σ6 h => ?_) _ _ h)
  refine r_aload_n dX12_readAll_58 0 rfl ?_
  obtain ⟨σ8, qg7, h⟩ := bd_at h
  refine x_callV0 (Y := mX12_needsEnd) (d' := 3) dX12_readAll_59 ml_X12_224 yv_X12_needsEnd (by omega) rfl rfl (by simp [Value.category]) (sR_is rfl rfl) (lc_X12_needsEnd qg7) ?_
  refine r_aload_n dX12_readAll_62 0 rfl ?_
  refine s_getI ok_X12 dX12_readAll_63 (k := 7) (by decide) fl_X12_140 rfl rfl ?_
  refine r_if_ne (t := 81) dX12_readAll_66 (by decide) (fun qc9 => ?_) (fun qc9 => ?_)
  · replace h := ifn h qc9
    refine r_vret rfl dX12_readAll_81 ?_
    exact lfV h
  · replace h := ifp h qc9
    refine r_aload_n dX12_readAll_69 0 rfl ?_
    refine s_getI ok_X12 dX12_readAll_70 (k := 22) (by decide) fl_X12_215 rfl rfl ?_
    refine r_if_ne (t := 81) dX12_readAll_73 (by decide) (fun qc10 => ?_) (fun qc10 => ?_)
    · replace h := ifn h qc10
      refine r_vret rfl dX12_readAll_81 ?_
      exact lfV h
    · replace h := ifp h qc10
      refine r_aload_n dX12_readAll_76 0 rfl ?_
      refine r_iconst (v := 5) dX12_readAll_77 (by decide) ?_
      obtain ⟨σ12, qg11, h⟩ := bd_at h
      refine x_callV0 (Y := mX12_flaw) (d' := 2) dX12_readAll_78 ml_X12_205 yv_X12_flaw (by omega) rfl rfl (by simp [Value.category]) (sR_is rfl rfl) (lc_X12_flaw qg11) ?_
      refine r_vret rfl dX12_readAll_81 ?_
      exact lfV h
set_option maxRecDepth 8000 in
theorem lc_X12_readAll {ad : Nat → Nat} {F : Nat}  {σ τ : sS} (h : L_X12_readAll F σ = some τ) : ab_X (sR ad) 10 mX12_readAll [.ref (ad 90)] σ none τ := ab_X.of (by decide) (Nat.le_of_ble_eq_true rfl) (e_X12_readAll h)
