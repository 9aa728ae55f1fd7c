/-! the reference, lifted, 3 -/
set_option maxRecDepth 8000 in
def L_X12_automata_110 (F : Nat) (x2 : Int32) (kx : sS → Option (Int32 × sS)) : Nat → Int32 → sS → Option (Int32 × sS)
  | 0, _, _ => none
  | n + 1, x3, σ => if 16 ≤ x3 then (kx σ) else (grd (inb (((16 : Int32) * ((3 : Int32) + x2)) + x3) 96) (grd (inb (((16 : Int32) * x2) + x3) 96) (bnd (uI σ 117 (((16 : Int32) * x2) + x3).toNatClampNeg (vI σ 117 (((16 : Int32) * ((3 : Int32) + x2)) + x3).toNatClampNeg)) (fun σ23 => L_X12_automata_110 F x2 kx n (x3 + 1) σ23))))
set_option maxRecDepth 8000 in
theorem l_X12_automata_110 {ad : Nat → Nat} {F : Nat} {x2 : Int32} {z : (Int32 × sS)} {kx : sS → Option (Int32 × sS)} (hx : ∀  (σ : sS), kx σ = some z → ab_E (sR ad) mX12_automata 11 146 [(2, .int x2), (0, .ref (ad 90))] [] σ (fun r9 σ9 => r9 = some (.int z.1) ∧ σ9 = z.2)) : ∀ (n : Nat) (x3 : Int32) (σ : sS), L_X12_automata_110 F x2 kx n x3 σ = some z → ab_E (sR ad) mX12_automata 11 110 [(3, .int x3), (2, .int x2), (0, .ref (ad 90))] [] σ (fun r9 σ9 => r9 = some (.int z.1) ∧ σ9 = z.2) := by
  intro n
  induction n with
  | zero =>
    intro x3 σ h
    rw [L_X12_automata_110] at h
    cases h
  | succ n ih =>
    intro x3 σ h
    rw [L_X12_automata_110] at h
    refine r_iload_n dX12_automata_110 0 rfl ?_
    refine r_bipush (v := 16) dX12_automata_111 (by decide) ?_
    refine r_icmp_ge (t := 146) dX12_automata_113 (by decide) (fun qc20 => ?_) (fun qc20 => ?_)
    · replace h := ifp h qc20
      exact ab_E.lo [1, 2] rfl (hx _ h)
    · replace h := ifn h qc20
      refine r_aload_n dX12_automata_116 2 rfl ?_
      refine s_getR (b := 117) ok_X12 dX12_automata_117 (k := 17) (by decide) fl_X12_26 rfl rfl rfl ?_
      refine r_bipush (v := 16) dX12_automata_120 (by decide) ?_
      refine r_iload_n dX12_automata_122 1 rfl ?_
      refine r_imul dX12_automata_123 ?_
      refine r_iload_n dX12_automata_124 0 rfl ?_
      refine r_iadd dX12_automata_125 ?_
      refine r_aload_n dX12_automata_126 2 rfl ?_
      refine s_getR (b := 117) ok_X12 dX12_automata_127 (k := 17) (by decide) fl_X12_26 rfl rfl rfl ?_
      refine r_bipush (v := 16) dX12_automata_130 (by decide) ?_
      refine r_iconst (v := 3) dX12_automata_132 (by decide) ?_
      refine r_iload_n dX12_automata_133 1 rfl ?_
      refine r_iadd dX12_automata_134 ?_
      refine r_imul dX12_automata_135 ?_
      refine r_iload_n dX12_automata_136 0 rfl ?_
      refine r_iadd dX12_automata_137 ?_
      obtain ⟨qg21, h⟩ := grd_at h
      refine s_iald dX12_automata_138 rfl (inb_of qg21) ?_
      obtain ⟨qg22, h⟩ := grd_at h
      refine s_iast dX12_automata_139 rfl (inb_of qg22) ?_
      refine r_st (fun σ23 eσ23 => ?_)
      replace h := bnd_at h eσ23
      refine r_iinc (v := x3 + 1) (lo' := [(3, .int (x3 + 1)), (2, .int x2), (0, .ref (ad 90))]) dX12_automata_140 0 rfl rfl (by decide) rfl ?_
      refine r_goto (t := 110) dX12_automata_143 (by decide) ?_
      exact ab_E.lo [0, 1, 2] rfl (ih _ _ h)
set_option maxRecDepth 8000 in
def L_X12_automata_58 (F : Nat) (kx : sS → Option (Int32 × sS)) : Nat → Int32 → sS → Option (Int32 × sS)
  | 0, _, _ => none
  | n + 1, x2, σ => if (vI σ 90 20) ≤ x2 then (kx σ) else (grd (inb ((3 : Int32) + x2) 6) (grd (inb x2 6) (bnd (uI σ 114 x2.toNatClampNeg (vI σ 114 ((3 : Int32) + x2).toNatClampNeg)) (fun σ13 => grd (inb ((3 : Int32) + x2) 6) (grd (inb x2 6) (bnd (uI σ13 115 x2.toNatClampNeg (vI σ13 115 ((3 : Int32) + x2).toNatClampNeg)) (fun σ16 => grd (inb ((3 : Int32) + x2) 6) (grd (inb x2 6) (bnd (uI σ16 116 x2.toNatClampNeg (vI σ16 116 ((3 : Int32) + x2).toNatClampNeg)) (fun σ19 => L_X12_automata_110 F x2 (fun σ20 => L_X12_automata_58 F kx n (x2 + 1) σ20) F 0 σ19))))))))))
set_option maxRecDepth 8000 in
theorem l_X12_automata_58 {ad : Nat → Nat} {F : Nat} {z : (Int32 × sS)} {kx : sS → Option (Int32 × sS)} (hx : ∀  (σ : sS), kx σ = some z → ab_E (sR ad) mX12_automata 11 152 [(0, .ref (ad 90))] [] σ (fun r9 σ9 => r9 = some (.int z.1) ∧ σ9 = z.2)) : ∀ (n : Nat) (x2 : Int32) (σ : sS), L_X12_automata_58 F kx n x2 σ = some z → ab_E (sR ad) mX12_automata 11 58 [(2, .int x2), (0, .ref (ad 90))] [] σ (fun r9 σ9 => r9 = some (.int z.1) ∧ σ9 = z.2) := by
  intro n
  induction n with
  | zero =>
    intro x2 σ h
    rw [L_X12_automata_58] at h
    cases h
  | succ n ih =>
    intro x2 σ h
    rw [L_X12_automata_58] at h
    refine r_iload_n dX12_automata_58 0 rfl ?_
    refine r_aload_n dX12_automata_59 1 rfl ?_
    refine s_getI ok_X12 dX12_automata_60 (k := 20) (by decide) fl_X12_285 rfl rfl ?_
    refine r_icmp_ge (t := 152) dX12_automata_63 (by decide) (fun qc10 => ?_) (fun qc10 => ?_)
    · replace h := ifp h qc10
      exact ab_E.lo [1] rfl (hx _ h)
    · replace h := ifn h qc10
      refine r_aload_n dX12_automata_66 1 rfl ?_
      refine s_getR (b := 114) ok_X12 dX12_automata_67 (k := 14) (by decide) fl_X12_17 rfl rfl rfl ?_
      refine r_iload_n dX12_automata_70 0 rfl ?_
      refine r_aload_n dX12_automata_71 1 rfl ?_
      refine s_getR (b := 114) ok_X12 dX12_automata_72 (k := 14) (by decide) fl_X12_17 rfl rfl rfl ?_
      refine r_iconst (v := 3) dX12_automata_75 (by decide) ?_
      refine r_iload_n dX12_automata_76 0 rfl ?_
      refine r_iadd dX12_automata_77 ?_
      obtain ⟨qg11, h⟩ := grd_at h
      refine s_iald dX12_automata_78 rfl (inb_of qg11) ?_
      obtain ⟨qg12, h⟩ := grd_at h
      refine s_iast dX12_automata_79 rfl (inb_of qg12) ?_
      refine r_st (fun σ13 eσ13 => ?_)
      replace h := bnd_at h eσ13
      refine r_aload_n dX12_automata_80 1 rfl ?_
      refine s_getR (b := 115) ok_X12 dX12_automata_81 (k := 15) (by decide) fl_X12_20 rfl rfl rfl ?_
      refine r_iload_n dX12_automata_84 0 rfl ?_
      refine r_aload_n dX12_automata_85 1 rfl ?_
      refine s_getR (b := 115) ok_X12 dX12_automata_86 (k := 15) (by decide) fl_X12_20 rfl rfl rfl ?_
      refine r_iconst (v := 3) dX12_automata_89 (by decide) ?_
      refine r_iload_n dX12_automata_90 0 rfl ?_
      refine r_iadd dX12_automata_91 ?_
      obtain ⟨qg14, h⟩ := grd_at h
      refine s_iald dX12_automata_92 rfl (inb_of qg14) ?_
      obtain ⟨qg15, h⟩ := grd_at h
      refine s_iast dX12_automata_93 rfl (inb_of qg15) ?_
      refine r_st (fun σ16 eσ16 => ?_)
      replace h := bnd_at h eσ16
      refine r_aload_n dX12_automata_94 1 rfl ?_
      refine s_getR (b := 116) ok_X12 dX12_automata_95 (k := 16) (by decide) fl_X12_23 rfl rfl rfl ?_
      refine r_iload_n dX12_automata_98 0 rfl ?_
      refine r_aload_n dX12_automata_99 1 rfl ?_
      refine s_getR (b := 116) ok_X12 dX12_automata_100 (k := 16) (by decide) fl_X12_23 rfl rfl rfl ?_
      refine r_iconst (v := 3) dX12_automata_103 (by decide) ?_
      refine r_iload_n dX12_automata_104 0 rfl ?_
      refine r_iadd dX12_automata_105 ?_
      obtain ⟨qg17, h⟩ := grd_at h
      refine s_iald dX12_automata_106 rfl (inb_of qg17) ?_
      obtain ⟨qg18, h⟩ := grd_at h
      refine s_iast dX12_automata_107 rfl (inb_of qg18) ?_
      refine r_st (fun σ19 eσ19 => ?_)
      replace h := bnd_at h eσ19
      refine r_iconst (v := 0) dX12_automata_108 (by decide) ?_
      refine r_istore_n (lo' := [(3, .int 0), (2, .int x2), (0, .ref (ad 90))]) dX12_automata_109 (by decide) rfl ?_
      refine ab_E.lo [0, 1, 2] rfl (l_X12_automata_110 (fun σ20 h => ?_) _ _ _ h)
      refine r_iinc (v := x2 + 1) (lo' := [(2, .int (x2 + 1)), (0, .ref (ad 90))]) dX12_automata_146 0 rfl rfl (by decide) rfl ?_
      refine r_goto (t := 58) dX12_automata_149 (by decide) ?_
      exact ab_E.lo [0, 1] rfl (ih _ _ h)
set_option maxRecDepth 8000 in
def L_X12_automata (F : Nat) (x1 : Int32) (σ : sS) : Option (Int32 × sS) := bnd (uI σ 90 0 0) (fun σ1 => if (L_X12_isLong x1 σ1) = 0 then (bd (L_X12_begins F x1 σ1) (fun σ4 => bd (L_X12_readAll F σ4) (fun σ6 => if (vI σ6 90 7) ≤ 0 then (bnd (uI σ6 90 19 (vI σ6 90 21)) (fun σ8 => bnd (uI σ8 90 20 (vI σ8 90 22)) (fun σ9 => L_X12_automata_58 F (fun σ10 => bnd (uI σ10 90 32 ((-1))) (fun σ11 => bd2 (L_X12_good (vI σ11 90 20) σ11) (fun rq13 σ14 => some ((rq13, σ14))))) F 0 σ9))) else (bd2 (L_X12_faulty σ6) (fun rq16 σ17 => some ((rq16, σ17))))))) else (bd2 (L_X12_refused 2 σ1) (fun rq19 σ20 => some ((rq19, σ20)))))
set_option maxRecDepth 8000 in
theorem e_X12_automata {ad : Nat → Nat} {F : Nat} {x1 : Int32} {σ : sS} {z : (Int32 × sS)} (h : L_X12_automata F x1 σ = some z) : ab_E (sR ad) mX12_automata 11 0 [(0, .ref (ad 90)), (1, .int x1)] [] σ (fun r9 σ9 => r9 = some (.int z.1) ∧ σ9 = z.2) := by
  unfold L_X12_automata at h
  refine r_aload_n dX12_automata_0 0 rfl ?_
  refine r_iconst (v := 0) dX12_automata_1 (by decide) ?_
  refine s_putI ok_X12 dX12_automata_2 (k := 0) (by decide) fl_X12_131 rfl rfl rfl rfl rfl ?_
  refine r_st (fun σ1 eσ1 => ?_)
  replace h := bnd_at h eσ1
  refine r_aload_n dX12_automata_5 0 rfl ?_
  refine r_iload_n dX12_automata_6 1 rfl ?_
  refine x_callV (Y := mX12_isLong) (d' := 2) dX12_automata_7 ml_X12_267 yv_X12_isLong (by omega) rfl rfl (by simp [Value.category]) (sR_is rfl rfl) (lc_X12_isLong x1 σ1) ?_
  refine r_if_eq (t := 19) dX12_automata_10 (by decide) (fun qc2 => ?_) (fun qc2 => ?_)
  · replace h := ifp h qc2
    refine r_aload_n dX12_automata_19 0 rfl ?_
    refine r_iload_n dX12_automata_20 1 rfl ?_
    obtain ⟨σ4, qg3, h⟩ := bd_at h
    refine x_callV0 (Y := mX12_begins) (d' := 4) dX12_automata_21 ml_X12_274 yv_X12_begins (by omega) rfl rfl (by simp [Value.category]) (sR_is rfl rfl) (lc_X12_begins qg3) ?_
    refine r_aload_n dX12_automata_24 0 rfl ?_
    obtain ⟨σ6, qg5, h⟩ := bd_at h
    refine x_callV0 (Y := mX12_readAll) (d' := 10) dX12_automata_25 ml_X12_277 yv_X12_readAll (by omega) rfl rfl (by simp [Value.category]) (sR_is rfl rfl) (lc_X12_readAll qg5) ?_
    refine r_aload_n dX12_automata_28 0 rfl ?_
    refine s_getI ok_X12 dX12_automata_29 (k := 7) (by decide) fl_X12_140 rfl rfl ?_
    refine r_if_le (t := 40) dX12_automata_32 (by decide) (fun qc7 => ?_) (fun qc7 => ?_)
    · replace h := ifp h qc7
      refine r_aload_n dX12_automata_40 0 rfl ?_
      refine r_aload_n dX12_automata_41 0 rfl ?_
      refine s_getI ok_X12 dX12_automata_42 (k := 21) (by decide) fl_X12_212 rfl rfl ?_
      refine s_putI ok_X12 dX12_automata_45 (k := 19) (by decide) fl_X12_283 rfl rfl rfl rfl rfl ?_
      refine r_st (fun σ8 eσ8 => ?_)
      replace h := bnd_at h eσ8
      refine r_aload_n dX12_automata_48 0 rfl ?_
      refine r_aload_n dX12_automata_49 0 rfl ?_
      refine s_getI ok_X12 dX12_automata_50 (k := 22) (by decide) fl_X12_215 rfl rfl ?_
      refine s_putI ok_X12 dX12_automata_53 (k := 20) (by decide) fl_X12_285 rfl rfl rfl rfl rfl ?_
      refine r_st (fun σ9 eσ9 => ?_)
      replace h := bnd_at h eσ9
      refine r_iconst (v := 0) dX12_automata_56 (by decide) ?_
      refine r_istore_n (lo' := [(2, .int 0), (0, .ref (ad 90)), (1, .int x1)]) dX12_automata_57 (by decide) rfl ?_
      refine ab_E.lo [0, 1] rfl (l_X12_automata_58 (fun σ10 h => ?_) _ _ _ h)
      refine r_aload_n dX12_automata_152 0 rfl ?_
      refine r_iconst (v := (-1)) dX12_automata_153 (by decide) ?_
      refine s_putI ok_X12 dX12_automata_154 (k := 32) (by decide) fl_X12_61 rfl rfl rfl rfl rfl ?_
      refine r_st (fun σ11 eσ11 => ?_)
      replace h := bnd_at h eσ11
      refine r_aload_n dX12_automata_157 0 rfl ?_
      refine r_aload_n dX12_automata_158 0 rfl ?_
      refine s_getI ok_X12 dX12_automata_159 (k := 20) (by decide) fl_X12_285 rfl rfl ?_
      obtain ⟨rq13, σ14, qg12, h⟩ := bd2_at h
      refine x_callV (Y := mX12_good) (d' := 1) dX12_automata_162 ml_X12_288 yv_X12_good (by omega) rfl rfl (by simp [Value.category]) (sR_is rfl rfl) (lc_X12_good qg12) ?_
      refine r_iret rfl dX12_automata_165 ?_
      exact lfI h
    · replace h := ifn h qc7
      refine r_aload_n dX12_automata_35 0 rfl ?_
      obtain ⟨rq16, σ17, qg15, h⟩ := bd2_at h
      refine x_callV (Y := mX12_faulty) (d' := 1) dX12_automata_36 ml_X12_280 yv_X12_faulty (by omega) rfl rfl (by simp [Value.category]) (sR_is rfl rfl) (lc_X12_faulty qg15) ?_
      refine r_iret rfl dX12_automata_39 ?_
      exact lfI h
  · replace h := ifn h qc2
    refine r_aload_n dX12_automata_13 0 rfl ?_
    refine r_iconst (v := 2) dX12_automata_14 (by decide) ?_
    obtain ⟨rq19, σ20, qg18, h⟩ := bd2_at h
    refine x_callV (Y := mX12_refused) (d' := 1) dX12_automata_15 ml_X12_270 yv_X12_refused (by omega) rfl rfl (by simp [Value.category]) (sR_is rfl rfl) (lc_X12_refused qg18) ?_
    refine r_iret rfl dX12_automata_18 ?_
    exact lfI h
set_option maxRecDepth 8000 in
theorem lc_X12_automata {ad : Nat → Nat} {F : Nat} {x1 : Int32} {σ τ : sS} {r : Int32} (h : L_X12_automata F x1 σ = some (r, τ)) : ab_X (sR ad) 11 mX12_automata [.ref (ad 90), .int x1] σ (some (.int r)) τ := ab_X.of (by decide) (Nat.le_of_ble_eq_true rfl) (e_X12_automata h)
set_option maxRecDepth 8000 in
def L_X12_isAuto (x1 : Int32) (σ : sS) : Option Int32 := grd (is01 (L_X12_in x1 0 ((vI σ 90 20) - 1))) (some (L_X12_in x1 0 ((vI σ 90 20) - 1)))
set_option maxRecDepth 8000 in
theorem e_X12_isAuto {ad : Nat → Nat} {x1 : Int32} {σ : sS} {z : Int32} (h : L_X12_isAuto x1 σ = some z) : ab_E (sR ad) mX12_isAuto 2 0 [(0, .ref (ad 90)), (1, .int x1)] [] σ (fun r9 σ9 => r9 = some (.int z) ∧ σ9 = σ) := by
  unfold L_X12_isAuto at h
  refine r_iload_n dX12_isAuto_0 1 rfl ?_
  refine r_iconst (v := 0) dX12_isAuto_1 (by decide) ?_
  refine r_aload_n dX12_isAuto_2 0 rfl ?_
  refine s_getI ok_X12 dX12_isAuto_3 (k := 20) (by decide) fl_X12_285 rfl rfl ?_
  refine r_iconst (v := 1) dX12_isAuto_6 (by decide) ?_
  refine r_isub dX12_isAuto_7 ?_
  refine x_callS (Y := mX12_in) (d' := 1) dX12_isAuto_8 ml_X12_156 ys_X12_in (by omega) rfl rfl (by simp [Value.category]) (lc_X12_in x1 0 ((vI σ 90 20) - 1) σ) ?_
  obtain ⟨qg1, h⟩ := grd_at h
  refine r_zret rfl (nar01 qg1) dX12_isAuto_11 ?_
  exact lfP h
set_option maxRecDepth 8000 in
theorem lc_X12_isAuto {ad : Nat → Nat} {x1 : Int32} {σ : sS} {r : Int32} (h : L_X12_isAuto x1 σ = some r) : ab_X (sR ad) 2 mX12_isAuto [.ref (ad 90), .int x1] σ (some (.int r)) σ := ab_X.of (by decide) (Nat.le_of_ble_eq_true rfl) (e_X12_isAuto h)
set_option maxRecDepth 8000 in
def L_X12_isState (x1 : Int32) (x2 : Int32) (σ : sS) : Option Int32 := bd (L_X12_isAuto x1 σ) (fun rq2 => if rq2 = 0 then (some ((0 : Int32))) else (grd (inb x1 6) (if (L_X12_in x2 0 ((vI σ 114 x1.toNatClampNeg) - 1)) = 0 then (some ((0 : Int32))) else (some ((1 : Int32))))))
set_option maxRecDepth 8000 in
theorem e_X12_isState {ad : Nat → Nat} {x1 : Int32} {x2 : Int32} {σ : sS} {z : Int32} (h : L_X12_isState x1 x2 σ = some z) : ab_E (sR ad) mX12_isState 3 0 [(0, .ref (ad 90)), (1, .int x1), (2, .int x2)] [] σ (fun r9 σ9 => r9 = some (.int z) ∧ σ9 = σ) := by
  unfold L_X12_isState at h
  refine r_aload_n dX12_isState_0 0 rfl ?_
  refine r_iload_n dX12_isState_1 1 rfl ?_
  obtain ⟨rq2, qg1, h⟩ := bd_at h
  refine x_callV (Y := mX12_isAuto) (d' := 2) dX12_isState_2 ml_X12_291 yv_X12_isAuto (by omega) rfl rfl (by simp [Value.category]) (sR_is rfl rfl) (lc_X12_isAuto qg1) ?_
  refine r_if_eq (t := 28) dX12_isState_5 (by decide) (fun qc3 => ?_) (fun qc3 => ?_)
  · replace h := ifp h qc3
    refine r_iconst (v := 0) dX12_isState_28 (by decide) ?_
    refine r_zret rfl (by decide) dX12_isState_29 ?_
    exact lfP h
  · replace h := ifn h qc3
    refine r_iload_n dX12_isState_8 2 rfl ?_
    refine r_iconst (v := 0) dX12_isState_9 (by decide) ?_
    refine r_aload_n dX12_isState_10 0 rfl ?_
    refine s_getR (b := 114) ok_X12 dX12_isState_11 (k := 14) (by decide) fl_X12_17 rfl rfl rfl ?_
    refine r_iload_n dX12_isState_14 1 rfl ?_
    obtain ⟨qg4, h⟩ := grd_at h
    refine s_iald dX12_isState_15 rfl (inb_of qg4) ?_
    refine r_iconst (v := 1) dX12_isState_16 (by decide) ?_
    refine r_isub dX12_isState_17 ?_
    refine x_callS (Y := mX12_in) (d' := 1) dX12_isState_18 ml_X12_156 ys_X12_in (by omega) rfl rfl (by simp [Value.category]) (lc_X12_in x2 0 ((vI σ 114 x1.toNatClampNeg) - 1) σ) ?_
    refine r_if_eq (t := 28) dX12_isState_21 (by decide) (fun qc5 => ?_) (fun qc5 => ?_)
    · replace h := ifp h qc5
      refine r_iconst (v := 0) dX12_isState_28 (by decide) ?_
      refine r_zret rfl (by decide) dX12_isState_29 ?_
      exact lfP h
    · replace h := ifn h qc5
      refine r_iconst (v := 1) dX12_isState_24 (by decide) ?_
      refine r_goto (t := 29) dX12_isState_25 (by decide) ?_
      refine r_zret rfl (by decide) dX12_isState_29 ?_
      exact lfP h
set_option maxRecDepth 8000 in
theorem lc_X12_isState {ad : Nat → Nat} {x1 : Int32} {x2 : Int32} {σ : sS} {r : Int32} (h : L_X12_isState x1 x2 σ = some r) : ab_X (sR ad) 3 mX12_isState [.ref (ad 90), .int x1, .int x2] σ (some (.int r)) σ := ab_X.of (by decide) (Nat.le_of_ble_eq_true rfl) (e_X12_isState h)
set_option maxRecDepth 8000 in
def L_X12_isLetter (x1 : Int32) (σ : sS) : Option Int32 := grd (is01 (L_X12_in x1 0 ((vI σ 90 19) - 1))) (some (L_X12_in x1 0 ((vI σ 90 19) - 1)))
set_option maxRecDepth 8000 in
theorem e_X12_isLetter {ad : Nat → Nat} {x1 : Int32} {σ : sS} {z : Int32} (h : L_X12_isLetter x1 σ = some z) : ab_E (sR ad) mX12_isLetter 2 0 [(0, .ref (ad 90)), (1, .int x1)] [] σ (fun r9 σ9 => r9 = some (.int z) ∧ σ9 = σ) := by
  unfold L_X12_isLetter at h
  refine r_iload_n dX12_isLetter_0 1 rfl ?_
  refine r_iconst (v := 0) dX12_isLetter_1 (by decide) ?_
  refine r_aload_n dX12_isLetter_2 0 rfl ?_
  refine s_getI ok_X12 dX12_isLetter_3 (k := 19) (by decide) fl_X12_283 rfl rfl ?_
  refine r_iconst (v := 1) dX12_isLetter_6 (by decide) ?_
  refine r_isub dX12_isLetter_7 ?_
  refine x_callS (Y := mX12_in) (d' := 1) dX12_isLetter_8 ml_X12_156 ys_X12_in (by omega) rfl rfl (by simp [Value.category]) (lc_X12_in x1 0 ((vI σ 90 19) - 1) σ) ?_
  obtain ⟨qg1, h⟩ := grd_at h
  refine r_zret rfl (nar01 qg1) dX12_isLetter_11 ?_
  exact lfP h
set_option maxRecDepth 8000 in
theorem lc_X12_isLetter {ad : Nat → Nat} {x1 : Int32} {σ : sS} {r : Int32} (h : L_X12_isLetter x1 σ = some r) : ab_X (sR ad) 2 mX12_isLetter [.ref (ad 90), .int x1] σ (some (.int r)) σ := ab_X.of (by decide) (Nat.le_of_ble_eq_true rfl) (e_X12_isLetter h)
set_option maxRecDepth 8000 in
def L_X12_isSet (x1 : Int32) (x2 : Int32) (σ : sS) : Option Int32 := grd (inb x1 6) (grd (is01 (L_X12_in x2 0 (((1 : Int32) <<< ((vI σ 114 x1.toNatClampNeg) &&& 31)) - 1))) (some (L_X12_in x2 0 (((1 : Int32) <<< ((vI σ 114 x1.toNatClampNeg) &&& 31)) - 1))))
set_option maxRecDepth 8000 in
theorem e_X12_isSet {ad : Nat → Nat} {x1 : Int32} {x2 : Int32} {σ : sS} {z : Int32} (h : L_X12_isSet x1 x2 σ = some z) : ab_E (sR ad) mX12_isSet 2 0 [(0, .ref (ad 90)), (1, .int x1), (2, .int x2)] [] σ (fun r9 σ9 => r9 = some (.int z) ∧ σ9 = σ) := by
  unfold L_X12_isSet at h
  refine r_iload_n dX12_isSet_0 2 rfl ?_
  refine r_iconst (v := 0) dX12_isSet_1 (by decide) ?_
  refine r_iconst (v := 1) dX12_isSet_2 (by decide) ?_
  refine r_aload_n dX12_isSet_3 0 rfl ?_
  refine s_getR (b := 114) ok_X12 dX12_isSet_4 (k := 14) (by decide) fl_X12_17 rfl rfl rfl ?_
  refine r_iload_n dX12_isSet_7 1 rfl ?_
  obtain ⟨qg1, h⟩ := grd_at h
  refine s_iald dX12_isSet_8 rfl (inb_of qg1) ?_
  refine r_ishl dX12_isSet_9 ?_
  refine r_iconst (v := 1) dX12_isSet_10 (by decide) ?_
  refine r_isub dX12_isSet_11 ?_
  refine x_callS (Y := mX12_in) (d' := 1) dX12_isSet_12 ml_X12_156 ys_X12_in (by omega) rfl rfl (by simp [Value.category]) (lc_X12_in x2 0 (((1 : Int32) <<< ((vI σ 114 x1.toNatClampNeg) &&& 31)) - 1) σ) ?_
  obtain ⟨qg2, h⟩ := grd_at h
  refine r_zret rfl (nar01 qg2) dX12_isSet_15 ?_
  exact lfP h
set_option maxRecDepth 8000 in
theorem lc_X12_isSet {ad : Nat → Nat} {x1 : Int32} {x2 : Int32} {σ : sS} {r : Int32} (h : L_X12_isSet x1 x2 σ = some r) : ab_X (sR ad) 2 mX12_isSet [.ref (ad 90), .int x1, .int x2] σ (some (.int r)) σ := ab_X.of (by decide) (Nat.le_of_ble_eq_true rfl) (e_X12_isSet h)
set_option maxRecDepth 8000 in
def L_X12_edgeMany_4 (F : Nat) (x1 : Int32) (σ : sS) (kx : Int32 → Option Int32) : Nat → Int32 → Int32 → Option Int32
  | 0, _, _ => none
  | n + 1, x2, x3 => if 16 ≤ x3 then (kx x2) else (grd (inb (((16 : Int32) * x1) + x3) 96) (bnd (x2 + (bc (vI σ 117 (((16 : Int32) * x1) + x3).toNatClampNeg))) (fun yq3 => L_X12_edgeMany_4 F x1 σ kx n yq3 (x3 + 1))))
set_option maxRecDepth 8000 in
theorem l_X12_edgeMany_4 {ad : Nat → Nat} {F : Nat} {x1 : Int32} {σ : sS} {z : Int32} {kx : Int32 → Option Int32} (hx : ∀ (x2 : Int32), kx x2 = some z → ab_E (sR ad) mX12_edgeMany 2 33 [(2, .int x2)] [] σ (fun r9 σ9 => r9 = some (.int z) ∧ σ9 = σ)) : ∀ (n : Nat) (x2 : Int32) (x3 : Int32), L_X12_edgeMany_4 F x1 σ kx n x2 x3 = some z → ab_E (sR ad) mX12_edgeMany 2 4 [(2, .int x2), (3, .int x3), (1, .int x1), (0, .ref (ad 90))] [] σ (fun r9 σ9 => r9 = some (.int z) ∧ σ9 = σ) := by
  intro n
  induction n with
  | zero =>
    intro x2 x3 h
    rw [L_X12_edgeMany_4] at h
    cases h
  | succ n ih =>
    intro x2 x3 h
    rw [L_X12_edgeMany_4] at h
    refine r_iload_n dX12_edgeMany_4 1 rfl ?_
    refine r_bipush (v := 16) dX12_edgeMany_5 (by decide) ?_
    refine r_icmp_ge (t := 33) dX12_edgeMany_7 (by decide) (fun qc1 => ?_) (fun qc1 => ?_)
    · replace h := ifp h qc1
      exact ab_E.lo [0] rfl (hx _ h)
    · replace h := ifn h qc1
      refine r_iload_n dX12_edgeMany_10 0 rfl ?_
      refine r_aload_n dX12_edgeMany_11 3 rfl ?_
      refine s_getR (b := 117) ok_X12 dX12_edgeMany_12 (k := 17) (by decide) fl_X12_26 rfl rfl rfl ?_
      refine r_bipush (v := 16) dX12_edgeMany_15 (by decide) ?_
      refine r_iload_n dX12_edgeMany_17 2 rfl ?_
      refine r_imul dX12_edgeMany_18 ?_
      refine r_iload_n dX12_edgeMany_19 1 rfl ?_
      refine r_iadd dX12_edgeMany_20 ?_
      obtain ⟨qg2, h⟩ := grd_at h
      refine s_iald dX12_edgeMany_21 rfl (inb_of qg2) ?_
      refine x_callS (Y := mJ6_bitCount_0f7a4) (d' := 1) dX12_edgeMany_22 ml_X12_297 ys_J6_bitCount_0f7a4 (by omega) rfl rfl (by simp [Value.category]) (c_J6_bitCount_0f7a4 σ (vI σ 117 (((16 : Int32) * x1) + x3).toNatClampNeg)) ?_
      refine r_iadd dX12_edgeMany_25 ?_
      refine r_topi (fun yq3 eyq3 => ?_)
      replace h := bnd_at h eyq3
      refine r_istore_n (lo' := [(2, .int yq3), (3, .int x3), (1, .int x1), (0, .ref (ad 90))]) dX12_edgeMany_26 (by decide) rfl ?_
      refine r_iinc (v := x3 + 1) (lo' := [(3, .int (x3 + 1)), (2, .int yq3), (1, .int x1), (0, .ref (ad 90))]) dX12_edgeMany_27 1 rfl rfl (by decide) rfl ?_
      refine r_goto (t := 4) dX12_edgeMany_30 (by decide) ?_
      exact ab_E.lo [1, 0, 2, 3] rfl (ih _ _ h)
set_option maxRecDepth 8000 in
def L_X12_edgeMany (F : Nat) (x1 : Int32) (σ : sS) : Option Int32 := L_X12_edgeMany_4 F x1 σ (fun yq1 => some yq1) F 0 0
set_option maxRecDepth 8000 in
theorem e_X12_edgeMany {ad : Nat → Nat} {F : Nat} {x1 : Int32} {σ : sS} {z : Int32} (h : L_X12_edgeMany F x1 σ = some z) : ab_E (sR ad) mX12_edgeMany 2 0 [(0, .ref (ad 90)), (1, .int x1)] [] σ (fun r9 σ9 => r9 = some (.int z) ∧ σ9 = σ) := by
  unfold L_X12_edgeMany at h
  refine r_iconst (v := 0) dX12_edgeMany_0 (by decide) ?_
  refine r_istore_n (lo' := [(2, .int 0), (0, .ref (ad 90)), (1, .int x1)]) dX12_edgeMany_1 (by decide) rfl ?_
  refine r_iconst (v := 0) dX12_edgeMany_2 (by decide) ?_
  refine r_istore_n (lo' := [(3, .int 0), (2, .int 0), (0, .ref (ad 90)), (1, .int x1)]) dX12_edgeMany_3 (by decide) rfl ?_
  refine ab_E.lo [1, 0, 3, 2] rfl (l_X12_edgeMany_4 (fun yq1 h => ?_) _ _ _ h)
  refine r_iload_n dX12_edgeMany_33 0 rfl ?_
  refine r_iret rfl dX12_edgeMany_34 ?_
  exact lfP h
set_option maxRecDepth 8000 in
theorem lc_X12_edgeMany {ad : Nat → Nat} {F : Nat} {x1 : Int32} {σ : sS} {r : Int32} (h : L_X12_edgeMany F x1 σ = some r) : ab_X (sR ad) 2 mX12_edgeMany [.ref (ad 90), .int x1] σ (some (.int r)) σ := ab_X.of (by decide) (Nat.le_of_ble_eq_true rfl) (e_X12_edgeMany h)
set_option maxRecDepth 8000 in
def L_X12_automaton (F : Nat) (x1 : Int32) (x2 : Int32) (σ : sS) : Option (Int32 × sS) := bnd (uI σ 90 0 0) (fun σ1 => bd (L_X12_isAuto x1 σ1) (fun rq3 => if rq3 = 0 then (bd2 (L_X12_refused 1 σ1) (fun rq30 σ31 => some ((rq30, σ31)))) else (if x2 = 0 then (grd (inb x1 6) (bd2 (L_X12_good (vI σ1 114 x1.toNatClampNeg) σ1) (fun rq8 σ9 => some ((rq8, σ9))))) else (if x2 = 1 then (grd (inb x1 6) (bd2 (L_X12_good (vI σ1 115 x1.toNatClampNeg) σ1) (fun rq12 σ13 => some ((rq12, σ13))))) else (if x2 = 2 then (grd (inb x1 6) (bd2 (L_X12_good (vI σ1 116 x1.toNatClampNeg) σ1) (fun rq16 σ17 => some ((rq16, σ17))))) else (if x2 = 3 then (bd (L_X12_edgeMany F x1 σ1) (fun rq19 => bd2 (L_X12_good rq19 σ1) (fun rq21 σ22 => some ((rq21, σ22))))) else (if x2 = 4 then (bd2 (L_X12_good (vI σ1 90 19) σ1) (fun rq24 σ25 => some ((rq24, σ25)))) else (bd2 (L_X12_refused 1 σ1) (fun rq27 σ28 => some ((rq27, σ28)))))))))))
set_option maxRecDepth 8000 in
theorem e_X12_automaton {ad : Nat → Nat} {F : Nat} {x1 : Int32} {x2 : Int32} {σ : sS} {z : (Int32 × sS)} (h : L_X12_automaton F x1 x2 σ = some z) : ab_E (sR ad) mX12_automaton 3 0 [(0, .ref (ad 90)), (1, .int x1), (2, .int x2)] [] σ (fun r9 σ9 => r9 = some (.int z.1) ∧ σ9 = z.2) := by
  unfold L_X12_automaton at h
  refine r_aload_n dX12_automaton_0 0 rfl ?_
  refine r_iconst (v := 0) dX12_automaton_1 (by decide) ?_
  refine s_putI ok_X12 dX12_automaton_2 (k := 0) (by decide) fl_X12_131 rfl rfl rfl rfl rfl ?_
  refine r_st (fun σ1 eσ1 => ?_)
  replace h := bnd_at h eσ1
  refine r_aload_n dX12_automaton_5 0 rfl ?_
  refine r_iload_n dX12_automaton_6 1 rfl ?_
  obtain ⟨rq3, qg2, h⟩ := bd_at h
  refine x_callV (Y := mX12_isAuto) (d' := 2) dX12_automaton_7 ml_X12_291 yv_X12_isAuto (by omega) rfl rfl (by simp [Value.category]) (sR_is rfl rfl) (lc_X12_isAuto qg2) ?_
  refine r_if_ne (t := 19) dX12_automaton_10 (by decide) (fun qc4 => ?_) (fun qc4 => ?_)
  · replace h := ifn h qc4
    refine r_iload_n dX12_automaton_19 2 rfl ?_
    by_cases qw5_0 : x2 = 0
    · replace h := ifp h qw5_0
      refine r_tableIn (t := 56) (off := 36) dX12_automaton_20 (by rw [qw5_0]; decide) (by rw [qw5_0]; decide) (by rw [qw5_0]; rfl) (by decide) ?_
      refine r_aload_n dX12_automaton_56 0 rfl ?_
      refine r_aload_n dX12_automaton_57 0 rfl ?_
      refine s_getR (b := 114) ok_X12 dX12_automaton_58 (k := 14) (by decide) fl_X12_17 rfl rfl rfl ?_
      refine r_iload_n dX12_automaton_61 1 rfl ?_
      obtain ⟨qg6, h⟩ := grd_at h
      refine s_iald dX12_automaton_62 rfl (inb_of qg6) ?_
      obtain ⟨rq8, σ9, qg7, h⟩ := bd2_at h
      refine x_callV (Y := mX12_good) (d' := 1) dX12_automaton_63 ml_X12_288 yv_X12_good (by omega) rfl rfl (by simp [Value.category]) (sR_is rfl rfl) (lc_X12_good qg7) ?_
      refine r_iret rfl dX12_automaton_66 ?_
      exact lfI h
    replace h := ifn h qw5_0
    by_cases qw5_1 : x2 = 1
    · replace h := ifp h qw5_1
      refine r_tableIn (t := 67) (off := 47) dX12_automaton_20 (by rw [qw5_1]; decide) (by rw [qw5_1]; decide) (by rw [qw5_1]; rfl) (by decide) ?_
      refine r_aload_n dX12_automaton_67 0 rfl ?_
      refine r_aload_n dX12_automaton_68 0 rfl ?_
      refine s_getR (b := 115) ok_X12 dX12_automaton_69 (k := 15) (by decide) fl_X12_20 rfl rfl rfl ?_
      refine r_iload_n dX12_automaton_72 1 rfl ?_
      obtain ⟨qg10, h⟩ := grd_at h
      refine s_iald dX12_automaton_73 rfl (inb_of qg10) ?_
      obtain ⟨rq12, σ13, qg11, h⟩ := bd2_at h
      refine x_callV (Y := mX12_good) (d' := 1) dX12_automaton_74 ml_X12_288 yv_X12_good (by omega) rfl rfl (by simp [Value.category]) (sR_is rfl rfl) (lc_X12_good qg11) ?_
      refine r_iret rfl dX12_automaton_77 ?_
      exact lfI h
    replace h := ifn h qw5_1
    by_cases qw5_2 : x2 = 2
    · replace h := ifp h qw5_2
      refine r_tableIn (t := 78) (off := 58) dX12_automaton_20 (by rw [qw5_2]; decide) (by rw [qw5_2]; decide) (by rw [qw5_2]; rfl) (by decide) ?_
      refine r_aload_n dX12_automaton_78 0 rfl ?_
      refine r_aload_n dX12_automaton_79 0 rfl ?_
      refine s_getR (b := 116) ok_X12 dX12_automaton_80 (k := 16) (by decide) fl_X12_23 rfl rfl rfl ?_
      refine r_iload_n dX12_automaton_83 1 rfl ?_
      obtain ⟨qg14, h⟩ := grd_at h
      refine s_iald dX12_automaton_84 rfl (inb_of qg14) ?_
      obtain ⟨rq16, σ17, qg15, h⟩ := bd2_at h
      refine x_callV (Y := mX12_good) (d' := 1) dX12_automaton_85 ml_X12_288 yv_X12_good (by omega) rfl rfl (by simp [Value.category]) (sR_is rfl rfl) (lc_X12_good qg15) ?_
      refine r_iret rfl dX12_automaton_88 ?_
      exact lfI h
    replace h := ifn h qw5_2
    by_cases qw5_3 : x2 = 3
    · replace h := ifp h qw5_3
      refine r_tableIn (t := 89) (off := 69) dX12_automaton_20 (by rw [qw5_3]; decide) (by rw [qw5_3]; decide) (by rw [qw5_3]; rfl) (by decide) ?_
      refine r_aload_n dX12_automaton_89 0 rfl ?_
      refine r_aload_n dX12_automaton_90 0 rfl ?_
      refine r_iload_n dX12_automaton_91 1 rfl ?_
      obtain ⟨rq19, qg18, h⟩ := bd_at h
      refine x_callV (Y := mX12_edgeMany) (d' := 2) dX12_automaton_92 ml_X12_294 yv_X12_edgeMany (by omega) rfl rfl (by simp [Value.category]) (sR_is rfl rfl) (lc_X12_edgeMany qg18) ?_
      obtain ⟨rq21, σ22, qg20, h⟩ := bd2_at h
      refine x_callV (Y := mX12_good) (d' := 1) dX12_automaton_95 ml_X12_288 yv_X12_good (by omega) rfl rfl (by simp [Value.category]) (sR_is rfl rfl) (lc_X12_good qg20) ?_
      refine r_iret rfl dX12_automaton_98 ?_
      exact lfI h
    replace h := ifn h qw5_3
    by_cases qw5_4 : x2 = 4
    · replace h := ifp h qw5_4
      refine r_tableIn (t := 99) (off := 79) dX12_automaton_20 (by rw [qw5_4]; decide) (by rw [qw5_4]; decide) (by rw [qw5_4]; rfl) (by decide) ?_
      refine r_aload_n dX12_automaton_99 0 rfl ?_
      refine r_aload_n dX12_automaton_100 0 rfl ?_
      refine s_getI ok_X12 dX12_automaton_101 (k := 19) (by decide) fl_X12_283 rfl rfl ?_
      obtain ⟨rq24, σ25, qg23, h⟩ := bd2_at h
      refine x_callV (Y := mX12_good) (d' := 1) dX12_automaton_104 ml_X12_288 yv_X12_good (by omega) rfl rfl (by simp [Value.category]) (sR_is rfl rfl) (lc_X12_good qg23) ?_
      refine r_iret rfl dX12_automaton_107 ?_
      exact lfI h
    replace h := ifn h qw5_4
    refine r_tableOut (t := 108) dX12_automaton_20 (tb_o5 qw5_0 qw5_1 qw5_2 qw5_3 qw5_4) (by decide) ?_
    refine r_aload_n dX12_automaton_108 0 rfl ?_
    refine r_iconst (v := 1) dX12_automaton_109 (by decide) ?_
    obtain ⟨rq27, σ28, qg26, h⟩ := bd2_at h
    refine x_callV (Y := mX12_refused) (d' := 1) dX12_automaton_110 ml_X12_270 yv_X12_refused (by omega) rfl rfl (by simp [Value.category]) (sR_is rfl rfl) (lc_X12_refused qg26) ?_
    refine r_iret rfl dX12_automaton_113 ?_
    exact lfI h
  · replace h := ifp h qc4
    refine r_aload_n dX12_automaton_13 0 rfl ?_
    refine r_iconst (v := 1) dX12_automaton_14 (by decide) ?_
    obtain ⟨rq30, σ31, qg29, h⟩ := bd2_at h
    refine x_callV (Y := mX12_refused) (d' := 1) dX12_automaton_15 ml_X12_270 yv_X12_refused (by omega) rfl rfl (by simp [Value.category]) (sR_is rfl rfl) (lc_X12_refused qg29) ?_
    refine r_iret rfl dX12_automaton_18 ?_
    exact lfI h
set_option maxRecDepth 8000 in
theorem lc_X12_automaton {ad : Nat → Nat} {F : Nat} {x1 : Int32} {x2 : Int32} {σ τ : sS} {r : Int32} (h : L_X12_automaton F x1 x2 σ = some (r, τ)) : ab_X (sR ad) 3 mX12_automaton [.ref (ad 90), .int x1, .int x2] σ (some (.int r)) τ := ab_X.of (by decide) (Nat.le_of_ble_eq_true rfl) (e_X12_automaton h)
set_option maxRecDepth 8000 in
def L_X12_edgesOf (x1 : Int32) (x2 : Int32) (x3 : Int32) (σ : sS) : Option Int32 := grd (inb ((((16 : Int32) * x1) + ((4 : Int32) * x2)) + x3) 96) (some (vI σ 117 ((((16 : Int32) * x1) + ((4 : Int32) * x2)) + x3).toNatClampNeg))
set_option maxRecDepth 8000 in
theorem e_X12_edgesOf {ad : Nat → Nat} {x1 : Int32} {x2 : Int32} {x3 : Int32} {σ : sS} {z : Int32} (h : L_X12_edgesOf x1 x2 x3 σ = some z) : ab_E (sR ad) mX12_edgesOf 1 0 [(0, .ref (ad 90)), (1, .int x1), (2, .int x2), (3, .int x3)] [] σ (fun r9 σ9 => r9 = some (.int z) ∧ σ9 = σ) := by
  unfold L_X12_edgesOf at h
  refine r_aload_n dX12_edgesOf_0 0 rfl ?_
  refine s_getR (b := 117) ok_X12 dX12_edgesOf_1 (k := 17) (by decide) fl_X12_26 rfl rfl rfl ?_
  refine r_bipush (v := 16) dX12_edgesOf_4 (by decide) ?_
  refine r_iload_n dX12_edgesOf_6 1 rfl ?_
  refine r_imul dX12_edgesOf_7 ?_
  refine r_iconst (v := 4) dX12_edgesOf_8 (by decide) ?_
  refine r_iload_n dX12_edgesOf_9 2 rfl ?_
  refine r_imul dX12_edgesOf_10 ?_
  refine r_iadd dX12_edgesOf_11 ?_
  refine r_iload_n dX12_edgesOf_12 3 rfl ?_
  refine r_iadd dX12_edgesOf_13 ?_
  obtain ⟨qg1, h⟩ := grd_at h
  refine s_iald dX12_edgesOf_14 rfl (inb_of qg1) ?_
  refine r_iret rfl dX12_edgesOf_15 ?_
  exact lfP h
set_option maxRecDepth 8000 in
theorem lc_X12_edgesOf {ad : Nat → Nat} {x1 : Int32} {x2 : Int32} {x3 : Int32} {σ : sS} {r : Int32} (h : L_X12_edgesOf x1 x2 x3 σ = some r) : ab_X (sR ad) 1 mX12_edgesOf [.ref (ad 90), .int x1, .int x2, .int x3] σ (some (.int r)) σ := ab_X.of (by decide) (Nat.le_of_ble_eq_true rfl) (e_X12_edgesOf h)
set_option maxRecDepth 8000 in
def L_X12_edge (x1 : Int32) (x2 : Int32) (x3 : Int32) (x4 : Int32) (σ : sS) : Option (Int32 × sS) := bnd (uI σ 90 0 0) (fun σ1 => bd (L_X12_isState x1 x2 σ1) (fun rq3 => if rq3 = 0 then (bd2 (L_X12_refused 1 σ1) (fun rq6 σ7 => some ((rq6, σ7)))) else (bd (L_X12_isLetter x3 σ1) (fun rq9 => if rq9 = 0 then (bd2 (L_X12_refused 1 σ1) (fun rq12 σ13 => some ((rq12, σ13)))) else (bd (L_X12_isState x1 x4 σ1) (fun rq15 => if rq15 = 0 then (bd2 (L_X12_refused 1 σ1) (fun rq23 σ24 => some ((rq23, σ24)))) else (bd (L_X12_edgesOf x1 x3 x2 σ1) (fun rq18 => bd2 (L_X12_good ((rq18 >>> (x4 &&& 31)) &&& 1) σ1) (fun rq20 σ21 => some ((rq20, σ21)))))))))))
set_option maxRecDepth 8000 in
theorem e_X12_edge {ad : Nat → Nat} {x1 : Int32} {x2 : Int32} {x3 : Int32} {x4 : Int32} {σ : sS} {z : (Int32 × sS)} (h : L_X12_edge x1 x2 x3 x4 σ = some z) : ab_E (sR ad) mX12_edge 4 0 [(0, .ref (ad 90)), (1, .int x1), (2, .int x2), (3, .int x3), (4, .int x4)] [] σ (fun r9 σ9 => r9 = some (.int z.1) ∧ σ9 = z.2) := by
  unfold L_X12_edge at h
  refine r_aload_n dX12_edge_0 0 rfl ?_
  refine r_iconst (v := 0) dX12_edge_1 (by decide) ?_
  refine s_putI ok_X12 dX12_edge_2 (k := 0) (by decide) fl_X12_131 rfl rfl rfl rfl rfl ?_
  refine r_st (fun σ1 eσ1 => ?_)
  replace h := bnd_at h eσ1
  refine r_aload_n dX12_edge_5 0 rfl ?_
  refine r_iload_n dX12_edge_6 1 rfl ?_
  refine r_iload_n dX12_edge_7 2 rfl ?_
  obtain ⟨rq3, qg2, h⟩ := bd_at h
  refine x_callV (Y := mX12_isState) (d' := 3) dX12_edge_8 ml_X12_302 yv_X12_isState (by omega) rfl rfl (by simp [Value.category]) (sR_is rfl rfl) (lc_X12_isState qg2) ?_
  refine r_if_eq (t := 32) dX12_edge_11 (by decide) (fun qc4 => ?_) (fun qc4 => ?_)
  · replace h := ifp h qc4
    refine r_aload_n dX12_edge_32 0 rfl ?_
    refine r_iconst (v := 1) dX12_edge_33 (by decide) ?_
    obtain ⟨rq6, σ7, qg5, h⟩ := bd2_at h
    refine x_callV (Y := mX12_refused) (d' := 1) dX12_edge_34 ml_X12_270 yv_X12_refused (by omega) rfl rfl (by simp [Value.category]) (sR_is rfl rfl) (lc_X12_refused qg5) ?_
    refine r_iret rfl dX12_edge_37 ?_
    exact lfI h
  · replace h := ifn h qc4
    refine r_aload_n dX12_edge_14 0 rfl ?_
    refine r_iload_n dX12_edge_15 3 rfl ?_
    obtain ⟨rq9, qg8, h⟩ := bd_at h
    refine x_callV (Y := mX12_isLetter) (d' := 2) dX12_edge_16 ml_X12_306 yv_X12_isLetter (by omega) rfl rfl (by simp [Value.category]) (sR_is rfl rfl) (lc_X12_isLetter qg8) ?_
    refine r_if_eq (t := 32) dX12_edge_19 (by decide) (fun qc10 => ?_) (fun qc10 => ?_)
    · replace h := ifp h qc10
      refine r_aload_n dX12_edge_32 0 rfl ?_
      refine r_iconst (v := 1) dX12_edge_33 (by decide) ?_
      obtain ⟨rq12, σ13, qg11, h⟩ := bd2_at h
      refine x_callV (Y := mX12_refused) (d' := 1) dX12_edge_34 ml_X12_270 yv_X12_refused (by omega) rfl rfl (by simp [Value.category]) (sR_is rfl rfl) (lc_X12_refused qg11) ?_
      refine r_iret rfl dX12_edge_37 ?_
      exact lfI h
    · replace h := ifn h qc10
      refine r_aload_n dX12_edge_22 0 rfl ?_
      refine r_iload_n dX12_edge_23 1 rfl ?_
      refine r_iload dX12_edge_24 4 rfl ?_
      obtain ⟨rq15, qg14, h⟩ := bd_at h
      refine x_callV (Y := mX12_isState) (d' := 3) dX12_edge_26 ml_X12_302 yv_X12_isState (by omega) rfl rfl (by simp [Value.category]) (sR_is rfl rfl) (lc_X12_isState qg14) ?_
      refine r_if_ne (t := 38) dX12_edge_29 (by decide) (fun qc16 => ?_) (fun qc16 => ?_)
      · replace h := ifn h qc16
        refine r_aload_n dX12_edge_38 0 rfl ?_
        refine r_aload_n dX12_edge_39 0 rfl ?_
        refine r_iload_n dX12_edge_40 1 rfl ?_
        refine r_iload_n dX12_edge_41 3 rfl ?_
        refine r_iload_n dX12_edge_42 2 rfl ?_
        obtain ⟨rq18, qg17, h⟩ := bd_at h
        refine x_callV (Y := mX12_edgesOf) (d' := 1) dX12_edge_43 ml_X12_309 yv_X12_edgesOf (by omega) rfl rfl (by simp [Value.category]) (sR_is rfl rfl) (lc_X12_edgesOf qg17) ?_
        refine r_iload dX12_edge_46 4 rfl ?_
        refine r_ishr dX12_edge_48 ?_
        refine r_iconst (v := 1) dX12_edge_49 (by decide) ?_
        refine r_iand dX12_edge_50 ?_
        obtain ⟨rq20, σ21, qg19, h⟩ := bd2_at h
        refine x_callV (Y := mX12_good) (d' := 1) dX12_edge_51 ml_X12_288 yv_X12_good (by omega) rfl rfl (by simp [Value.category]) (sR_is rfl rfl) (lc_X12_good qg19) ?_
        refine r_iret rfl dX12_edge_54 ?_
        exact lfI h
      · replace h := ifp h qc16
        refine r_aload_n dX12_edge_32 0 rfl ?_
        refine r_iconst (v := 1) dX12_edge_33 (by decide) ?_
        obtain ⟨rq23, σ24, qg22, h⟩ := bd2_at h
        refine x_callV (Y := mX12_refused) (d' := 1) dX12_edge_34 ml_X12_270 yv_X12_refused (by omega) rfl rfl (by simp [Value.category]) (sR_is rfl rfl) (lc_X12_refused qg22) ?_
        refine r_iret rfl dX12_edge_37 ?_
        exact lfI h
set_option maxRecDepth 8000 in
theorem lc_X12_edge {ad : Nat → Nat} {x1 : Int32} {x2 : Int32} {x3 : Int32} {x4 : Int32} {σ τ : sS} {r : Int32} (h : L_X12_edge x1 x2 x3 x4 σ = some (r, τ)) : ab_X (sR ad) 4 mX12_edge [.ref (ad 90), .int x1, .int x2, .int x3, .int x4] σ (some (.int r)) τ := ab_X.of (by decide) (Nat.le_of_ble_eq_true rfl) (e_X12_edge h)
set_option maxRecDepth 8000 in
def L_X12_afterOf_6 (F : Nat) (x1 : Int32) (x2 : Int32) (x3 : Int32) (σ : sS) (kx : Int32 → Option Int32) : Nat → Int32 → Int32 → Option Int32
  | 0, _, _ => none
  | n + 1, x4, x5 => if 4 ≤ x5 then (kx x4) else (if ((x2 >>> (x5 &&& 31)) &&& 1) = 1 then (bd (L_X12_edgesOf x1 x3 x5 σ) (fun rq4 => bnd (x4 ||| rq4) (fun yq5 => L_X12_afterOf_6 F x1 x2 x3 σ kx n yq5 (x5 + 1)))) else (L_X12_afterOf_6 F x1 x2 x3 σ kx n x4 (x5 + 1)))
set_option maxRecDepth 8000 in
theorem l_X12_afterOf_6 {ad : Nat → Nat} {F : Nat} {x1 : Int32} {x2 : Int32} {x3 : Int32} {σ : sS} {z : Int32} {kx : Int32 → Option Int32} (hx : ∀ (x4 : Int32), kx x4 = some z → ab_E (sR ad) mX12_afterOf 2 41 [(4, .int x4)] [] σ (fun r9 σ9 => r9 = some (.int z) ∧ σ9 = σ)) : ∀ (n : Nat) (x4 : Int32) (x5 : Int32), L_X12_afterOf_6 F x1 x2 x3 σ kx n x4 x5 = some z → ab_E (sR ad) mX12_afterOf 2 6 [(4, .int x4), (5, .int x5), (1, .int x1), (2, .int x2), (3, .int x3), (0, .ref (ad 90))] [] σ (fun r9 σ9 => r9 = some (.int z) ∧ σ9 = σ) := by
  intro n
  induction n with
  | zero =>
    intro x4 x5 h
    rw [L_X12_afterOf_6] at h
    cases h
  | succ n ih =>
    intro x4 x5 h
    rw [L_X12_afterOf_6] at h
    refine r_iload dX12_afterOf_6 1 rfl ?_
    refine r_iconst (v := 4) dX12_afterOf_8 (by decide) ?_
    refine r_icmp_ge (t := 41) dX12_afterOf_9 (by decide) (fun qc1 => ?_) (fun qc1 => ?_)
    · replace h := ifp h qc1
      exact ab_E.lo [0] rfl (hx _ h)
    · replace h := ifn h qc1
      refine r_iload_n dX12_afterOf_12 3 rfl ?_
      refine r_iload dX12_afterOf_13 1 rfl ?_
      refine r_ishr dX12_afterOf_15 ?_
      refine r_iconst (v := 1) dX12_afterOf_16 (by decide) ?_
      refine r_iand dX12_afterOf_17 ?_
      refine r_iconst (v := 1) dX12_afterOf_18 (by decide) ?_
      refine r_icmp_ne (t := 35) dX12_afterOf_19 (by decide) (fun qc2 => ?_) (fun qc2 => ?_)
      · replace h := ifn h qc2
        refine r_iinc (v := x5 + 1) (lo' := [(5, .int (x5 + 1)), (4, .int x4), (1, .int x1), (2, .int x2), (3, .int x3), (0, .ref (ad 90))]) dX12_afterOf_35 1 rfl rfl (by decide) rfl ?_
        refine r_goto (t := 6) dX12_afterOf_38 (by decide) ?_
        exact ab_E.lo [1, 0, 2, 3, 4, 5] rfl (ih _ _ h)
      · replace h := ifp h qc2
        refine r_iload dX12_afterOf_22 0 rfl ?_
        refine r_aload_n dX12_afterOf_24 5 rfl ?_
        refine r_iload_n dX12_afterOf_25 2 rfl ?_
        refine r_iload_n dX12_afterOf_26 4 rfl ?_
        refine r_iload dX12_afterOf_27 1 rfl ?_
        obtain ⟨rq4, qg3, h⟩ := bd_at h
        refine x_callV (Y := mX12_edgesOf) (d' := 1) dX12_afterOf_29 ml_X12_309 yv_X12_edgesOf (by omega) rfl rfl (by simp [Value.category]) (sR_is rfl rfl) (lc_X12_edgesOf qg3) ?_
        refine r_ior dX12_afterOf_32 ?_
        refine r_topi (fun yq5 eyq5 => ?_)
        replace h := bnd_at h eyq5
        refine r_istore (lo' := [(4, .int yq5), (5, .int x5), (1, .int x1), (2, .int x2), (3, .int x3), (0, .ref (ad 90))]) dX12_afterOf_33 (by decide) rfl ?_
        refine r_iinc (v := x5 + 1) (lo' := [(5, .int (x5 + 1)), (4, .int yq5), (1, .int x1), (2, .int x2), (3, .int x3), (0, .ref (ad 90))]) dX12_afterOf_35 1 rfl rfl (by decide) rfl ?_
        refine r_goto (t := 6) dX12_afterOf_38 (by decide) ?_
        exact ab_E.lo [1, 0, 2, 3, 4, 5] rfl (ih _ _ h)
set_option maxRecDepth 8000 in
def L_X12_afterOf (F : Nat) (x1 : Int32) (x2 : Int32) (x3 : Int32) (σ : sS) : Option Int32 := L_X12_afterOf_6 F x1 x2 x3 σ (fun yq1 => some yq1) F 0 0
set_option maxRecDepth 8000 in
theorem e_X12_afterOf {ad : Nat → Nat} {F : Nat} {x1 : Int32} {x2 : Int32} {x3 : Int32} {σ : sS} {z : Int32} (h : L_X12_afterOf F x1 x2 x3 σ = some z) : ab_E (sR ad) mX12_afterOf 2 0 [(0, .ref (ad 90)), (1, .int x1), (2, .int x2), (3, .int x3)] [] σ (fun r9 σ9 => r9 = some (.int z) ∧ σ9 = σ) := by
  unfold L_X12_afterOf at h
  refine r_iconst (v := 0) dX12_afterOf_0 (by decide) ?_
  refine r_istore (lo' := [(4, .int 0), (0, .ref (ad 90)), (1, .int x1), (2, .int x2), (3, .int x3)]) dX12_afterOf_1 (by decide) rfl ?_
  refine r_iconst (v := 0) dX12_afterOf_3 (by decide) ?_
  refine r_istore (lo' := [(5, .int 0), (4, .int 0), (0, .ref (ad 90)), (1, .int x1), (2, .int x2), (3, .int x3)]) dX12_afterOf_4 (by decide) rfl ?_
  refine ab_E.lo [1, 0, 3, 4, 5, 2] rfl (l_X12_afterOf_6 (fun yq1 h => ?_) _ _ _ h)
  refine r_iload dX12_afterOf_41 0 rfl ?_
  refine r_iret rfl dX12_afterOf_43 ?_
  exact lfP h
set_option maxRecDepth 8000 in
theorem lc_X12_afterOf {ad : Nat → Nat} {F : Nat} {x1 : Int32} {x2 : Int32} {x3 : Int32} {σ : sS} {r : Int32} (h : L_X12_afterOf F x1 x2 x3 σ = some r) : ab_X (sR ad) 2 mX12_afterOf [.ref (ad 90), .int x1, .int x2, .int x3] σ (some (.int r)) σ := ab_X.of (by decide) (Nat.le_of_ble_eq_true rfl) (e_X12_afterOf h)
set_option maxRecDepth 8000 in
def L_X12_after (F : Nat) (x1 : Int32) (x2 : Int32) (x3 : Int32) (σ : sS) : Option (Int32 × sS) := bnd (uI σ 90 0 0) (fun σ1 => bd (L_X12_isAuto x1 σ1) (fun rq3 => if rq3 = 0 then (bd2 (L_X12_refused 1 σ1) (fun rq6 σ7 => some ((rq6, σ7)))) else (bd (L_X12_isLetter x3 σ1) (fun rq9 => if rq9 = 0 then (bd2 (L_X12_refused 1 σ1) (fun rq23 σ24 => some ((rq23, σ24)))) else (bd (L_X12_isSet x1 x2 σ1) (fun rq12 => if rq12 = 0 then (bd2 (L_X12_refused 2 σ1) (fun rq15 σ16 => some ((rq15, σ16)))) else (bd (L_X12_afterOf F x1 x2 x3 σ1) (fun rq18 => bd2 (L_X12_good rq18 σ1) (fun rq20 σ21 => some ((rq20, σ21)))))))))))
set_option maxRecDepth 8000 in
theorem e_X12_after {ad : Nat → Nat} {F : Nat} {x1 : Int32} {x2 : Int32} {x3 : Int32} {σ : sS} {z : (Int32 × sS)} (h : L_X12_after F x1 x2 x3 σ = some z) : ab_E (sR ad) mX12_after 3 0 [(0, .ref (ad 90)), (1, .int x1), (2, .int x2), (3, .int x3)] [] σ (fun r9 σ9 => r9 = some (.int z.1) ∧ σ9 = z.2) := by
  unfold L_X12_after at h
  refine r_aload_n dX12_after_0 0 rfl ?_
  refine r_iconst (v := 0) dX12_after_1 (by decide) ?_
  refine s_putI ok_X12 dX12_after_2 (k := 0) (by decide) fl_X12_131 rfl rfl rfl rfl rfl ?_
  refine r_st (fun σ1 eσ1 => ?_)
  replace h := bnd_at h eσ1
  refine r_aload_n dX12_after_5 0 rfl ?_
  refine r_iload_n dX12_after_6 1 rfl ?_
  obtain ⟨rq3, qg2, h⟩ := bd_at h
  refine x_callV (Y := mX12_isAuto) (d' := 2) dX12_after_7 ml_X12_291 yv_X12_isAuto (by omega) rfl rfl (by simp [Value.category]) (sR_is rfl rfl) (lc_X12_isAuto qg2) ?_
  refine r_if_eq (t := 21) dX12_after_10 (by decide) (fun qc4 => ?_) (fun qc4 => ?_)
  · replace h := ifp h qc4
    refine r_aload_n dX12_after_21 0 rfl ?_
    refine r_iconst (v := 1) dX12_after_22 (by decide) ?_
    obtain ⟨rq6, σ7, qg5, h⟩ := bd2_at h
    refine x_callV (Y := mX12_refused) (d' := 1) dX12_after_23 ml_X12_270 yv_X12_refused (by omega) rfl rfl (by simp [Value.category]) (sR_is rfl rfl) (lc_X12_refused qg5) ?_
    refine r_iret rfl dX12_after_26 ?_
    exact lfI h
  · replace h := ifn h qc4
    refine r_aload_n dX12_after_13 0 rfl ?_
    refine r_iload_n dX12_after_14 3 rfl ?_
    obtain ⟨rq9, qg8, h⟩ := bd_at h
    refine x_callV (Y := mX12_isLetter) (d' := 2) dX12_after_15 ml_X12_306 yv_X12_isLetter (by omega) rfl rfl (by simp [Value.category]) (sR_is rfl rfl) (lc_X12_isLetter qg8) ?_
    refine r_if_ne (t := 27) dX12_after_18 (by decide) (fun qc10 => ?_) (fun qc10 => ?_)
    · replace h := ifn h qc10
      refine r_aload_n dX12_after_27 0 rfl ?_
      refine r_iload_n dX12_after_28 1 rfl ?_
      refine r_iload_n dX12_after_29 2 rfl ?_
      obtain ⟨rq12, qg11, h⟩ := bd_at h
      refine x_callV (Y := mX12_isSet) (d' := 2) dX12_after_30 ml_X12_313 yv_X12_isSet (by omega) rfl rfl (by simp [Value.category]) (sR_is rfl rfl) (lc_X12_isSet qg11) ?_
      refine r_if_eq (t := 50) dX12_after_33 (by decide) (fun qc13 => ?_) (fun qc13 => ?_)
      · replace h := ifp h qc13
        refine r_aload_n dX12_after_50 0 rfl ?_
        refine r_iconst (v := 2) dX12_after_51 (by decide) ?_
        obtain ⟨rq15, σ16, qg14, h⟩ := bd2_at h
        refine x_callV (Y := mX12_refused) (d' := 1) dX12_after_52 ml_X12_270 yv_X12_refused (by omega) rfl rfl (by simp [Value.category]) (sR_is rfl rfl) (lc_X12_refused qg14) ?_
        refine r_iret rfl dX12_after_55 ?_
        exact lfI h
      · replace h := ifn h qc13
        refine r_aload_n dX12_after_36 0 rfl ?_
        refine r_aload_n dX12_after_37 0 rfl ?_
        refine r_iload_n dX12_after_38 1 rfl ?_
        refine r_iload_n dX12_after_39 2 rfl ?_
        refine r_iload_n dX12_after_40 3 rfl ?_
        obtain ⟨rq18, qg17, h⟩ := bd_at h
        refine x_callV (Y := mX12_afterOf) (d' := 2) dX12_after_41 ml_X12_316 yv_X12_afterOf (by omega) rfl rfl (by simp [Value.category]) (sR_is rfl rfl) (lc_X12_afterOf qg17) ?_
        obtain ⟨rq20, σ21, qg19, h⟩ := bd2_at h
        refine x_callV (Y := mX12_good) (d' := 1) dX12_after_44 ml_X12_288 yv_X12_good (by omega) rfl rfl (by simp [Value.category]) (sR_is rfl rfl) (lc_X12_good qg19) ?_
        refine r_goto (t := 55) dX12_after_47 (by decide) ?_
        refine r_iret rfl dX12_after_55 ?_
        exact lfI h
    · replace h := ifp h qc10
      refine r_aload_n dX12_after_21 0 rfl ?_
      refine r_iconst (v := 1) dX12_after_22 (by decide) ?_
      obtain ⟨rq23, σ24, qg22, h⟩ := bd2_at h
      refine x_callV (Y := mX12_refused) (d' := 1) dX12_after_23 ml_X12_270 yv_X12_refused (by omega) rfl rfl (by simp [Value.category]) (sR_is rfl rfl) (lc_X12_refused qg22) ?_
      refine r_iret rfl dX12_after_26 ?_
      exact lfI h
set_option maxRecDepth 8000 in
theorem lc_X12_after {ad : Nat → Nat} {F : Nat} {x1 : Int32} {x2 : Int32} {x3 : Int32} {σ τ : sS} {r : Int32} (h : L_X12_after F x1 x2 x3 σ = some (r, τ)) : ab_X (sR ad) 3 mX12_after [.ref (ad 90), .int x1, .int x2, .int x3] σ (some (.int r)) τ := ab_X.of (by decide) (Nat.le_of_ble_eq_true rfl) (e_X12_after h)
