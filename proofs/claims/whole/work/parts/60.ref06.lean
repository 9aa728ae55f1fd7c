/-! the reference, lifted, 6 -/
set_option maxRecDepth 8000 in
def L_X12_evens_4 (F : Nat) (x1 : Int32) (σ : sS) (kx : Int32 → Option Int32) : Nat → Int32 → Int32 → Option Int32
  | 0, _, _ => none
  | n + 1, x2, x3 => if 4 ≤ x3 then (kx x2) else (if ((x1 >>> (x3 &&& 31)) &&& 1) = 1 then (grd (inb x3 4) (if ((vI σ 123 x3.toNatClampNeg) - (vI σ 123 x3.toNatClampNeg) / 2 * 2) = 0 then (bnd (x2 ||| ((1 : Int32) <<< (x3 &&& 31))) (fun yq5 => L_X12_evens_4 F x1 σ kx n yq5 (x3 + 1))) else (L_X12_evens_4 F x1 σ kx n x2 (x3 + 1)))) else (L_X12_evens_4 F x1 σ kx n x2 (x3 + 1)))
set_option maxRecDepth 8000 in
theorem l_X12_evens_4 {ad : Nat → Nat} {F : Nat} {x1 : Int32} {σ : sS} {z : Int32} {kx : Int32 → Option Int32} (hx : ∀ (x2 : Int32), kx x2 = some z → ab_E (sR ad) mX12_evens 1 41 [(2, .int x2)] [] σ (fun r9 σ9 => r9 = some (.int z) ∧ σ9 = σ)) : ∀ (n : Nat) (x2 : Int32) (x3 : Int32), L_X12_evens_4 F x1 σ kx n x2 x3 = some z → ab_E (sR ad) mX12_evens 1 4 [(2, .int x2), (3, .int x3), (1, .int x1), (0, .ref (ad 90))] [] σ (fun r9 σ9 => r9 = some (.int z) ∧ σ9 = σ) := by
  intro n
  induction n with
  | zero =>
    intro x2 x3 h
    rw [L_X12_evens_4] at h
    cases h
  | succ n ih =>
    intro x2 x3 h
    rw [L_X12_evens_4] at h
    refine r_iload_n dX12_evens_4 1 rfl ?_
    refine r_iconst (v := 4) dX12_evens_5 (by decide) ?_
    refine r_icmp_ge (t := 41) dX12_evens_6 (by decide) (fun qc1 => ?_) (fun qc1 => ?_)
    · replace h := ifp h qc1
      exact ab_E.lo [0] rfl (hx _ h)
    · replace h := ifn h qc1
      refine r_iload_n dX12_evens_9 2 rfl ?_
      refine r_iload_n dX12_evens_10 1 rfl ?_
      refine r_ishr dX12_evens_11 ?_
      refine r_iconst (v := 1) dX12_evens_12 (by decide) ?_
      refine r_iand dX12_evens_13 ?_
      refine r_iconst (v := 1) dX12_evens_14 (by decide) ?_
      refine r_icmp_ne (t := 35) dX12_evens_15 (by decide) (fun qc2 => ?_) (fun qc2 => ?_)
      · replace h := ifn h qc2
        refine r_iinc (v := x3 + 1) (lo' := [(3, .int (x3 + 1)), (2, .int x2), (1, .int x1), (0, .ref (ad 90))]) dX12_evens_35 1 rfl rfl (by decide) rfl ?_
        refine r_goto (t := 4) dX12_evens_38 (by decide) ?_
        exact ab_E.lo [1, 0, 2, 3] rfl (ih _ _ h)
      · replace h := ifp h qc2
        refine r_aload_n dX12_evens_18 3 rfl ?_
        refine s_getR (b := 123) ok_X12 dX12_evens_19 (k := 23) (by decide) fl_X12_33 rfl rfl rfl ?_
        refine r_iload_n dX12_evens_22 1 rfl ?_
        obtain ⟨qg3, h⟩ := grd_at h
        refine s_iald dX12_evens_23 rfl (inb_of qg3) ?_
        refine r_iconst (v := 2) dX12_evens_24 (by decide) ?_
        refine r_irem dX12_evens_25 (by decide) ?_
        refine r_if_ne (t := 35) dX12_evens_26 (by decide) (fun qc4 => ?_) (fun qc4 => ?_)
        · replace h := ifn h qc4
          refine r_iinc (v := x3 + 1) (lo' := [(3, .int (x3 + 1)), (2, .int x2), (1, .int x1), (0, .ref (ad 90))]) dX12_evens_35 1 rfl rfl (by decide) rfl ?_
          refine r_goto (t := 4) dX12_evens_38 (by decide) ?_
          exact ab_E.lo [1, 0, 2, 3] rfl (ih _ _ h)
        · replace h := ifp h qc4
          refine r_iload_n dX12_evens_29 0 rfl ?_
          refine r_iconst (v := 1) dX12_evens_30 (by decide) ?_
          refine r_iload_n dX12_evens_31 1 rfl ?_
          refine r_ishl dX12_evens_32 ?_
          refine r_ior dX12_evens_33 ?_
          refine r_topi (fun yq5 eyq5 => ?_)
          replace h := bnd_at h eyq5
          refine r_istore_n (lo' := [(2, .int yq5), (3, .int x3), (1, .int x1), (0, .ref (ad 90))]) dX12_evens_34 (by decide) rfl ?_
          refine r_iinc (v := x3 + 1) (lo' := [(3, .int (x3 + 1)), (2, .int yq5), (1, .int x1), (0, .ref (ad 90))]) dX12_evens_35 1 rfl rfl (by decide) rfl ?_
          refine r_goto (t := 4) dX12_evens_38 (by decide) ?_
          exact ab_E.lo [1, 0, 2, 3] rfl (ih _ _ h)
set_option maxRecDepth 8000 in
def L_X12_evens (F : Nat) (x1 : Int32) (σ : sS) : Option Int32 := L_X12_evens_4 F x1 σ (fun yq1 => some yq1) F 0 0
set_option maxRecDepth 8000 in
theorem e_X12_evens {ad : Nat → Nat} {F : Nat} {x1 : Int32} {σ : sS} {z : Int32} (h : L_X12_evens F x1 σ = some z) : ab_E (sR ad) mX12_evens 1 0 [(0, .ref (ad 90)), (1, .int x1)] [] σ (fun r9 σ9 => r9 = some (.int z) ∧ σ9 = σ) := by
  unfold L_X12_evens at h
  refine r_iconst (v := 0) dX12_evens_0 (by decide) ?_
  refine r_istore_n (lo' := [(2, .int 0), (0, .ref (ad 90)), (1, .int x1)]) dX12_evens_1 (by decide) rfl ?_
  refine r_iconst (v := 0) dX12_evens_2 (by decide) ?_
  refine r_istore_n (lo' := [(3, .int 0), (2, .int 0), (0, .ref (ad 90)), (1, .int x1)]) dX12_evens_3 (by decide) rfl ?_
  refine ab_E.lo [1, 0, 3, 2] rfl (l_X12_evens_4 (fun yq1 h => ?_) _ _ _ h)
  refine r_iload_n dX12_evens_41 0 rfl ?_
  refine r_iret rfl dX12_evens_42 ?_
  exact lfP h
set_option maxRecDepth 8000 in
theorem lc_X12_evens {ad : Nat → Nat} {F : Nat} {x1 : Int32} {σ : sS} {r : Int32} (h : L_X12_evens F x1 σ = some r) : ab_X (sR ad) 1 mX12_evens [.ref (ad 90), .int x1] σ (some (.int r)) σ := ab_X.of (by decide) (Nat.le_of_ble_eq_true rfl) (e_X12_evens h)
set_option maxRecDepth 8000 in
def L_X12_goesFromPair_3 (F : Nat) (x1 : Int32) (x2 : Int32) (x3 : Int32) (x4 : Int32) (kx : sS → Option sS) : Nat → Int32 → sS → Option sS
  | 0, _, _ => none
  | n + 1, x5, σ => if 4 ≤ x5 then (kx σ) else (bd (L_X12_mostOf F x1 x2 x3 x5 σ) (fun rq3 => grd (inb x5 4) (bnd (uI σ 136 x5.toNatClampNeg rq3) (fun σ5 => L_X12_goesFromPair_3 F x1 x2 x3 x4 kx n (x5 + 1) σ5))))
set_option maxRecDepth 8000 in
theorem l_X12_goesFromPair_3 {ad : Nat → Nat} {F : Nat} {x1 : Int32} {x2 : Int32} {x3 : Int32} {x4 : Int32} {z : sS} {kx : sS → Option sS} (hx : ∀  (σ : sS), kx σ = some z → ab_E (sR ad) mX12_goesFromPair 3 31 [(1, .int x1), (2, .int x2), (3, .int x3), (4, .int x4), (0, .ref (ad 90))] [] σ (fun r9 σ9 => r9 = none ∧ σ9 = z)) : ∀ (n : Nat) (x5 : Int32) (σ : sS), L_X12_goesFromPair_3 F x1 x2 x3 x4 kx n x5 σ = some z → ab_E (sR ad) mX12_goesFromPair 3 3 [(5, .int x5), (1, .int x1), (2, .int x2), (3, .int x3), (4, .int x4), (0, .ref (ad 90))] [] σ (fun r9 σ9 => r9 = none ∧ σ9 = z) := by
  intro n
  induction n with
  | zero =>
    intro x5 σ h
    rw [L_X12_goesFromPair_3] at h
    cases h
  | succ n ih =>
    intro x5 σ h
    rw [L_X12_goesFromPair_3] at h
    refine r_iload dX12_goesFromPair_3 0 rfl ?_
    refine r_iconst (v := 4) dX12_goesFromPair_5 (by decide) ?_
    refine r_icmp_ge (t := 31) dX12_goesFromPair_6 (by decide) (fun qc1 => ?_) (fun qc1 => ?_)
    · replace h := ifp h qc1
      exact ab_E.lo [1, 2, 3, 4, 5] rfl (hx _ h)
    · replace h := ifn h qc1
      refine r_aload_n dX12_goesFromPair_9 5 rfl ?_
      refine s_getR (b := 136) ok_X12 dX12_goesFromPair_10 (k := 36) (by decide) fl_X12_64 rfl rfl rfl ?_
      refine r_iload dX12_goesFromPair_13 0 rfl ?_
      refine r_aload_n dX12_goesFromPair_15 5 rfl ?_
      refine r_iload_n dX12_goesFromPair_16 1 rfl ?_
      refine r_iload_n dX12_goesFromPair_17 2 rfl ?_
      refine r_iload_n dX12_goesFromPair_18 3 rfl ?_
      refine r_iload dX12_goesFromPair_19 0 rfl ?_
      obtain ⟨rq3, qg2, h⟩ := bd_at h
      refine x_callV (Y := mX12_mostOf) (d' := 2) dX12_goesFromPair_21 ml_X12_356 yv_X12_mostOf (by omega) rfl rfl (by simp [Value.category]) (sR_is rfl rfl) (lc_X12_mostOf qg2) ?_
      obtain ⟨qg4, h⟩ := grd_at h
      refine s_iast dX12_goesFromPair_24 rfl (inb_of qg4) ?_
      refine r_st (fun σ5 eσ5 => ?_)
      replace h := bnd_at h eσ5
      refine r_iinc (v := x5 + 1) (lo' := [(5, .int (x5 + 1)), (1, .int x1), (2, .int x2), (3, .int x3), (4, .int x4), (0, .ref (ad 90))]) dX12_goesFromPair_25 0 rfl rfl (by decide) rfl ?_
      refine r_goto (t := 3) dX12_goesFromPair_28 (by decide) ?_
      exact ab_E.lo [0, 1, 2, 3, 4, 5] rfl (ih _ _ h)
set_option maxRecDepth 8000 in
def L_X12_goesFromPair_83 (F : Nat) (x1 : Int32) (x4 : Int32) (x5 : Int32) (x6 : Int32) (kx : sS → Option sS) : Nat → Int32 → sS → Option sS
  | 0, _, _ => none
  | n + 1, x7, σ => if x7 = 0 then (kx σ) else (if (vI σ 90 35) = 0 then (bd (L_X12_isUnder F x4 σ) (fun rq15 => if rq15 = 0 then (bd2 (L_X12_nextRanking F x4 x5 σ) (fun rq18 σ19 => L_X12_goesFromPair_83 F x1 x4 x5 x6 kx n rq18 σ19)) else (bd (L_X12_isTight F x1 x4 x5 σ) (fun rq21 => if rq21 = 0 then (bd2 (L_X12_nextRanking F x4 x5 σ) (fun rq24 σ25 => L_X12_goesFromPair_83 F x1 x4 x5 x6 kx n rq24 σ25)) else (bd (L_X12_packed F x4 σ) (fun rq27 => bd (L_X12_evens F x4 σ) (fun rq29 => bd2 (L_X12_nodeOf F x4 x5 rq27 (rq29 &&& x6) σ) (fun rq31 σ32 => bd (L_X12_goesTo rq31 σ32) (fun σ34 => bd2 (L_X12_nextRanking F x4 x5 σ34) (fun rq36 σ37 => L_X12_goesFromPair_83 F x1 x4 x5 x6 kx n rq36 σ37)))))))))) else (kx σ))
set_option maxRecDepth 8000 in
theorem l_X12_goesFromPair_83 {ad : Nat → Nat} {F : Nat} {x1 : Int32} {x4 : Int32} {x5 : Int32} {x6 : Int32} {z : sS} {kx : sS → Option sS} (hx : ∀  (σ : sS), kx σ = some z → ab_E (sR ad) mX12_goesFromPair 3 156 [] [] σ (fun r9 σ9 => r9 = none ∧ σ9 = z)) : ∀ (n : Nat) (x7 : Int32) (σ : sS), L_X12_goesFromPair_83 F x1 x4 x5 x6 kx n x7 σ = some z → ab_E (sR ad) mX12_goesFromPair 3 83 [(7, .int x7), (1, .int x1), (4, .int x4), (5, .int x5), (6, .int x6), (0, .ref (ad 90))] [] σ (fun r9 σ9 => r9 = none ∧ σ9 = z) := by
  intro n
  induction n with
  | zero =>
    intro x7 σ h
    rw [L_X12_goesFromPair_83] at h
    cases h
  | succ n ih =>
    intro x7 σ h
    rw [L_X12_goesFromPair_83] at h
    refine r_iload dX12_goesFromPair_83 0 rfl ?_
    refine r_if_eq (t := 156) dX12_goesFromPair_85 (by decide) (fun qc12 => ?_) (fun qc12 => ?_)
    · replace h := ifp h qc12
      exact ab_E.lo [] rfl (hx _ h)
    · replace h := ifn h qc12
      refine r_aload_n dX12_goesFromPair_88 5 rfl ?_
      refine s_getI ok_X12 dX12_goesFromPair_89 (k := 35) (by decide) fl_X12_337 rfl rfl ?_
      refine r_if_ne (t := 156) dX12_goesFromPair_92 (by decide) (fun qc13 => ?_) (fun qc13 => ?_)
      · replace h := ifn h qc13
        exact ab_E.lo [] rfl (hx _ h)
      · replace h := ifp h qc13
        refine r_aload_n dX12_goesFromPair_95 5 rfl ?_
        refine r_iload dX12_goesFromPair_96 2 rfl ?_
        obtain ⟨rq15, qg14, h⟩ := bd_at h
        refine x_callV (Y := mX12_isUnder) (d' := 1) dX12_goesFromPair_98 ml_X12_359 yv_X12_isUnder (by omega) rfl rfl (by simp [Value.category]) (sR_is rfl rfl) (lc_X12_isUnder qg14) ?_
        refine r_if_eq (t := 143) dX12_goesFromPair_101 (by decide) (fun qc16 => ?_) (fun qc16 => ?_)
        · replace h := ifp h qc16
          refine r_aload_n dX12_goesFromPair_143 5 rfl ?_
          refine r_iload dX12_goesFromPair_144 2 rfl ?_
          refine r_iload dX12_goesFromPair_146 3 rfl ?_
          obtain ⟨rq18, σ19, qg17, h⟩ := bd2_at h
          refine x_callV (Y := mX12_nextRanking) (d' := 1) dX12_goesFromPair_148 ml_X12_331 yv_X12_nextRanking (by omega) rfl rfl (by simp [Value.category]) (sR_is rfl rfl) (lc_X12_nextRanking qg17) ?_
          refine r_istore (lo' := [(7, .int rq18), (1, .int x1), (4, .int x4), (5, .int x5), (6, .int x6), (0, .ref (ad 90))]) dX12_goesFromPair_151 (by decide) rfl ?_
          refine r_goto (t := 83) dX12_goesFromPair_153 (by decide) ?_
          exact ab_E.lo [0, 1, 2, 3, 4, 5] rfl (ih _ _ h)
        · replace h := ifn h qc16
          refine r_aload_n dX12_goesFromPair_104 5 rfl ?_
          refine r_iload_n dX12_goesFromPair_105 1 rfl ?_
          refine r_iload dX12_goesFromPair_106 2 rfl ?_
          refine r_iload dX12_goesFromPair_108 3 rfl ?_
          obtain ⟨rq21, qg20, h⟩ := bd_at h
          refine x_callV (Y := mX12_isTight) (d' := 1) dX12_goesFromPair_110 ml_X12_328 yv_X12_isTight (by omega) rfl rfl (by simp [Value.category]) (sR_is rfl rfl) (lc_X12_isTight qg20) ?_
          refine r_if_eq (t := 143) dX12_goesFromPair_113 (by decide) (fun qc22 => ?_) (fun qc22 => ?_)
          · replace h := ifp h qc22
            refine r_aload_n dX12_goesFromPair_143 5 rfl ?_
            refine r_iload dX12_goesFromPair_144 2 rfl ?_
            refine r_iload dX12_goesFromPair_146 3 rfl ?_
            obtain ⟨rq24, σ25, qg23, h⟩ := bd2_at h
            refine x_callV (Y := mX12_nextRanking) (d' := 1) dX12_goesFromPair_148 ml_X12_331 yv_X12_nextRanking (by omega) rfl rfl (by simp [Value.category]) (sR_is rfl rfl) (lc_X12_nextRanking qg23) ?_
            refine r_istore (lo' := [(7, .int rq24), (1, .int x1), (4, .int x4), (5, .int x5), (6, .int x6), (0, .ref (ad 90))]) dX12_goesFromPair_151 (by decide) rfl ?_
            refine r_goto (t := 83) dX12_goesFromPair_153 (by decide) ?_
            exact ab_E.lo [0, 1, 2, 3, 4, 5] rfl (ih _ _ h)
          · replace h := ifn h qc22
            refine r_aload_n dX12_goesFromPair_116 5 rfl ?_
            refine r_aload_n dX12_goesFromPair_117 5 rfl ?_
            refine r_iload dX12_goesFromPair_118 2 rfl ?_
            refine r_iload dX12_goesFromPair_120 3 rfl ?_
            refine r_aload_n dX12_goesFromPair_122 5 rfl ?_
            refine r_iload dX12_goesFromPair_123 2 rfl ?_
            obtain ⟨rq27, qg26, h⟩ := bd_at h
            refine x_callV (Y := mX12_packed) (d' := 1) dX12_goesFromPair_125 ml_X12_350 yv_X12_packed (by omega) rfl rfl (by simp [Value.category]) (sR_is rfl rfl) (lc_X12_packed qg26) ?_
            refine r_aload_n dX12_goesFromPair_128 5 rfl ?_
            refine r_iload dX12_goesFromPair_129 2 rfl ?_
            obtain ⟨rq29, qg28, h⟩ := bd_at h
            refine x_callV (Y := mX12_evens) (d' := 1) dX12_goesFromPair_131 ml_X12_362 yv_X12_evens (by omega) rfl rfl (by simp [Value.category]) (sR_is rfl rfl) (lc_X12_evens qg28) ?_
            refine r_iload dX12_goesFromPair_134 4 rfl ?_
            refine r_iand dX12_goesFromPair_136 ?_
            obtain ⟨rq31, σ32, qg30, h⟩ := bd2_at h
            refine x_callV (Y := mX12_nodeOf) (d' := 1) dX12_goesFromPair_137 ml_X12_343 yv_X12_nodeOf (by omega) rfl rfl (by simp [Value.category]) (sR_is rfl rfl) (lc_X12_nodeOf qg30) ?_
            obtain ⟨σ34, qg33, h⟩ := bd_at h
            refine x_callV0 (Y := mX12_goesTo) (d' := 1) dX12_goesFromPair_140 ml_X12_347 yv_X12_goesTo (by omega) rfl rfl (by simp [Value.category]) (sR_is rfl rfl) (lc_X12_goesTo qg33) ?_
            refine r_aload_n dX12_goesFromPair_143 5 rfl ?_
            refine r_iload dX12_goesFromPair_144 2 rfl ?_
            refine r_iload dX12_goesFromPair_146 3 rfl ?_
            obtain ⟨rq36, σ37, qg35, h⟩ := bd2_at h
            refine x_callV (Y := mX12_nextRanking) (d' := 1) dX12_goesFromPair_148 ml_X12_331 yv_X12_nextRanking (by omega) rfl rfl (by simp [Value.category]) (sR_is rfl rfl) (lc_X12_nextRanking qg35) ?_
            refine r_istore (lo' := [(7, .int rq36), (1, .int x1), (4, .int x4), (5, .int x5), (6, .int x6), (0, .ref (ad 90))]) dX12_goesFromPair_151 (by decide) rfl ?_
            refine r_goto (t := 83) dX12_goesFromPair_153 (by decide) ?_
            exact ab_E.lo [0, 1, 2, 3, 4, 5] rfl (ih _ _ h)
set_option maxRecDepth 8000 in
def L_X12_goesFromPair (F : Nat) (x1 : Int32) (x2 : Int32) (x3 : Int32) (x4 : Int32) (σ : sS) : Option sS := L_X12_goesFromPair_3 F x1 x2 x3 x4 (fun σ1 => grd (inb x2 300) (bnd (vI σ1 125 x2.toNatClampNeg) (fun yq3 => grd (inb x2 300) (if (vI σ1 127 x2.toNatClampNeg) = 0 then (bd (L_X12_firstRanking F σ1) (fun σ15 => if x4 = 0 then (L_X12_goesFromPair_83 F x1 x4 yq3 x4 (fun σ17 => some σ17) F 0 σ15) else (L_X12_goesFromPair_83 F x1 x4 yq3 x4 (fun σ18 => some σ18) F 1 σ15))) else (grd (inb x2 300) (bd (L_X12_afterOf F x1 (vI σ1 127 x2.toNatClampNeg) x3 σ1) (fun rq8 => bd (L_X12_firstRanking F σ1) (fun σ10 => if x4 = 0 then (L_X12_goesFromPair_83 F x1 x4 yq3 rq8 (fun σ12 => some σ12) F 0 σ10) else (L_X12_goesFromPair_83 F x1 x4 yq3 rq8 (fun σ13 => some σ13) F 1 σ10))))))))) F 0 σ
set_option maxRecDepth 8000 in
theorem e_X12_goesFromPair {ad : Nat → Nat} {F : Nat} {x1 : Int32} {x2 : Int32} {x3 : Int32} {x4 : Int32} {σ : sS} {z : sS} (h : L_X12_goesFromPair F x1 x2 x3 x4 σ = some z) : ab_E (sR ad) mX12_goesFromPair 3 0 [(0, .ref (ad 90)), (1, .int x1), (2, .int x2), (3, .int x3), (4, .int x4)] [] σ (fun r9 σ9 => r9 = none ∧ σ9 = z) := by
  unfold L_X12_goesFromPair at h
  refine r_iconst (v := 0) dX12_goesFromPair_0 (by decide) ?_
  refine r_istore (lo' := [(5, .int 0), (0, .ref (ad 90)), (1, .int x1), (2, .int x2), (3, .int x3), (4, .int x4)]) dX12_goesFromPair_1 (by decide) rfl ?_
  refine ab_E.lo [0, 2, 3, 4, 5, 1] rfl (l_X12_goesFromPair_3 (fun σ1 h => ?_) _ _ _ h)
  refine r_aload_n dX12_goesFromPair_31 4 rfl ?_
  refine s_getR (b := 125) ok_X12 dX12_goesFromPair_32 (k := 25) (by decide) fl_X12_39 rfl rfl rfl ?_
  refine r_iload_n dX12_goesFromPair_35 1 rfl ?_
  obtain ⟨qg2, h⟩ := grd_at h
  refine s_iald dX12_goesFromPair_36 rfl (inb_of qg2) ?_
  refine r_topi (fun yq3 eyq3 => ?_)
  replace h := bnd_at h eyq3
  refine r_istore (lo' := [(5, .int yq3), (1, .int x1), (2, .int x2), (3, .int x3), (4, .int x4), (0, .ref (ad 90))]) dX12_goesFromPair_37 (by decide) rfl ?_
  refine r_aload_n dX12_goesFromPair_39 5 rfl ?_
  refine s_getR (b := 127) ok_X12 dX12_goesFromPair_40 (k := 27) (by decide) fl_X12_45 rfl rfl rfl ?_
  refine r_iload_n dX12_goesFromPair_43 2 rfl ?_
  obtain ⟨qg4, h⟩ := grd_at h
  refine s_iald dX12_goesFromPair_44 rfl (inb_of qg4) ?_
  refine r_if_ne (t := 53) dX12_goesFromPair_45 (by decide) (fun qc5 => ?_) (fun qc5 => ?_)
  · replace h := ifn h qc5
    refine r_aload_n dX12_goesFromPair_53 5 rfl ?_
    refine r_iload_n dX12_goesFromPair_54 1 rfl ?_
    refine r_aload_n dX12_goesFromPair_55 5 rfl ?_
    refine s_getR (b := 127) ok_X12 dX12_goesFromPair_56 (k := 27) (by decide) fl_X12_45 rfl rfl rfl ?_
    refine r_iload_n dX12_goesFromPair_59 2 rfl ?_
    obtain ⟨qg6, h⟩ := grd_at h
    refine s_iald dX12_goesFromPair_60 rfl (inb_of qg6) ?_
    refine r_iload_n dX12_goesFromPair_61 3 rfl ?_
    obtain ⟨rq8, qg7, h⟩ := bd_at h
    refine x_callV (Y := mX12_afterOf) (d' := 2) dX12_goesFromPair_62 ml_X12_316 yv_X12_afterOf (by omega) rfl rfl (by simp [Value.category]) (sR_is rfl rfl) (lc_X12_afterOf qg7) ?_
    refine r_istore (lo' := [(6, .int rq8), (5, .int yq3), (1, .int x1), (2, .int x2), (3, .int x3), (4, .int x4), (0, .ref (ad 90))]) dX12_goesFromPair_65 (by decide) rfl ?_
    refine r_aload_n dX12_goesFromPair_67 6 rfl ?_
    obtain ⟨σ10, qg9, h⟩ := bd_at h
    refine x_callV0 (Y := mX12_firstRanking) (d' := 1) dX12_goesFromPair_68 ml_X12_325 yv_X12_firstRanking (by omega) rfl rfl (by simp [Value.category]) (sR_is rfl rfl) (lc_X12_firstRanking qg9) ?_
    refine r_iload dX12_goesFromPair_71 5 rfl ?_
    refine r_if_eq (t := 80) dX12_goesFromPair_73 (by decide) (fun qc11 => ?_) (fun qc11 => ?_)
    · replace h := ifp h qc11
      refine r_iconst (v := 0) dX12_goesFromPair_80 (by decide) ?_
      refine r_istore (lo' := [(7, .int 0), (6, .int rq8), (5, .int yq3), (1, .int x1), (2, .int x2), (3, .int x3), (4, .int x4), (0, .ref (ad 90))]) dX12_goesFromPair_81 (by decide) rfl ?_
      refine ab_E.lo [0, 3, 6, 2, 1, 7] rfl (l_X12_goesFromPair_83 (fun σ12 h => ?_) _ _ _ h)
      refine r_vret rfl dX12_goesFromPair_156 ?_
      exact lfV h
    · replace h := ifn h qc11
      refine r_iconst (v := 1) dX12_goesFromPair_76 (by decide) ?_
      refine r_goto (t := 81) dX12_goesFromPair_77 (by decide) ?_
      refine r_istore (lo' := [(7, .int 1), (6, .int rq8), (5, .int yq3), (1, .int x1), (2, .int x2), (3, .int x3), (4, .int x4), (0, .ref (ad 90))]) dX12_goesFromPair_81 (by decide) rfl ?_
      refine ab_E.lo [0, 3, 6, 2, 1, 7] rfl (l_X12_goesFromPair_83 (fun σ13 h => ?_) _ _ _ h)
      refine r_vret rfl dX12_goesFromPair_156 ?_
      exact lfV h
  · replace h := ifp h qc5
    refine r_iload dX12_goesFromPair_48 4 rfl ?_
    refine r_goto (t := 65) dX12_goesFromPair_50 (by decide) ?_
    refine r_istore (lo' := [(6, .int x4), (5, .int yq3), (1, .int x1), (2, .int x2), (3, .int x3), (4, .int x4), (0, .ref (ad 90))]) dX12_goesFromPair_65 (by decide) rfl ?_
    refine r_aload_n dX12_goesFromPair_67 6 rfl ?_
    obtain ⟨σ15, qg14, h⟩ := bd_at h
    refine x_callV0 (Y := mX12_firstRanking) (d' := 1) dX12_goesFromPair_68 ml_X12_325 yv_X12_firstRanking (by omega) rfl rfl (by simp [Value.category]) (sR_is rfl rfl) (lc_X12_firstRanking qg14) ?_
    refine r_iload dX12_goesFromPair_71 5 rfl ?_
    refine r_if_eq (t := 80) dX12_goesFromPair_73 (by decide) (fun qc16 => ?_) (fun qc16 => ?_)
    · replace h := ifp h qc16
      refine r_iconst (v := 0) dX12_goesFromPair_80 (by decide) ?_
      refine r_istore (lo' := [(7, .int 0), (6, .int x4), (5, .int yq3), (1, .int x1), (2, .int x2), (3, .int x3), (4, .int x4), (0, .ref (ad 90))]) dX12_goesFromPair_81 (by decide) rfl ?_
      refine ab_E.lo [0, 3, 6, 2, 1, 7] rfl (l_X12_goesFromPair_83 (fun σ17 h => ?_) _ _ _ h)
      refine r_vret rfl dX12_goesFromPair_156 ?_
      exact lfV h
    · replace h := ifn h qc16
      refine r_iconst (v := 1) dX12_goesFromPair_76 (by decide) ?_
      refine r_goto (t := 81) dX12_goesFromPair_77 (by decide) ?_
      refine r_istore (lo' := [(7, .int 1), (6, .int x4), (5, .int yq3), (1, .int x1), (2, .int x2), (3, .int x3), (4, .int x4), (0, .ref (ad 90))]) dX12_goesFromPair_81 (by decide) rfl ?_
      refine ab_E.lo [0, 3, 6, 2, 1, 7] rfl (l_X12_goesFromPair_83 (fun σ18 h => ?_) _ _ _ h)
      refine r_vret rfl dX12_goesFromPair_156 ?_
      exact lfV h
set_option maxRecDepth 8000 in
theorem lc_X12_goesFromPair {ad : Nat → Nat} {F : Nat} {x1 : Int32} {x2 : Int32} {x3 : Int32} {x4 : Int32} {σ τ : sS} (h : L_X12_goesFromPair F x1 x2 x3 x4 σ = some τ) : ab_X (sR ad) 3 mX12_goesFromPair [.ref (ad 90), .int x1, .int x2, .int x3, .int x4] σ none τ := ab_X.of (by decide) (Nat.le_of_ble_eq_true rfl) (e_X12_goesFromPair h)
set_option maxRecDepth 8000 in
def L_X12_lays_43 (F : Nat) (x1 : Int32) (kx : sS → Option (Int32 × sS)) : Nat → Int32 → sS → Option (Int32 × sS)
  | 0, _, _ => none
  | n + 1, x2, σ => if 1024 ≤ x2 then (kx σ) else (grd (inb x2 1024) (bnd (uI σ 129 x2.toNatClampNeg ((-1))) (fun σ8 => L_X12_lays_43 F x1 kx n (x2 + 1) σ8)))
set_option maxRecDepth 8000 in
theorem l_X12_lays_43 {ad : Nat → Nat} {F : Nat} {x1 : Int32} {z : (Int32 × sS)} {kx : sS → Option (Int32 × sS)} (hx : ∀  (σ : sS), kx σ = some z → ab_E (sR ad) mX12_lays 4 63 [(1, .int x1), (0, .ref (ad 90))] [] σ (fun r9 σ9 => r9 = some (.int z.1) ∧ σ9 = z.2)) : ∀ (n : Nat) (x2 : Int32) (σ : sS), L_X12_lays_43 F x1 kx n x2 σ = some z → ab_E (sR ad) mX12_lays 4 43 [(2, .int x2), (1, .int x1), (0, .ref (ad 90))] [] σ (fun r9 σ9 => r9 = some (.int z.1) ∧ σ9 = z.2) := by
  intro n
  induction n with
  | zero =>
    intro x2 σ h
    rw [L_X12_lays_43] at h
    cases h
  | succ n ih =>
    intro x2 σ h
    rw [L_X12_lays_43] at h
    refine r_iload_n dX12_lays_43 0 rfl ?_
    refine r_sipush (v := 1024) dX12_lays_44 (by decide) ?_
    refine r_icmp_ge (t := 63) dX12_lays_47 (by decide) (fun qc6 => ?_) (fun qc6 => ?_)
    · replace h := ifp h qc6
      exact ab_E.lo [1, 2] rfl (hx _ h)
    · replace h := ifn h qc6
      refine r_aload_n dX12_lays_50 2 rfl ?_
      refine s_getR (b := 129) ok_X12 dX12_lays_51 (k := 29) (by decide) fl_X12_51 rfl rfl rfl ?_
      refine r_iload_n dX12_lays_54 0 rfl ?_
      refine r_iconst (v := (-1)) dX12_lays_55 (by decide) ?_
      obtain ⟨qg7, h⟩ := grd_at h
      refine s_iast dX12_lays_56 rfl (inb_of qg7) ?_
      refine r_st (fun σ8 eσ8 => ?_)
      replace h := bnd_at h eσ8
      refine r_iinc (v := x2 + 1) (lo' := [(2, .int (x2 + 1)), (1, .int x1), (0, .ref (ad 90))]) dX12_lays_57 0 rfl rfl (by decide) rfl ?_
      refine r_goto (t := 43) dX12_lays_60 (by decide) ?_
      exact ab_E.lo [0, 1, 2] rfl (ih _ _ h)
set_option maxRecDepth 8000 in
def L_X12_lays_98 (F : Nat) (x1 : Int32) (x3 : Int32) (kx : sS → Option (Int32 × sS)) : Nat → Int32 → sS → Option (Int32 × sS)
  | 0, _, _ => none
  | n + 1, x4, σ => if 3 ≤ x4 then (kx σ) else (grd (inb (((3 : Int32) * x3) + x4) 901) (bnd (uI σ 130 (((3 : Int32) * x3) + x4).toNatClampNeg (vI σ 90 34)) (fun σ15 => if (vI σ15 90 19) ≤ x4 then (L_X12_lays_98 F x1 x3 kx n (x4 + 1) σ15) else (if (vI σ15 90 35) = 0 then (grd (inb x3 300) (bd (L_X12_afterOf F x1 (vI σ15 124 x3.toNatClampNeg) x4 σ15) (fun rq20 => grd (inb x3 300) (if (vI σ15 125 x3.toNatClampNeg) = ((-2)) then (bd (L_X12_goesFromSet F x1 rq20 σ15) (fun σ26 => L_X12_lays_98 F x1 x3 kx n (x4 + 1) σ26)) else (bd (L_X12_goesFromPair F x1 x3 x4 rq20 σ15) (fun σ24 => L_X12_lays_98 F x1 x3 kx n (x4 + 1) σ24)))))) else (L_X12_lays_98 F x1 x3 kx n (x4 + 1) σ15)))))
set_option maxRecDepth 8000 in
theorem l_X12_lays_98 {ad : Nat → Nat} {F : Nat} {x1 : Int32} {x3 : Int32} {z : (Int32 × sS)} {kx : sS → Option (Int32 × sS)} (hx : ∀  (σ : sS), kx σ = some z → ab_E (sR ad) mX12_lays 4 190 [(1, .int x1), (3, .int x3), (0, .ref (ad 90))] [] σ (fun r9 σ9 => r9 = some (.int z.1) ∧ σ9 = z.2)) : ∀ (n : Nat) (x4 : Int32) (σ : sS), L_X12_lays_98 F x1 x3 kx n x4 σ = some z → ab_E (sR ad) mX12_lays 4 98 [(4, .int x4), (1, .int x1), (3, .int x3), (0, .ref (ad 90))] [] σ (fun r9 σ9 => r9 = some (.int z.1) ∧ σ9 = z.2) := by
  intro n
  induction n with
  | zero =>
    intro x4 σ h
    rw [L_X12_lays_98] at h
    cases h
  | succ n ih =>
    intro x4 σ h
    rw [L_X12_lays_98] at h
    refine r_iload dX12_lays_98 0 rfl ?_
    refine r_iconst (v := 3) dX12_lays_100 (by decide) ?_
    refine r_icmp_ge (t := 190) dX12_lays_101 (by decide) (fun qc13 => ?_) (fun qc13 => ?_)
    · replace h := ifp h qc13
      exact ab_E.lo [1, 2, 3] rfl (hx _ h)
    · replace h := ifn h qc13
      refine r_aload_n dX12_lays_104 3 rfl ?_
      refine s_getR (b := 130) ok_X12 dX12_lays_105 (k := 30) (by decide) fl_X12_54 rfl rfl rfl ?_
      refine r_iconst (v := 3) dX12_lays_108 (by decide) ?_
      refine r_iload_n dX12_lays_109 2 rfl ?_
      refine r_imul dX12_lays_110 ?_
      refine r_iload dX12_lays_111 0 rfl ?_
      refine r_iadd dX12_lays_113 ?_
      refine r_aload_n dX12_lays_114 3 rfl ?_
      refine s_getI ok_X12 dX12_lays_115 (k := 34) (by decide) fl_X12_341 rfl rfl ?_
      obtain ⟨qg14, h⟩ := grd_at h
      refine s_iast dX12_lays_118 rfl (inb_of qg14) ?_
      refine r_st (fun σ15 eσ15 => ?_)
      replace h := bnd_at h eσ15
      refine r_iload dX12_lays_119 0 rfl ?_
      refine r_aload_n dX12_lays_121 3 rfl ?_
      refine s_getI ok_X12 dX12_lays_122 (k := 19) (by decide) fl_X12_283 rfl rfl ?_
      refine r_icmp_ge (t := 184) dX12_lays_125 (by decide) (fun qc16 => ?_) (fun qc16 => ?_)
      · replace h := ifp h qc16
        refine r_iinc (v := x4 + 1) (lo' := [(4, .int (x4 + 1)), (1, .int x1), (3, .int x3), (0, .ref (ad 90))]) dX12_lays_184 0 rfl rfl (by decide) rfl ?_
        refine r_goto (t := 98) dX12_lays_187 (by decide) ?_
        exact ab_E.lo [0, 1, 2, 3] rfl (ih _ _ h)
      · replace h := ifn h qc16
        refine r_aload_n dX12_lays_128 3 rfl ?_
        refine s_getI ok_X12 dX12_lays_129 (k := 35) (by decide) fl_X12_337 rfl rfl ?_
        refine r_if_eq (t := 138) dX12_lays_132 (by decide) (fun qc17 => ?_) (fun qc17 => ?_)
        · replace h := ifp h qc17
          refine r_aload_n dX12_lays_138 3 rfl ?_
          refine r_iload_n dX12_lays_139 1 rfl ?_
          refine r_aload_n dX12_lays_140 3 rfl ?_
          refine s_getR (b := 124) ok_X12 dX12_lays_141 (k := 24) (by decide) fl_X12_36 rfl rfl rfl ?_
          refine r_iload_n dX12_lays_144 2 rfl ?_
          obtain ⟨qg18, h⟩ := grd_at h
          refine s_iald dX12_lays_145 rfl (inb_of qg18) ?_
          refine r_iload dX12_lays_146 0 rfl ?_
          obtain ⟨rq20, qg19, h⟩ := bd_at h
          refine x_callV (Y := mX12_afterOf) (d' := 2) dX12_lays_148 ml_X12_316 yv_X12_afterOf (by omega) rfl rfl (by simp [Value.category]) (sR_is rfl rfl) (lc_X12_afterOf qg19) ?_
          refine r_istore (lo' := [(5, .int rq20), (4, .int x4), (1, .int x1), (3, .int x3), (0, .ref (ad 90))]) dX12_lays_151 (by decide) rfl ?_
          refine r_aload_n dX12_lays_153 4 rfl ?_
          refine s_getR (b := 125) ok_X12 dX12_lays_154 (k := 25) (by decide) fl_X12_39 rfl rfl rfl ?_
          refine r_iload_n dX12_lays_157 3 rfl ?_
          obtain ⟨qg21, h⟩ := grd_at h
          refine s_iald dX12_lays_158 rfl (inb_of qg21) ?_
          refine r_bipush (v := (-2)) dX12_lays_159 (by decide) ?_
          refine r_icmp_ne (t := 174) dX12_lays_161 (by decide) (fun qc22 => ?_) (fun qc22 => ?_)
          · replace h := ifn h qc22
            refine r_aload_n dX12_lays_174 4 rfl ?_
            refine r_iload_n dX12_lays_175 2 rfl ?_
            refine r_iload_n dX12_lays_176 3 rfl ?_
            refine r_iload dX12_lays_177 1 rfl ?_
            refine r_iload dX12_lays_179 0 rfl ?_
            obtain ⟨σ24, qg23, h⟩ := bd_at h
            refine x_callV0 (Y := mX12_goesFromPair) (d' := 3) dX12_lays_181 ml_X12_368 yv_X12_goesFromPair (by omega) rfl rfl (by simp [Value.category]) (sR_is rfl rfl) (lc_X12_goesFromPair qg23) ?_
            refine r_iinc (v := x4 + 1) (lo' := [(4, .int (x4 + 1)), (5, .int rq20), (1, .int x1), (3, .int x3), (0, .ref (ad 90))]) dX12_lays_184 1 rfl rfl (by decide) rfl ?_
            refine r_goto (t := 98) dX12_lays_187 (by decide) ?_
            exact ab_E.lo [0, 2, 3, 4] rfl (ih _ _ h)
          · replace h := ifp h qc22
            refine r_aload_n dX12_lays_164 4 rfl ?_
            refine r_iload_n dX12_lays_165 2 rfl ?_
            refine r_iload dX12_lays_166 0 rfl ?_
            obtain ⟨σ26, qg25, h⟩ := bd_at h
            refine x_callV0 (Y := mX12_goesFromSet) (d' := 3) dX12_lays_168 ml_X12_365 yv_X12_goesFromSet (by omega) rfl rfl (by simp [Value.category]) (sR_is rfl rfl) (lc_X12_goesFromSet qg25) ?_
            refine r_goto (t := 184) dX12_lays_171 (by decide) ?_
            refine r_iinc (v := x4 + 1) (lo' := [(4, .int (x4 + 1)), (5, .int rq20), (1, .int x1), (3, .int x3), (0, .ref (ad 90))]) dX12_lays_184 1 rfl rfl (by decide) rfl ?_
            refine r_goto (t := 98) dX12_lays_187 (by decide) ?_
            exact ab_E.lo [0, 2, 3, 4] rfl (ih _ _ h)
        · replace h := ifn h qc17
          refine r_goto (t := 184) dX12_lays_135 (by decide) ?_
          refine r_iinc (v := x4 + 1) (lo' := [(4, .int (x4 + 1)), (1, .int x1), (3, .int x3), (0, .ref (ad 90))]) dX12_lays_184 0 rfl rfl (by decide) rfl ?_
          refine r_goto (t := 98) dX12_lays_187 (by decide) ?_
          exact ab_E.lo [0, 1, 2, 3] rfl (ih _ _ h)
set_option maxRecDepth 8000 in
def L_X12_lays_80 (F : Nat) (x1 : Int32) (kx : sS → Option (Int32 × sS)) : Nat → Int32 → sS → Option (Int32 × sS)
  | 0, _, _ => none
  | n + 1, x3, σ => if (vI σ 90 33) ≤ x3 then (kx σ) else (if (vI σ 90 35) = 0 then (L_X12_lays_98 F x1 x3 (fun σ13 => L_X12_lays_80 F x1 kx n (x3 + 1) σ13) F 0 σ) else (kx σ))
set_option maxRecDepth 8000 in
theorem l_X12_lays_80 {ad : Nat → Nat} {F : Nat} {x1 : Int32} {z : (Int32 × sS)} {kx : sS → Option (Int32 × sS)} (hx : ∀  (σ : sS), kx σ = some z → ab_E (sR ad) mX12_lays 4 196 [(0, .ref (ad 90))] [] σ (fun r9 σ9 => r9 = some (.int z.1) ∧ σ9 = z.2)) : ∀ (n : Nat) (x3 : Int32) (σ : sS), L_X12_lays_80 F x1 kx n x3 σ = some z → ab_E (sR ad) mX12_lays 4 80 [(3, .int x3), (1, .int x1), (0, .ref (ad 90))] [] σ (fun r9 σ9 => r9 = some (.int z.1) ∧ σ9 = z.2) := by
  intro n
  induction n with
  | zero =>
    intro x3 σ h
    rw [L_X12_lays_80] at h
    cases h
  | succ n ih =>
    intro x3 σ h
    rw [L_X12_lays_80] at h
    refine r_iload_n dX12_lays_80 0 rfl ?_
    refine r_aload_n dX12_lays_81 2 rfl ?_
    refine s_getI ok_X12 dX12_lays_82 (k := 33) (by decide) fl_X12_334 rfl rfl ?_
    refine r_icmp_ge (t := 196) dX12_lays_85 (by decide) (fun qc11 => ?_) (fun qc11 => ?_)
    · replace h := ifp h qc11
      exact ab_E.lo [2] rfl (hx _ h)
    · replace h := ifn h qc11
      refine r_aload_n dX12_lays_88 2 rfl ?_
      refine s_getI ok_X12 dX12_lays_89 (k := 35) (by decide) fl_X12_337 rfl rfl ?_
      refine r_if_ne (t := 196) dX12_lays_92 (by decide) (fun qc12 => ?_) (fun qc12 => ?_)
      · replace h := ifn h qc12
        exact ab_E.lo [2] rfl (hx _ h)
      · replace h := ifp h qc12
        refine r_iconst (v := 0) dX12_lays_95 (by decide) ?_
        refine r_istore (lo' := [(4, .int 0), (3, .int x3), (1, .int x1), (0, .ref (ad 90))]) dX12_lays_96 (by decide) rfl ?_
        refine ab_E.lo [0, 2, 1, 3] rfl (l_X12_lays_98 (fun σ13 h => ?_) _ _ _ h)
        refine r_iinc (v := x3 + 1) (lo' := [(3, .int (x3 + 1)), (1, .int x1), (0, .ref (ad 90))]) dX12_lays_190 1 rfl rfl (by decide) rfl ?_
        refine r_goto (t := 80) dX12_lays_193 (by decide) ?_
        exact ab_E.lo [0, 1, 2] rfl (ih _ _ h)
set_option maxRecDepth 8000 in
def L_X12_lays_196 (F : Nat)  (σ : sS) : Option (Int32 × sS) := grd (inb ((3 : Int32) * (vI σ 90 33)) 901) (bnd (uI σ 130 ((3 : Int32) * (vI σ 90 33)).toNatClampNeg (vI σ 90 34)) (fun σ13 => if (vI σ13 90 35) = 0 then (some ((1, σ13))) else (some ((0, σ13)))))
set_option maxRecDepth 8000 in
theorem l_X12_lays_196 {ad : Nat → Nat} {F : Nat} {z : (Int32 × sS)}  (σ : sS) (h : L_X12_lays_196 F σ = some z) : ab_E (sR ad) mX12_lays 4 196 [(0, .ref (ad 90))] [] σ (fun r9 σ9 => r9 = some (.int z.1) ∧ σ9 = z.2) := by
  unfold L_X12_lays_196 at h
  refine r_aload_n dX12_lays_196 0 rfl ?_
  refine s_getR (b := 130) ok_X12 dX12_lays_197 (k := 30) (by decide) fl_X12_54 rfl rfl rfl ?_
  refine r_iconst (v := 3) dX12_lays_200 (by decide) ?_
  refine r_aload_n dX12_lays_201 0 rfl ?_
  refine s_getI ok_X12 dX12_lays_202 (k := 33) (by decide) fl_X12_334 rfl rfl ?_
  refine r_imul dX12_lays_205 ?_
  refine r_aload_n dX12_lays_206 0 rfl ?_
  refine s_getI ok_X12 dX12_lays_207 (k := 34) (by decide) fl_X12_341 rfl rfl ?_
  obtain ⟨qg12, h⟩ := grd_at h
  refine s_iast dX12_lays_210 rfl (inb_of qg12) ?_
  refine r_st (fun σ13 eσ13 => ?_)
  replace h := bnd_at h eσ13
  refine r_aload_n dX12_lays_211 0 rfl ?_
  refine s_getI ok_X12 dX12_lays_212 (k := 35) (by decide) fl_X12_337 rfl rfl ?_
  refine r_if_ne (t := 222) dX12_lays_215 (by decide) (fun qc14 => ?_) (fun qc14 => ?_)
  · replace h := ifn h qc14
    refine r_iconst (v := 0) dX12_lays_222 (by decide) ?_
    refine r_zret rfl (by decide) dX12_lays_223 ?_
    exact lfI h
  · replace h := ifp h qc14
    refine r_iconst (v := 1) dX12_lays_218 (by decide) ?_
    refine r_goto (t := 223) dX12_lays_219 (by decide) ?_
    refine r_zret rfl (by decide) dX12_lays_223 ?_
    exact lfI h
set_option maxRecDepth 8000 in
def L_X12_lays (F : Nat) (x1 : Int32) (σ : sS) : Option (Int32 × sS) := if (vI σ 90 32) = x1 then (if (vI σ 90 35) = 0 then (some ((1, σ))) else (some ((0, σ)))) else (bnd (uI σ 90 32 x1) (fun σ2 => bnd (uI σ2 90 35 0) (fun σ3 => bnd (uI σ3 90 33 0) (fun σ4 => bnd (uI σ4 90 34 0) (fun σ5 => L_X12_lays_43 F x1 (fun σ6 => grd (inb x1 6) (bd2 (L_X12_nodeOf F (vI σ6 115 x1.toNatClampNeg) (-2) 0 0 σ6) (fun rq9 σ10 => L_X12_lays_80 F x1 (fun σ11 => L_X12_lays_196 F σ11) F 0 σ10))) F 0 σ5)))))
set_option maxRecDepth 8000 in
theorem e_X12_lays {ad : Nat → Nat} {F : Nat} {x1 : Int32} {σ : sS} {z : (Int32 × sS)} (h : L_X12_lays F x1 σ = some z) : ab_E (sR ad) mX12_lays 4 0 [(0, .ref (ad 90)), (1, .int x1)] [] σ (fun r9 σ9 => r9 = some (.int z.1) ∧ σ9 = z.2) := by
  unfold L_X12_lays at h
  refine r_aload_n dX12_lays_0 0 rfl ?_
  refine s_getI ok_X12 dX12_lays_1 (k := 32) (by decide) fl_X12_61 rfl rfl ?_
  refine r_iload_n dX12_lays_4 1 rfl ?_
  refine r_icmp_ne (t := 21) dX12_lays_5 (by decide) (fun qc1 => ?_) (fun qc1 => ?_)
  · replace h := ifn h qc1
    refine r_aload_n dX12_lays_21 0 rfl ?_
    refine r_iload_n dX12_lays_22 1 rfl ?_
    refine s_putI ok_X12 dX12_lays_23 (k := 32) (by decide) fl_X12_61 rfl rfl rfl rfl rfl ?_
    refine r_st (fun σ2 eσ2 => ?_)
    replace h := bnd_at h eσ2
    refine r_aload_n dX12_lays_26 0 rfl ?_
    refine r_iconst (v := 0) dX12_lays_27 (by decide) ?_
    refine s_putI ok_X12 dX12_lays_28 (k := 35) (by decide) fl_X12_337 rfl (by decide) (by decide) rfl rfl ?_
    refine r_st (fun σ3 eσ3 => ?_)
    replace h := bnd_at h eσ3
    refine r_aload_n dX12_lays_31 0 rfl ?_
    refine r_iconst (v := 0) dX12_lays_32 (by decide) ?_
    refine s_putI ok_X12 dX12_lays_33 (k := 33) (by decide) fl_X12_334 rfl rfl rfl rfl rfl ?_
    refine r_st (fun σ4 eσ4 => ?_)
    replace h := bnd_at h eσ4
    refine r_aload_n dX12_lays_36 0 rfl ?_
    refine r_iconst (v := 0) dX12_lays_37 (by decide) ?_
    refine s_putI ok_X12 dX12_lays_38 (k := 34) (by decide) fl_X12_341 rfl rfl rfl rfl rfl ?_
    refine r_st (fun σ5 eσ5 => ?_)
    replace h := bnd_at h eσ5
    refine r_iconst (v := 0) dX12_lays_41 (by decide) ?_
    refine r_istore_n (lo' := [(2, .int 0), (0, .ref (ad 90)), (1, .int x1)]) dX12_lays_42 (by decide) rfl ?_
    refine ab_E.lo [0, 2, 1] rfl (l_X12_lays_43 (fun σ6 h => ?_) _ _ _ h)
    refine r_aload_n dX12_lays_63 1 rfl ?_
    refine r_aload_n dX12_lays_64 1 rfl ?_
    refine s_getR (b := 115) ok_X12 dX12_lays_65 (k := 15) (by decide) fl_X12_20 rfl rfl rfl ?_
    refine r_iload_n dX12_lays_68 0 rfl ?_
    obtain ⟨qg7, h⟩ := grd_at h
    refine s_iald dX12_lays_69 rfl (inb_of qg7) ?_
    refine r_bipush (v := (-2)) dX12_lays_70 (by decide) ?_
    refine r_iconst (v := 0) dX12_lays_72 (by decide) ?_
    refine r_iconst (v := 0) dX12_lays_73 (by decide) ?_
    obtain ⟨rq9, σ10, qg8, h⟩ := bd2_at h
    refine x_callV (Y := mX12_nodeOf) (d' := 1) dX12_lays_74 ml_X12_343 yv_X12_nodeOf (by omega) rfl rfl (by simp [Value.category]) (sR_is rfl rfl) (lc_X12_nodeOf qg8) ?_
    refine r_istore_n (lo' := [(2, .int rq9), (1, .int x1), (0, .ref (ad 90))]) dX12_lays_77 (by decide) rfl ?_
    refine r_iconst (v := 0) dX12_lays_78 (by decide) ?_
    refine r_istore_n (lo' := [(3, .int 0), (2, .int rq9), (1, .int x1), (0, .ref (ad 90))]) dX12_lays_79 (by decide) rfl ?_
    refine ab_E.lo [0, 2, 3] rfl (l_X12_lays_80 (fun σ11 h => ?_) _ _ _ h)
    exact ab_E.lo [0] rfl (l_X12_lays_196 _ h)
  · replace h := ifp h qc1
    refine r_aload_n dX12_lays_8 0 rfl ?_
    refine s_getI ok_X12 dX12_lays_9 (k := 35) (by decide) fl_X12_337 rfl rfl ?_
    refine r_if_ne (t := 19) dX12_lays_12 (by decide) (fun qc12 => ?_) (fun qc12 => ?_)
    · replace h := ifn h qc12
      refine r_iconst (v := 0) dX12_lays_19 (by decide) ?_
      refine r_zret rfl (by decide) dX12_lays_20 ?_
      exact lfI h
    · replace h := ifp h qc12
      refine r_iconst (v := 1) dX12_lays_15 (by decide) ?_
      refine r_goto (t := 20) dX12_lays_16 (by decide) ?_
      refine r_zret rfl (by decide) dX12_lays_20 ?_
      exact lfI h
set_option maxRecDepth 8000 in
theorem lc_X12_lays {ad : Nat → Nat} {F : Nat} {x1 : Int32} {σ τ : sS} {r : Int32} (h : L_X12_lays F x1 σ = some (r, τ)) : ab_X (sR ad) 4 mX12_lays [.ref (ad 90), .int x1] σ (some (.int r)) τ := ab_X.of (by decide) (Nat.le_of_ble_eq_true rfl) (e_X12_lays h)
set_option maxRecDepth 8000 in
def L_X12_edgesFrom (x1 : Int32) (x2 : Int32) (σ : sS) : Option Int32 := grd (inb ((((3 : Int32) * x1) + x2) + 1) 901) (grd (inb (((3 : Int32) * x1) + x2) 901) (some ((vI σ 130 ((((3 : Int32) * x1) + x2) + 1).toNatClampNeg) - (vI σ 130 (((3 : Int32) * x1) + x2).toNatClampNeg))))
set_option maxRecDepth 8000 in
theorem e_X12_edgesFrom {ad : Nat → Nat} {x1 : Int32} {x2 : Int32} {σ : sS} {z : Int32} (h : L_X12_edgesFrom x1 x2 σ = some z) : ab_E (sR ad) mX12_edgesFrom 1 0 [(0, .ref (ad 90)), (1, .int x1), (2, .int x2)] [] σ (fun r9 σ9 => r9 = some (.int z) ∧ σ9 = σ) := by
  unfold L_X12_edgesFrom at h
  refine r_aload_n dX12_edgesFrom_0 0 rfl ?_
  refine s_getR (b := 130) ok_X12 dX12_edgesFrom_1 (k := 30) (by decide) fl_X12_54 rfl rfl rfl ?_
  refine r_iconst (v := 3) dX12_edgesFrom_4 (by decide) ?_
  refine r_iload_n dX12_edgesFrom_5 1 rfl ?_
  refine r_imul dX12_edgesFrom_6 ?_
  refine r_iload_n dX12_edgesFrom_7 2 rfl ?_
  refine r_iadd dX12_edgesFrom_8 ?_
  refine r_iconst (v := 1) dX12_edgesFrom_9 (by decide) ?_
  refine r_iadd dX12_edgesFrom_10 ?_
  obtain ⟨qg1, h⟩ := grd_at h
  refine s_iald dX12_edgesFrom_11 rfl (inb_of qg1) ?_
  refine r_aload_n dX12_edgesFrom_12 0 rfl ?_
  refine s_getR (b := 130) ok_X12 dX12_edgesFrom_13 (k := 30) (by decide) fl_X12_54 rfl rfl rfl ?_
  refine r_iconst (v := 3) dX12_edgesFrom_16 (by decide) ?_
  refine r_iload_n dX12_edgesFrom_17 1 rfl ?_
  refine r_imul dX12_edgesFrom_18 ?_
  refine r_iload_n dX12_edgesFrom_19 2 rfl ?_
  refine r_iadd dX12_edgesFrom_20 ?_
  obtain ⟨qg2, h⟩ := grd_at h
  refine s_iald dX12_edgesFrom_21 rfl (inb_of qg2) ?_
  refine r_isub dX12_edgesFrom_22 ?_
  refine r_iret rfl dX12_edgesFrom_23 ?_
  exact lfP h
set_option maxRecDepth 8000 in
theorem lc_X12_edgesFrom {ad : Nat → Nat} {x1 : Int32} {x2 : Int32} {σ : sS} {r : Int32} (h : L_X12_edgesFrom x1 x2 σ = some r) : ab_X (sR ad) 1 mX12_edgesFrom [.ref (ad 90), .int x1, .int x2] σ (some (.int r)) σ := ab_X.of (by decide) (Nat.le_of_ble_eq_true rfl) (e_X12_edgesFrom h)
set_option maxRecDepth 8000 in
def L_X12_isFinalNode (x1 : Int32) (σ : sS) : Option Int32 := grd (inb x1 300) (if (vI σ 125 x1.toNatClampNeg) = ((-2)) then (grd (inb x1 300) (if (vI σ 124 x1.toNatClampNeg) = 0 then (some ((1 : Int32))) else (some ((0 : Int32))))) else (grd (inb x1 300) (if (vI σ 127 x1.toNatClampNeg) = 0 then (some ((1 : Int32))) else (some ((0 : Int32))))))
set_option maxRecDepth 8000 in
theorem e_X12_isFinalNode {ad : Nat → Nat} {x1 : Int32} {σ : sS} {z : Int32} (h : L_X12_isFinalNode x1 σ = some z) : ab_E (sR ad) mX12_isFinalNode 1 0 [(0, .ref (ad 90)), (1, .int x1)] [] σ (fun r9 σ9 => r9 = some (.int z) ∧ σ9 = σ) := by
  unfold L_X12_isFinalNode at h
  refine r_aload_n dX12_isFinalNode_0 0 rfl ?_
  refine s_getR (b := 125) ok_X12 dX12_isFinalNode_1 (k := 25) (by decide) fl_X12_39 rfl rfl rfl ?_
  refine r_iload_n dX12_isFinalNode_4 1 rfl ?_
  obtain ⟨qg1, h⟩ := grd_at h
  refine s_iald dX12_isFinalNode_5 rfl (inb_of qg1) ?_
  refine r_bipush (v := (-2)) dX12_isFinalNode_6 (by decide) ?_
  refine r_icmp_ne (t := 28) dX12_isFinalNode_8 (by decide) (fun qc2 => ?_) (fun qc2 => ?_)
  · replace h := ifn h qc2
    refine r_aload_n dX12_isFinalNode_28 0 rfl ?_
    refine s_getR (b := 127) ok_X12 dX12_isFinalNode_29 (k := 27) (by decide) fl_X12_45 rfl rfl rfl ?_
    refine r_iload_n dX12_isFinalNode_32 1 rfl ?_
    obtain ⟨qg3, h⟩ := grd_at h
    refine s_iald dX12_isFinalNode_33 rfl (inb_of qg3) ?_
    refine r_if_ne (t := 41) dX12_isFinalNode_34 (by decide) (fun qc4 => ?_) (fun qc4 => ?_)
    · replace h := ifn h qc4
      refine r_iconst (v := 0) dX12_isFinalNode_41 (by decide) ?_
      refine r_zret rfl (by decide) dX12_isFinalNode_42 ?_
      exact lfP h
    · replace h := ifp h qc4
      refine r_iconst (v := 1) dX12_isFinalNode_37 (by decide) ?_
      refine r_goto (t := 42) dX12_isFinalNode_38 (by decide) ?_
      refine r_zret rfl (by decide) dX12_isFinalNode_42 ?_
      exact lfP h
  · replace h := ifp h qc2
    refine r_aload_n dX12_isFinalNode_11 0 rfl ?_
    refine s_getR (b := 124) ok_X12 dX12_isFinalNode_12 (k := 24) (by decide) fl_X12_36 rfl rfl rfl ?_
    refine r_iload_n dX12_isFinalNode_15 1 rfl ?_
    obtain ⟨qg5, h⟩ := grd_at h
    refine s_iald dX12_isFinalNode_16 rfl (inb_of qg5) ?_
    refine r_if_ne (t := 24) dX12_isFinalNode_17 (by decide) (fun qc6 => ?_) (fun qc6 => ?_)
    · replace h := ifn h qc6
      refine r_iconst (v := 0) dX12_isFinalNode_24 (by decide) ?_
      refine r_goto (t := 42) dX12_isFinalNode_25 (by decide) ?_
      refine r_zret rfl (by decide) dX12_isFinalNode_42 ?_
      exact lfP h
    · replace h := ifp h qc6
      refine r_iconst (v := 1) dX12_isFinalNode_20 (by decide) ?_
      refine r_goto (t := 42) dX12_isFinalNode_21 (by decide) ?_
      refine r_zret rfl (by decide) dX12_isFinalNode_42 ?_
      exact lfP h
set_option maxRecDepth 8000 in
theorem lc_X12_isFinalNode {ad : Nat → Nat} {x1 : Int32} {σ : sS} {r : Int32} (h : L_X12_isFinalNode x1 σ = some r) : ab_X (sR ad) 1 mX12_isFinalNode [.ref (ad 90), .int x1] σ (some (.int r)) σ := ab_X.of (by decide) (Nat.le_of_ble_eq_true rfl) (e_X12_isFinalNode h)
set_option maxRecDepth 8000 in
def L_X12_complement (F : Nat) (x1 : Int32) (σ : sS) : Option (Int32 × sS) := bnd (uI σ 90 0 0) (fun σ1 => bd (L_X12_isAuto x1 σ1) (fun rq3 => if rq3 = 0 then (bd2 (L_X12_refused 1 σ1) (fun rq16 σ17 => some ((rq16, σ17)))) else (bd2 (L_X12_lays F x1 σ1) (fun rq6 σ7 => if rq6 = 0 then (bd2 (L_X12_refused 3 σ7) (fun rq10 σ11 => some ((rq10, σ11)))) else (bd2 (L_X12_good (vI σ7 90 33) σ7) (fun rq13 σ14 => some ((rq13, σ14))))))))
set_option maxRecDepth 8000 in
theorem e_X12_complement {ad : Nat → Nat} {F : Nat} {x1 : Int32} {σ : sS} {z : (Int32 × sS)} (h : L_X12_complement F x1 σ = some z) : ab_E (sR ad) mX12_complement 5 0 [(0, .ref (ad 90)), (1, .int x1)] [] σ (fun r9 σ9 => r9 = some (.int z.1) ∧ σ9 = z.2) := by
  unfold L_X12_complement at h
  refine r_aload_n dX12_complement_0 0 rfl ?_
  refine r_iconst (v := 0) dX12_complement_1 (by decide) ?_
  refine s_putI ok_X12 dX12_complement_2 (k := 0) (by decide) fl_X12_131 rfl rfl rfl rfl rfl ?_
  refine r_st (fun σ1 eσ1 => ?_)
  replace h := bnd_at h eσ1
  refine r_aload_n dX12_complement_5 0 rfl ?_
  refine r_iload_n dX12_complement_6 1 rfl ?_
  obtain ⟨rq3, qg2, h⟩ := bd_at h
  refine x_callV (Y := mX12_isAuto) (d' := 2) dX12_complement_7 ml_X12_291 yv_X12_isAuto (by omega) rfl rfl (by simp [Value.category]) (sR_is rfl rfl) (lc_X12_isAuto qg2) ?_
  refine r_if_ne (t := 19) dX12_complement_10 (by decide) (fun qc4 => ?_) (fun qc4 => ?_)
  · replace h := ifn h qc4
    refine r_aload_n dX12_complement_19 0 rfl ?_
    refine r_iload_n dX12_complement_20 1 rfl ?_
    obtain ⟨rq6, σ7, qg5, h⟩ := bd2_at h
    refine x_callV (Y := mX12_lays) (d' := 4) dX12_complement_21 ml_X12_372 yv_X12_lays (by omega) rfl rfl (by simp [Value.category]) (sR_is rfl rfl) (lc_X12_lays qg5) ?_
    refine r_if_eq (t := 38) dX12_complement_24 (by decide) (fun qc8 => ?_) (fun qc8 => ?_)
    · replace h := ifp h qc8
      refine r_aload_n dX12_complement_38 0 rfl ?_
      refine r_iconst (v := 3) dX12_complement_39 (by decide) ?_
      obtain ⟨rq10, σ11, qg9, h⟩ := bd2_at h
      refine x_callV (Y := mX12_refused) (d' := 1) dX12_complement_40 ml_X12_270 yv_X12_refused (by omega) rfl rfl (by simp [Value.category]) (sR_is rfl rfl) (lc_X12_refused qg9) ?_
      refine r_iret rfl dX12_complement_43 ?_
      exact lfI h
    · replace h := ifn h qc8
      refine r_aload_n dX12_complement_27 0 rfl ?_
      refine r_aload_n dX12_complement_28 0 rfl ?_
      refine s_getI ok_X12 dX12_complement_29 (k := 33) (by decide) fl_X12_334 rfl rfl ?_
      obtain ⟨rq13, σ14, qg12, h⟩ := bd2_at h
      refine x_callV (Y := mX12_good) (d' := 1) dX12_complement_32 ml_X12_288 yv_X12_good (by omega) rfl rfl (by simp [Value.category]) (sR_is rfl rfl) (lc_X12_good qg12) ?_
      refine r_goto (t := 43) dX12_complement_35 (by decide) ?_
      refine r_iret rfl dX12_complement_43 ?_
      exact lfI h
  · replace h := ifp h qc4
    refine r_aload_n dX12_complement_13 0 rfl ?_
    refine r_iconst (v := 1) dX12_complement_14 (by decide) ?_
    obtain ⟨rq16, σ17, qg15, h⟩ := bd2_at h
    refine x_callV (Y := mX12_refused) (d' := 1) dX12_complement_15 ml_X12_270 yv_X12_refused (by omega) rfl rfl (by simp [Value.category]) (sR_is rfl rfl) (lc_X12_refused qg15) ?_
    refine r_iret rfl dX12_complement_18 ?_
    exact lfI h
set_option maxRecDepth 8000 in
theorem lc_X12_complement {ad : Nat → Nat} {F : Nat} {x1 : Int32} {σ τ : sS} {r : Int32} (h : L_X12_complement F x1 σ = some (r, τ)) : ab_X (sR ad) 5 mX12_complement [.ref (ad 90), .int x1] σ (some (.int r)) τ := ab_X.of (by decide) (Nat.le_of_ble_eq_true rfl) (e_X12_complement h)
