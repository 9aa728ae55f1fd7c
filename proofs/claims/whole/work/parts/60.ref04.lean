/-! the reference, lifted, 4 -/
set_option maxRecDepth 8000 in
def L_X12_firstRanking_2 (F : Nat) (kx : sS → Option sS) : Nat → Int32 → sS → Option sS
  | 0, _, _ => none
  | n + 1, x1, σ => if 4 ≤ x1 then (kx σ) else (grd (inb x1 4) (bnd (uI σ 123 x1.toNatClampNeg 0) (fun σ3 => L_X12_firstRanking_2 F kx n (x1 + 1) σ3)))
set_option maxRecDepth 8000 in
theorem l_X12_firstRanking_2 {ad : Nat → Nat} {F : Nat} {z : sS} {kx : sS → Option sS} (hx : ∀  (σ : sS), kx σ = some z → ab_E (sR ad) mX12_firstRanking 1 20 [] [] σ (fun r9 σ9 => r9 = none ∧ σ9 = z)) : ∀ (n : Nat) (x1 : Int32) (σ : sS), L_X12_firstRanking_2 F kx n x1 σ = some z → ab_E (sR ad) mX12_firstRanking 1 2 [(1, .int x1), (0, .ref (ad 90))] [] σ (fun r9 σ9 => r9 = none ∧ σ9 = z) := by
  intro n
  induction n with
  | zero =>
    intro x1 σ h
    rw [L_X12_firstRanking_2] at h
    cases h
  | succ n ih =>
    intro x1 σ h
    rw [L_X12_firstRanking_2] at h
    refine r_iload_n dX12_firstRanking_2 0 rfl ?_
    refine r_iconst (v := 4) dX12_firstRanking_3 (by decide) ?_
    refine r_icmp_ge (t := 20) dX12_firstRanking_4 (by decide) (fun qc1 => ?_) (fun qc1 => ?_)
    · replace h := ifp h qc1
      exact ab_E.lo [] rfl (hx _ h)
    · replace h := ifn h qc1
      refine r_aload_n dX12_firstRanking_7 1 rfl ?_
      refine s_getR (b := 123) ok_X12 dX12_firstRanking_8 (k := 23) (by decide) fl_X12_33 rfl rfl rfl ?_
      refine r_iload_n dX12_firstRanking_11 0 rfl ?_
      refine r_iconst (v := 0) dX12_firstRanking_12 (by decide) ?_
      obtain ⟨qg2, h⟩ := grd_at h
      refine s_iast dX12_firstRanking_13 rfl (inb_of qg2) ?_
      refine r_st (fun σ3 eσ3 => ?_)
      replace h := bnd_at h eσ3
      refine r_iinc (v := x1 + 1) (lo' := [(1, .int (x1 + 1)), (0, .ref (ad 90))]) dX12_firstRanking_14 0 rfl rfl (by decide) rfl ?_
      refine r_goto (t := 2) dX12_firstRanking_17 (by decide) ?_
      exact ab_E.lo [0, 1] rfl (ih _ _ h)
set_option maxRecDepth 8000 in
def L_X12_firstRanking (F : Nat) (σ : sS) : Option sS := L_X12_firstRanking_2 F (fun σ1 => some σ1) F 0 σ
set_option maxRecDepth 8000 in
theorem e_X12_firstRanking {ad : Nat → Nat} {F : Nat}  {σ : sS} {z : sS} (h : L_X12_firstRanking F σ = some z) : ab_E (sR ad) mX12_firstRanking 1 0 [(0, .ref (ad 90))] [] σ (fun r9 σ9 => r9 = none ∧ σ9 = z) := by
  unfold L_X12_firstRanking at h
  refine r_iconst (v := 0) dX12_firstRanking_0 (by decide) ?_
  refine r_istore_n (lo' := [(1, .int 0), (0, .ref (ad 90))]) dX12_firstRanking_1 (by decide) rfl ?_
  refine ab_E.lo [0, 1] rfl (l_X12_firstRanking_2 (fun σ1 h => ?_) _ _ _ h)
  refine r_vret rfl dX12_firstRanking_20 ?_
  exact lfV h
set_option maxRecDepth 8000 in
theorem lc_X12_firstRanking {ad : Nat → Nat} {F : Nat}  {σ τ : sS} (h : L_X12_firstRanking F σ = some τ) : ab_X (sR ad) 1 mX12_firstRanking [.ref (ad 90)] σ none τ := ab_X.of (by decide) (Nat.le_of_ble_eq_true rfl) (e_X12_firstRanking h)
set_option maxRecDepth 8000 in
def L_X12_nextRanking_2 (F : Nat) (x1 : Int32) (x2 : Int32) (kx : sS → Option (Int32 × sS)) : Nat → Int32 → sS → Option (Int32 × sS)
  | 0, _, _ => none
  | n + 1, x3, σ => if x3 < 0 then (kx σ) else (if ((x1 >>> (x3 &&& 31)) &&& 1) = 0 then (L_X12_nextRanking_2 F x1 x2 kx n (x3 + (-1)) σ) else (grd (inb x3 4) (if x2 ≤ (vI σ 123 x3.toNatClampNeg) then (grd (inb x3 4) (bnd (uI σ 123 x3.toNatClampNeg 0) (fun σ6 => L_X12_nextRanking_2 F x1 x2 kx n (x3 + (-1)) σ6))) else (grd (inb x3 4) (grd (inb x3 4) (bnd (uI σ 123 x3.toNatClampNeg ((vI σ 123 x3.toNatClampNeg) + 1)) (fun σ9 => some ((1, σ9)))))))))
set_option maxRecDepth 8000 in
theorem l_X12_nextRanking_2 {ad : Nat → Nat} {F : Nat} {x1 : Int32} {x2 : Int32} {z : (Int32 × sS)} {kx : sS → Option (Int32 × sS)} (hx : ∀  (σ : sS), kx σ = some z → ab_E (sR ad) mX12_nextRanking 1 52 [] [] σ (fun r9 σ9 => r9 = some (.int z.1) ∧ σ9 = z.2)) : ∀ (n : Nat) (x3 : Int32) (σ : sS), L_X12_nextRanking_2 F x1 x2 kx n x3 σ = some z → ab_E (sR ad) mX12_nextRanking 1 2 [(3, .int x3), (1, .int x1), (2, .int x2), (0, .ref (ad 90))] [] σ (fun r9 σ9 => r9 = some (.int z.1) ∧ σ9 = z.2) := by
  intro n
  induction n with
  | zero =>
    intro x3 σ h
    rw [L_X12_nextRanking_2] at h
    cases h
  | succ n ih =>
    intro x3 σ h
    rw [L_X12_nextRanking_2] at h
    refine r_iload_n dX12_nextRanking_2 0 rfl ?_
    refine r_if_lt (t := 52) dX12_nextRanking_3 (by decide) (fun qc1 => ?_) (fun qc1 => ?_)
    · replace h := ifp h qc1
      exact ab_E.lo [] rfl (hx _ h)
    · replace h := ifn h qc1
      refine r_iload_n dX12_nextRanking_6 1 rfl ?_
      refine r_iload_n dX12_nextRanking_7 0 rfl ?_
      refine r_ishr dX12_nextRanking_8 ?_
      refine r_iconst (v := 1) dX12_nextRanking_9 (by decide) ?_
      refine r_iand dX12_nextRanking_10 ?_
      refine r_if_ne (t := 17) dX12_nextRanking_11 (by decide) (fun qc2 => ?_) (fun qc2 => ?_)
      · replace h := ifn h qc2
        refine r_aload_n dX12_nextRanking_17 3 rfl ?_
        refine s_getR (b := 123) ok_X12 dX12_nextRanking_18 (k := 23) (by decide) fl_X12_33 rfl rfl rfl ?_
        refine r_iload_n dX12_nextRanking_21 0 rfl ?_
        obtain ⟨qg3, h⟩ := grd_at h
        refine s_iald dX12_nextRanking_22 rfl (inb_of qg3) ?_
        refine r_iload_n dX12_nextRanking_23 2 rfl ?_
        refine r_icmp_ge (t := 39) dX12_nextRanking_24 (by decide) (fun qc4 => ?_) (fun qc4 => ?_)
        · replace h := ifp h qc4
          refine r_aload_n dX12_nextRanking_39 3 rfl ?_
          refine s_getR (b := 123) ok_X12 dX12_nextRanking_40 (k := 23) (by decide) fl_X12_33 rfl rfl rfl ?_
          refine r_iload_n dX12_nextRanking_43 0 rfl ?_
          refine r_iconst (v := 0) dX12_nextRanking_44 (by decide) ?_
          obtain ⟨qg5, h⟩ := grd_at h
          refine s_iast dX12_nextRanking_45 rfl (inb_of qg5) ?_
          refine r_st (fun σ6 eσ6 => ?_)
          replace h := bnd_at h eσ6
          refine r_iinc (v := x3 + (-1)) (lo' := [(3, .int (x3 + (-1))), (1, .int x1), (2, .int x2), (0, .ref (ad 90))]) dX12_nextRanking_46 0 rfl rfl (by decide) rfl ?_
          refine r_goto (t := 2) dX12_nextRanking_49 (by decide) ?_
          exact ab_E.lo [0, 1, 2, 3] rfl (ih _ _ h)
        · replace h := ifn h qc4
          refine r_aload_n dX12_nextRanking_27 3 rfl ?_
          refine s_getR (b := 123) ok_X12 dX12_nextRanking_28 (k := 23) (by decide) fl_X12_33 rfl rfl rfl ?_
          refine r_iload_n dX12_nextRanking_31 0 rfl ?_
          refine r_dup2 dX12_nextRanking_32 rfl rfl ?_
          obtain ⟨qg7, h⟩ := grd_at h
          refine s_iald dX12_nextRanking_33 rfl (inb_of qg7) ?_
          refine r_iconst (v := 1) dX12_nextRanking_34 (by decide) ?_
          refine r_iadd dX12_nextRanking_35 ?_
          obtain ⟨qg8, h⟩ := grd_at h
          refine s_iast dX12_nextRanking_36 rfl (inb_of qg8) ?_
          refine r_st (fun σ9 eσ9 => ?_)
          replace h := bnd_at h eσ9
          refine r_iconst (v := 1) dX12_nextRanking_37 (by decide) ?_
          refine r_zret rfl (by decide) dX12_nextRanking_38 ?_
          exact lfI h
      · replace h := ifp h qc2
        refine r_goto (t := 46) dX12_nextRanking_14 (by decide) ?_
        refine r_iinc (v := x3 + (-1)) (lo' := [(3, .int (x3 + (-1))), (1, .int x1), (2, .int x2), (0, .ref (ad 90))]) dX12_nextRanking_46 0 rfl rfl (by decide) rfl ?_
        refine r_goto (t := 2) dX12_nextRanking_49 (by decide) ?_
        exact ab_E.lo [0, 1, 2, 3] rfl (ih _ _ h)
set_option maxRecDepth 8000 in
def L_X12_nextRanking (F : Nat) (x1 : Int32) (x2 : Int32) (σ : sS) : Option (Int32 × sS) := L_X12_nextRanking_2 F x1 x2 (fun σ1 => some ((0, σ1))) F 3 σ
set_option maxRecDepth 8000 in
theorem e_X12_nextRanking {ad : Nat → Nat} {F : Nat} {x1 : Int32} {x2 : Int32} {σ : sS} {z : (Int32 × sS)} (h : L_X12_nextRanking F x1 x2 σ = some z) : ab_E (sR ad) mX12_nextRanking 1 0 [(0, .ref (ad 90)), (1, .int x1), (2, .int x2)] [] σ (fun r9 σ9 => r9 = some (.int z.1) ∧ σ9 = z.2) := by
  unfold L_X12_nextRanking at h
  refine r_iconst (v := 3) dX12_nextRanking_0 (by decide) ?_
  refine r_istore_n (lo' := [(3, .int 3), (0, .ref (ad 90)), (1, .int x1), (2, .int x2)]) dX12_nextRanking_1 (by decide) rfl ?_
  refine ab_E.lo [0, 2, 3, 1] rfl (l_X12_nextRanking_2 (fun σ1 h => ?_) _ _ _ h)
  refine r_iconst (v := 0) dX12_nextRanking_52 (by decide) ?_
  refine r_zret rfl (by decide) dX12_nextRanking_53 ?_
  exact lfI h
set_option maxRecDepth 8000 in
theorem lc_X12_nextRanking {ad : Nat → Nat} {F : Nat} {x1 : Int32} {x2 : Int32} {σ τ : sS} {r : Int32} (h : L_X12_nextRanking F x1 x2 σ = some (r, τ)) : ab_X (sR ad) 1 mX12_nextRanking [.ref (ad 90), .int x1, .int x2] σ (some (.int r)) τ := ab_X.of (by decide) (Nat.le_of_ble_eq_true rfl) (e_X12_nextRanking h)
set_option maxRecDepth 8000 in
def L_X12_isTight_84 (F : Nat) (x1 : Int32) (x2 : Int32) (x3 : Int32) (σ : sS) (kh : Int32 → Int32 → Int32 → Option Int32) (kx : Int32 → Int32 → Option Int32) (x4 : Int32) (x5 : Int32) (x6 : Int32) : Option Int32 := grd (inb x6 4) (if (vI σ 123 x6.toNatClampNeg) ≤ x5 then (kh x4 x5 (x6 + 1)) else (grd (inb x6 4) (bnd (vI σ 123 x6.toNatClampNeg) (fun yq10 => kh x4 yq10 (x6 + 1)))))
set_option maxRecDepth 8000 in
theorem l_X12_isTight_84 {ad : Nat → Nat} {F : Nat} {x1 : Int32} {x2 : Int32} {x3 : Int32} {σ : sS} {z : Int32} {kh : Int32 → Int32 → Int32 → Option Int32} (hh : ∀ (x4 : Int32) (x5 : Int32) (x6 : Int32), kh x4 x5 x6 = some z → ab_E (sR ad) mX12_isTight 1 9 [(4, .int x4), (5, .int x5), (6, .int x6), (1, .int x1), (2, .int x2), (3, .int x3), (0, .ref (ad 90))] [] σ (fun r9 σ9 => r9 = some (.int z) ∧ σ9 = σ)) {kx : Int32 → Int32 → Option Int32} (hx : ∀ (x4 : Int32) (x5 : Int32), kx x4 x5 = some z → ab_E (sR ad) mX12_isTight 1 116 [(4, .int x4), (5, .int x5), (3, .int x3)] [] σ (fun r9 σ9 => r9 = some (.int z) ∧ σ9 = σ)) (x4 : Int32) (x5 : Int32) (x6 : Int32) (h : L_X12_isTight_84 F x1 x2 x3 σ kh kx x4 x5 x6 = some z) : ab_E (sR ad) mX12_isTight 1 84 [(4, .int x4), (5, .int x5), (6, .int x6), (1, .int x1), (2, .int x2), (3, .int x3), (0, .ref (ad 90))] [] σ (fun r9 σ9 => r9 = some (.int z) ∧ σ9 = σ) := by
  unfold L_X12_isTight_84 at h
  refine r_aload_n dX12_isTight_84 6 rfl ?_
  refine s_getR (b := 123) ok_X12 dX12_isTight_85 (k := 23) (by decide) fl_X12_33 rfl rfl rfl ?_
  refine r_iload dX12_isTight_88 2 rfl ?_
  obtain ⟨qg7, h⟩ := grd_at h
  refine s_iald dX12_isTight_90 rfl (inb_of qg7) ?_
  refine r_iload dX12_isTight_91 1 rfl ?_
  refine r_icmp_le (t := 106) dX12_isTight_93 (by decide) (fun qc8 => ?_) (fun qc8 => ?_)
  · replace h := ifp h qc8
    refine r_iload dX12_isTight_106 1 rfl ?_
    refine r_istore (lo' := [(5, .int x5), (4, .int x4), (6, .int x6), (1, .int x1), (2, .int x2), (3, .int x3), (0, .ref (ad 90))]) dX12_isTight_108 (by decide) rfl ?_
    refine r_iinc (v := x6 + 1) (lo' := [(6, .int (x6 + 1)), (5, .int x5), (4, .int x4), (1, .int x1), (2, .int x2), (3, .int x3), (0, .ref (ad 90))]) dX12_isTight_110 2 rfl rfl (by decide) rfl ?_
    refine r_goto (t := 9) dX12_isTight_113 (by decide) ?_
    exact ab_E.lo [2, 1, 0, 3, 4, 5, 6] rfl (hh _ _ _ h)
  · replace h := ifn h qc8
    refine r_aload_n dX12_isTight_96 6 rfl ?_
    refine s_getR (b := 123) ok_X12 dX12_isTight_97 (k := 23) (by decide) fl_X12_33 rfl rfl rfl ?_
    refine r_iload dX12_isTight_100 2 rfl ?_
    obtain ⟨qg9, h⟩ := grd_at h
    refine s_iald dX12_isTight_102 rfl (inb_of qg9) ?_
    refine r_goto (t := 108) dX12_isTight_103 (by decide) ?_
    refine r_topi (fun yq10 eyq10 => ?_)
    replace h := bnd_at h eyq10
    refine r_istore (lo' := [(5, .int yq10), (4, .int x4), (6, .int x6), (1, .int x1), (2, .int x2), (3, .int x3), (0, .ref (ad 90))]) dX12_isTight_108 (by decide) rfl ?_
    refine r_iinc (v := x6 + 1) (lo' := [(6, .int (x6 + 1)), (5, .int yq10), (4, .int x4), (1, .int x1), (2, .int x2), (3, .int x3), (0, .ref (ad 90))]) dX12_isTight_110 2 rfl rfl (by decide) rfl ?_
    refine r_goto (t := 9) dX12_isTight_113 (by decide) ?_
    exact ab_E.lo [2, 1, 0, 3, 4, 5, 6] rfl (hh _ _ _ h)
set_option maxRecDepth 8000 in
def L_X12_isTight_57 (F : Nat) (x1 : Int32) (x2 : Int32) (x3 : Int32) (σ : sS) (kh : Int32 → Int32 → Int32 → Option Int32) (kx : Int32 → Int32 → Option Int32) (x4 : Int32) (x5 : Int32) (x6 : Int32) : Option Int32 := grd (inb x6 4) (if ((vI σ 123 x6.toNatClampNeg) - (vI σ 123 x6.toNatClampNeg) / 2 * 2) = 1 then (grd (inb x6 4) (bnd (x4 ||| ((1 : Int32) <<< ((vI σ 123 x6.toNatClampNeg) &&& 31))) (fun yq8 => L_X12_isTight_84 F x1 x2 x3 σ kh kx yq8 x5 x6))) else (L_X12_isTight_84 F x1 x2 x3 σ kh kx x4 x5 x6))
set_option maxRecDepth 8000 in
theorem l_X12_isTight_57 {ad : Nat → Nat} {F : Nat} {x1 : Int32} {x2 : Int32} {x3 : Int32} {σ : sS} {z : Int32} {kh : Int32 → Int32 → Int32 → Option Int32} (hh : ∀ (x4 : Int32) (x5 : Int32) (x6 : Int32), kh x4 x5 x6 = some z → ab_E (sR ad) mX12_isTight 1 9 [(4, .int x4), (5, .int x5), (6, .int x6), (1, .int x1), (2, .int x2), (3, .int x3), (0, .ref (ad 90))] [] σ (fun r9 σ9 => r9 = some (.int z) ∧ σ9 = σ)) {kx : Int32 → Int32 → Option Int32} (hx : ∀ (x4 : Int32) (x5 : Int32), kx x4 x5 = some z → ab_E (sR ad) mX12_isTight 1 116 [(4, .int x4), (5, .int x5), (3, .int x3)] [] σ (fun r9 σ9 => r9 = some (.int z) ∧ σ9 = σ)) (x4 : Int32) (x5 : Int32) (x6 : Int32) (h : L_X12_isTight_57 F x1 x2 x3 σ kh kx x4 x5 x6 = some z) : ab_E (sR ad) mX12_isTight 1 57 [(4, .int x4), (5, .int x5), (6, .int x6), (1, .int x1), (2, .int x2), (3, .int x3), (0, .ref (ad 90))] [] σ (fun r9 σ9 => r9 = some (.int z) ∧ σ9 = σ) := by
  unfold L_X12_isTight_57 at h
  refine r_aload_n dX12_isTight_57 6 rfl ?_
  refine s_getR (b := 123) ok_X12 dX12_isTight_58 (k := 23) (by decide) fl_X12_33 rfl rfl rfl ?_
  refine r_iload dX12_isTight_61 2 rfl ?_
  obtain ⟨qg5, h⟩ := grd_at h
  refine s_iald dX12_isTight_63 rfl (inb_of qg5) ?_
  refine r_iconst (v := 2) dX12_isTight_64 (by decide) ?_
  refine r_irem dX12_isTight_65 (by decide) ?_
  refine r_iconst (v := 1) dX12_isTight_66 (by decide) ?_
  refine r_icmp_ne (t := 84) dX12_isTight_67 (by decide) (fun qc6 => ?_) (fun qc6 => ?_)
  · replace h := ifn h qc6
    exact ab_E.lo [0, 1, 2, 3, 4, 5, 6] rfl (l_X12_isTight_84 hh hx _ _ _ h)
  · replace h := ifp h qc6
    refine r_iload dX12_isTight_70 0 rfl ?_
    refine r_iconst (v := 1) dX12_isTight_72 (by decide) ?_
    refine r_aload_n dX12_isTight_73 6 rfl ?_
    refine s_getR (b := 123) ok_X12 dX12_isTight_74 (k := 23) (by decide) fl_X12_33 rfl rfl rfl ?_
    refine r_iload dX12_isTight_77 2 rfl ?_
    obtain ⟨qg7, h⟩ := grd_at h
    refine s_iald dX12_isTight_79 rfl (inb_of qg7) ?_
    refine r_ishl dX12_isTight_80 ?_
    refine r_ior dX12_isTight_81 ?_
    refine r_topi (fun yq8 eyq8 => ?_)
    replace h := bnd_at h eyq8
    refine r_istore (lo' := [(4, .int yq8), (5, .int x5), (6, .int x6), (1, .int x1), (2, .int x2), (3, .int x3), (0, .ref (ad 90))]) dX12_isTight_82 (by decide) rfl ?_
    exact ab_E.lo [0, 1, 2, 3, 4, 5, 6] rfl (l_X12_isTight_84 hh hx _ _ _ h)
set_option maxRecDepth 8000 in
def L_X12_isTight_9 (F : Nat) (x1 : Int32) (x2 : Int32) (x3 : Int32) (σ : sS) (kx : Int32 → Int32 → Option Int32) : Nat → Int32 → Int32 → Int32 → Option Int32
  | 0, _, _, _ => none
  | n + 1, x4, x5, x6 => if 4 ≤ x6 then (kx x4 x5) else (if ((x2 >>> (x6 &&& 31)) &&& 1) = 0 then (L_X12_isTight_9 F x1 x2 x3 σ kx n x4 x5 (x6 + 1)) else (grd (inb x6 4) (if ((vI σ 123 x6.toNatClampNeg) - (vI σ 123 x6.toNatClampNeg) / 2 * 2) = 1 then (grd (inb x1 6) (if (((vI σ 116 x1.toNatClampNeg) >>> (x6 &&& 31)) &&& 1) = 1 then (some ((0 : Int32))) else (L_X12_isTight_57 F x1 x2 x3 σ (L_X12_isTight_9 F x1 x2 x3 σ kx n) kx x4 x5 x6))) else (L_X12_isTight_57 F x1 x2 x3 σ (L_X12_isTight_9 F x1 x2 x3 σ kx n) kx x4 x5 x6))))
set_option maxRecDepth 8000 in
theorem l_X12_isTight_9 {ad : Nat → Nat} {F : Nat} {x1 : Int32} {x2 : Int32} {x3 : Int32} {σ : sS} {z : Int32} {kx : Int32 → Int32 → Option Int32} (hx : ∀ (x4 : Int32) (x5 : Int32), kx x4 x5 = some z → ab_E (sR ad) mX12_isTight 1 116 [(4, .int x4), (5, .int x5), (3, .int x3)] [] σ (fun r9 σ9 => r9 = some (.int z) ∧ σ9 = σ)) : ∀ (n : Nat) (x4 : Int32) (x5 : Int32) (x6 : Int32), L_X12_isTight_9 F x1 x2 x3 σ kx n x4 x5 x6 = some z → ab_E (sR ad) mX12_isTight 1 9 [(4, .int x4), (5, .int x5), (6, .int x6), (1, .int x1), (2, .int x2), (3, .int x3), (0, .ref (ad 90))] [] σ (fun r9 σ9 => r9 = some (.int z) ∧ σ9 = σ) := by
  intro n
  induction n with
  | zero =>
    intro x4 x5 x6 h
    rw [L_X12_isTight_9] at h
    cases h
  | succ n ih =>
    intro x4 x5 x6 h
    rw [L_X12_isTight_9] at h
    refine r_iload dX12_isTight_9 2 rfl ?_
    refine r_iconst (v := 4) dX12_isTight_11 (by decide) ?_
    refine r_icmp_ge (t := 116) dX12_isTight_12 (by decide) (fun qc1 => ?_) (fun qc1 => ?_)
    · replace h := ifp h qc1
      exact ab_E.lo [0, 1, 5] rfl (hx _ _ h)
    · replace h := ifn h qc1
      refine r_iload_n dX12_isTight_15 4 rfl ?_
      refine r_iload dX12_isTight_16 2 rfl ?_
      refine r_ishr dX12_isTight_18 ?_
      refine r_iconst (v := 1) dX12_isTight_19 (by decide) ?_
      refine r_iand dX12_isTight_20 ?_
      refine r_if_ne (t := 27) dX12_isTight_21 (by decide) (fun qc2 => ?_) (fun qc2 => ?_)
      · replace h := ifn h qc2
        refine r_aload_n dX12_isTight_27 6 rfl ?_
        refine s_getR (b := 123) ok_X12 dX12_isTight_28 (k := 23) (by decide) fl_X12_33 rfl rfl rfl ?_
        refine r_iload dX12_isTight_31 2 rfl ?_
        obtain ⟨qg3, h⟩ := grd_at h
        refine s_iald dX12_isTight_33 rfl (inb_of qg3) ?_
        refine r_iconst (v := 2) dX12_isTight_34 (by decide) ?_
        refine r_irem dX12_isTight_35 (by decide) ?_
        refine r_iconst (v := 1) dX12_isTight_36 (by decide) ?_
        refine r_icmp_ne (t := 57) dX12_isTight_37 (by decide) (fun qc4 => ?_) (fun qc4 => ?_)
        · replace h := ifn h qc4
          exact ab_E.lo [0, 1, 2, 3, 4, 5, 6] rfl (l_X12_isTight_57 ih hx _ _ _ h)
        · replace h := ifp h qc4
          refine r_aload_n dX12_isTight_40 6 rfl ?_
          refine s_getR (b := 116) ok_X12 dX12_isTight_41 (k := 16) (by decide) fl_X12_23 rfl rfl rfl ?_
          refine r_iload_n dX12_isTight_44 3 rfl ?_
          obtain ⟨qg5, h⟩ := grd_at h
          refine s_iald dX12_isTight_45 rfl (inb_of qg5) ?_
          refine r_iload dX12_isTight_46 2 rfl ?_
          refine r_ishr dX12_isTight_48 ?_
          refine r_iconst (v := 1) dX12_isTight_49 (by decide) ?_
          refine r_iand dX12_isTight_50 ?_
          refine r_iconst (v := 1) dX12_isTight_51 (by decide) ?_
          refine r_icmp_ne (t := 57) dX12_isTight_52 (by decide) (fun qc6 => ?_) (fun qc6 => ?_)
          · replace h := ifn h qc6
            exact ab_E.lo [0, 1, 2, 3, 4, 5, 6] rfl (l_X12_isTight_57 ih hx _ _ _ h)
          · replace h := ifp h qc6
            refine r_iconst (v := 0) dX12_isTight_55 (by decide) ?_
            refine r_zret rfl (by decide) dX12_isTight_56 ?_
            exact lfP h
      · replace h := ifp h qc2
        refine r_goto (t := 110) dX12_isTight_24 (by decide) ?_
        refine r_iinc (v := x6 + 1) (lo' := [(6, .int (x6 + 1)), (4, .int x4), (5, .int x5), (1, .int x1), (2, .int x2), (3, .int x3), (0, .ref (ad 90))]) dX12_isTight_110 2 rfl rfl (by decide) rfl ?_
        refine r_goto (t := 9) dX12_isTight_113 (by decide) ?_
        exact ab_E.lo [1, 2, 0, 3, 4, 5, 6] rfl (ih _ _ _ h)
set_option maxRecDepth 8000 in
def L_X12_isTight_119 (F : Nat) (x3 : Int32) (x4 : Int32) (x5 : Int32) (σ : sS) (kx : Option Int32) : Nat → Int32 → Option Int32
  | 0, _ => none
  | n + 1, x6 => if x3 < x6 then (kx) else (if ((x4 >>> (x6 &&& 31)) &&& 1) = 0 then (some ((0 : Int32))) else (L_X12_isTight_119 F x3 x4 x5 σ kx n (x6 + 2)))
set_option maxRecDepth 8000 in
theorem l_X12_isTight_119 {ad : Nat → Nat} {F : Nat} {x3 : Int32} {x4 : Int32} {x5 : Int32} {σ : sS} {z : Int32} {kx : Option Int32} (hx : kx  = some z → ab_E (sR ad) mX12_isTight 1 143 [(3, .int x3), (5, .int x5)] [] σ (fun r9 σ9 => r9 = some (.int z) ∧ σ9 = σ)) : ∀ (n : Nat) (x6 : Int32), L_X12_isTight_119 F x3 x4 x5 σ kx n x6 = some z → ab_E (sR ad) mX12_isTight 1 119 [(6, .int x6), (3, .int x3), (4, .int x4), (5, .int x5)] [] σ (fun r9 σ9 => r9 = some (.int z) ∧ σ9 = σ) := by
  intro n
  induction n with
  | zero =>
    intro x6 h
    rw [L_X12_isTight_119] at h
    cases h
  | succ n ih =>
    intro x6 h
    rw [L_X12_isTight_119] at h
    refine r_iload dX12_isTight_119 0 rfl ?_
    refine r_iload_n dX12_isTight_121 1 rfl ?_
    refine r_icmp_gt (t := 143) dX12_isTight_122 (by decide) (fun qc3 => ?_) (fun qc3 => ?_)
    · replace h := ifp h qc3
      exact ab_E.lo [1, 3] rfl (hx  h)
    · replace h := ifn h qc3
      refine r_iload dX12_isTight_125 2 rfl ?_
      refine r_iload dX12_isTight_127 0 rfl ?_
      refine r_ishr dX12_isTight_129 ?_
      refine r_iconst (v := 1) dX12_isTight_130 (by decide) ?_
      refine r_iand dX12_isTight_131 ?_
      refine r_if_ne (t := 137) dX12_isTight_132 (by decide) (fun qc4 => ?_) (fun qc4 => ?_)
      · replace h := ifn h qc4
        refine r_iinc (v := x6 + 2) (lo' := [(6, .int (x6 + 2)), (3, .int x3), (4, .int x4), (5, .int x5)]) dX12_isTight_137 0 rfl rfl (by decide) rfl ?_
        refine r_goto (t := 119) dX12_isTight_140 (by decide) ?_
        exact ab_E.lo [0, 1, 2, 3] rfl (ih _ h)
      · replace h := ifp h qc4
        refine r_iconst (v := 0) dX12_isTight_135 (by decide) ?_
        refine r_zret rfl (by decide) dX12_isTight_136 ?_
        exact lfP h
set_option maxRecDepth 8000 in
def L_X12_isTight (F : Nat) (x1 : Int32) (x2 : Int32) (x3 : Int32) (σ : sS) : Option Int32 := L_X12_isTight_9 F x1 x2 x3 σ (fun yq1 yq2 => L_X12_isTight_119 F x3 yq1 yq2 σ (if yq2 = x3 then (some ((1 : Int32))) else (some ((0 : Int32)))) F 1) F 0 ((-1)) 0
set_option maxRecDepth 8000 in
theorem e_X12_isTight {ad : Nat → Nat} {F : Nat} {x1 : Int32} {x2 : Int32} {x3 : Int32} {σ : sS} {z : Int32} (h : L_X12_isTight F x1 x2 x3 σ = some z) : ab_E (sR ad) mX12_isTight 1 0 [(0, .ref (ad 90)), (1, .int x1), (2, .int x2), (3, .int x3)] [] σ (fun r9 σ9 => r9 = some (.int z) ∧ σ9 = σ) := by
  unfold L_X12_isTight at h
  refine r_iconst (v := 0) dX12_isTight_0 (by decide) ?_
  refine r_istore (lo' := [(4, .int 0), (0, .ref (ad 90)), (1, .int x1), (2, .int x2), (3, .int x3)]) dX12_isTight_1 (by decide) rfl ?_
  refine r_iconst (v := (-1)) dX12_isTight_3 (by decide) ?_
  refine r_istore (lo' := [(5, .int ((-1))), (4, .int 0), (0, .ref (ad 90)), (1, .int x1), (2, .int x2), (3, .int x3)]) dX12_isTight_4 (by decide) rfl ?_
  refine r_iconst (v := 0) dX12_isTight_6 (by decide) ?_
  refine r_istore (lo' := [(6, .int 0), (5, .int ((-1))), (4, .int 0), (0, .ref (ad 90)), (1, .int x1), (2, .int x2), (3, .int x3)]) dX12_isTight_7 (by decide) rfl ?_
  refine ab_E.lo [2, 1, 0, 4, 5, 6, 3] rfl (l_X12_isTight_9 (fun yq1 yq2 h => ?_) _ _ _ _ h)
  refine r_iconst (v := 1) dX12_isTight_116 (by decide) ?_
  refine r_istore (lo' := [(6, .int 1), (4, .int yq1), (5, .int yq2), (3, .int x3)]) dX12_isTight_117 (by decide) rfl ?_
  refine ab_E.lo [0, 3, 1, 2] rfl (l_X12_isTight_119 (fun h => ?_) _ _ h)
  refine r_iload dX12_isTight_143 1 rfl ?_
  refine r_iload_n dX12_isTight_145 0 rfl ?_
  refine r_icmp_ne (t := 153) dX12_isTight_146 (by decide) (fun qc3 => ?_) (fun qc3 => ?_)
  · replace h := ifn h qc3
    refine r_iconst (v := 0) dX12_isTight_153 (by decide) ?_
    refine r_zret rfl (by decide) dX12_isTight_154 ?_
    exact lfP h
  · replace h := ifp h qc3
    refine r_iconst (v := 1) dX12_isTight_149 (by decide) ?_
    refine r_goto (t := 154) dX12_isTight_150 (by decide) ?_
    refine r_zret rfl (by decide) dX12_isTight_154 ?_
    exact lfP h
set_option maxRecDepth 8000 in
theorem lc_X12_isTight {ad : Nat → Nat} {F : Nat} {x1 : Int32} {x2 : Int32} {x3 : Int32} {σ : sS} {r : Int32} (h : L_X12_isTight F x1 x2 x3 σ = some r) : ab_X (sR ad) 1 mX12_isTight [.ref (ad 90), .int x1, .int x2, .int x3] σ (some (.int r)) σ := ab_X.of (by decide) (Nat.le_of_ble_eq_true rfl) (e_X12_isTight h)
set_option maxRecDepth 8000 in
def L_X12_isOddRank (x0 : Int32) : Option Int32 := if (L_X12_in x0 1 7) = 0 then (some ((0 : Int32))) else (if (x0 - x0 / 2 * 2) = 1 then (some ((1 : Int32))) else (some ((0 : Int32))))
set_option maxRecDepth 8000 in
theorem e_X12_isOddRank {ad : Nat → Nat} {x0 : Int32} {σ : sS} {z : Int32} (h : L_X12_isOddRank x0 = some z) : ab_E (sR ad) mX12_isOddRank 2 0 [(0, .int x0)] [] σ (fun r9 σ9 => r9 = some (.int z) ∧ σ9 = σ) := by
  unfold L_X12_isOddRank at h
  refine r_iload_n dX12_isOddRank_0 0 rfl ?_
  refine r_iconst (v := 1) dX12_isOddRank_1 (by decide) ?_
  refine r_bipush (v := 7) dX12_isOddRank_2 (by decide) ?_
  refine x_callS (Y := mX12_in) (d' := 1) dX12_isOddRank_4 ml_X12_156 ys_X12_in (by omega) rfl rfl (by simp [Value.category]) (lc_X12_in x0 1 7 σ) ?_
  refine r_if_eq (t := 21) dX12_isOddRank_7 (by decide) (fun qc1 => ?_) (fun qc1 => ?_)
  · replace h := ifp h qc1
    refine r_iconst (v := 0) dX12_isOddRank_21 (by decide) ?_
    refine r_zret rfl (by decide) dX12_isOddRank_22 ?_
    exact lfP h
  · replace h := ifn h qc1
    refine r_iload_n dX12_isOddRank_10 0 rfl ?_
    refine r_iconst (v := 2) dX12_isOddRank_11 (by decide) ?_
    refine r_irem dX12_isOddRank_12 (by decide) ?_
    refine r_iconst (v := 1) dX12_isOddRank_13 (by decide) ?_
    refine r_icmp_ne (t := 21) dX12_isOddRank_14 (by decide) (fun qc2 => ?_) (fun qc2 => ?_)
    · replace h := ifn h qc2
      refine r_iconst (v := 0) dX12_isOddRank_21 (by decide) ?_
      refine r_zret rfl (by decide) dX12_isOddRank_22 ?_
      exact lfP h
    · replace h := ifp h qc2
      refine r_iconst (v := 1) dX12_isOddRank_17 (by decide) ?_
      refine r_goto (t := 22) dX12_isOddRank_18 (by decide) ?_
      refine r_zret rfl (by decide) dX12_isOddRank_22 ?_
      exact lfP h
set_option maxRecDepth 8000 in
theorem lc_X12_isOddRank {ad : Nat → Nat} {x0 : Int32} {σ : sS} {r : Int32} (h : L_X12_isOddRank x0 = some r) : ab_X (sR ad) 2 mX12_isOddRank [.int x0] σ (some (.int r)) σ := ab_X.of (by decide) (Nat.le_of_ble_eq_true rfl) (e_X12_isOddRank h)
set_option maxRecDepth 8000 in
def L_X12_boundOf (x1 : Int32) (x2 : Int32) (σ : sS) : Option Int32 := grd (inb x1 6) (some (((2 : Int32) * (bc (x2 &&& ((vI σ 116 x1.toNatClampNeg) ^^^ ((-1)))))) - 1))
set_option maxRecDepth 8000 in
theorem e_X12_boundOf {ad : Nat → Nat} {x1 : Int32} {x2 : Int32} {σ : sS} {z : Int32} (h : L_X12_boundOf x1 x2 σ = some z) : ab_E (sR ad) mX12_boundOf 2 0 [(0, .ref (ad 90)), (1, .int x1), (2, .int x2)] [] σ (fun r9 σ9 => r9 = some (.int z) ∧ σ9 = σ) := by
  unfold L_X12_boundOf at h
  refine r_iconst (v := 2) dX12_boundOf_0 (by decide) ?_
  refine r_iload_n dX12_boundOf_1 2 rfl ?_
  refine r_aload_n dX12_boundOf_2 0 rfl ?_
  refine s_getR (b := 116) ok_X12 dX12_boundOf_3 (k := 16) (by decide) fl_X12_23 rfl rfl rfl ?_
  refine r_iload_n dX12_boundOf_6 1 rfl ?_
  obtain ⟨qg1, h⟩ := grd_at h
  refine s_iald dX12_boundOf_7 rfl (inb_of qg1) ?_
  refine r_iconst (v := (-1)) dX12_boundOf_8 (by decide) ?_
  refine r_ixor dX12_boundOf_9 ?_
  refine r_iand dX12_boundOf_10 ?_
  refine x_callS (Y := mJ6_bitCount_0f7a4) (d' := 1) dX12_boundOf_11 ml_X12_297 ys_J6_bitCount_0f7a4 (by omega) rfl rfl (by simp [Value.category]) (c_J6_bitCount_0f7a4 σ (x2 &&& ((vI σ 116 x1.toNatClampNeg) ^^^ ((-1))))) ?_
  refine r_imul dX12_boundOf_14 ?_
  refine r_iconst (v := 1) dX12_boundOf_15 (by decide) ?_
  refine r_isub dX12_boundOf_16 ?_
  refine r_iret rfl dX12_boundOf_17 ?_
  exact lfP h
set_option maxRecDepth 8000 in
theorem lc_X12_boundOf {ad : Nat → Nat} {x1 : Int32} {x2 : Int32} {σ : sS} {r : Int32} (h : L_X12_boundOf x1 x2 σ = some r) : ab_X (sR ad) 2 mX12_boundOf [.ref (ad 90), .int x1, .int x2] σ (some (.int r)) σ := ab_X.of (by decide) (Nat.le_of_ble_eq_true rfl) (e_X12_boundOf h)
set_option maxRecDepth 8000 in
def L_X12_bound (x1 : Int32) (x2 : Int32) (σ : sS) : Option (Int32 × sS) := bnd (uI σ 90 0 0) (fun σ1 => bd (L_X12_isAuto x1 σ1) (fun rq3 => if rq3 = 0 then (bd2 (L_X12_refused 1 σ1) (fun rq23 σ24 => some ((rq23, σ24)))) else (bd (L_X12_isSet x1 x2 σ1) (fun rq6 => if rq6 = 0 then (bd2 (L_X12_refused 2 σ1) (fun rq20 σ21 => some ((rq20, σ21)))) else (bd (L_X12_boundOf x1 x2 σ1) (fun rq9 => if 0 ≤ rq9 then (bd (L_X12_boundOf x1 x2 σ1) (fun rq12 => bd2 (L_X12_good rq12 σ1) (fun rq14 σ15 => some ((rq14, σ15))))) else (bd2 (L_X12_good (-2) σ1) (fun rq17 σ18 => some ((rq17, σ18))))))))))
set_option maxRecDepth 8000 in
theorem e_X12_bound {ad : Nat → Nat} {x1 : Int32} {x2 : Int32} {σ : sS} {z : (Int32 × sS)} (h : L_X12_bound x1 x2 σ = some z) : ab_E (sR ad) mX12_bound 3 0 [(0, .ref (ad 90)), (1, .int x1), (2, .int x2)] [] σ (fun r9 σ9 => r9 = some (.int z.1) ∧ σ9 = z.2) := by
  unfold L_X12_bound at h
  refine r_aload_n dX12_bound_0 0 rfl ?_
  refine r_iconst (v := 0) dX12_bound_1 (by decide) ?_
  refine s_putI ok_X12 dX12_bound_2 (k := 0) (by decide) fl_X12_131 rfl rfl rfl rfl rfl ?_
  refine r_st (fun σ1 eσ1 => ?_)
  replace h := bnd_at h eσ1
  refine r_aload_n dX12_bound_5 0 rfl ?_
  refine r_iload_n dX12_bound_6 1 rfl ?_
  obtain ⟨rq3, qg2, h⟩ := bd_at h
  refine x_callV (Y := mX12_isAuto) (d' := 2) dX12_bound_7 ml_X12_291 yv_X12_isAuto (by omega) rfl rfl (by simp [Value.category]) (sR_is rfl rfl) (lc_X12_isAuto qg2) ?_
  refine r_if_ne (t := 19) dX12_bound_10 (by decide) (fun qc4 => ?_) (fun qc4 => ?_)
  · replace h := ifn h qc4
    refine r_aload_n dX12_bound_19 0 rfl ?_
    refine r_iload_n dX12_bound_20 1 rfl ?_
    refine r_iload_n dX12_bound_21 2 rfl ?_
    obtain ⟨rq6, qg5, h⟩ := bd_at h
    refine x_callV (Y := mX12_isSet) (d' := 2) dX12_bound_22 ml_X12_313 yv_X12_isSet (by omega) rfl rfl (by simp [Value.category]) (sR_is rfl rfl) (lc_X12_isSet qg5) ?_
    refine r_if_ne (t := 34) dX12_bound_25 (by decide) (fun qc7 => ?_) (fun qc7 => ?_)
    · replace h := ifn h qc7
      refine r_aload_n dX12_bound_34 0 rfl ?_
      refine r_aload_n dX12_bound_35 0 rfl ?_
      refine r_iload_n dX12_bound_36 1 rfl ?_
      refine r_iload_n dX12_bound_37 2 rfl ?_
      obtain ⟨rq9, qg8, h⟩ := bd_at h
      refine x_callV (Y := mX12_boundOf) (d' := 2) dX12_bound_38 ml_X12_319 yv_X12_boundOf (by omega) rfl rfl (by simp [Value.category]) (sR_is rfl rfl) (lc_X12_boundOf qg8) ?_
      refine r_if_ge (t := 49) dX12_bound_41 (by decide) (fun qc10 => ?_) (fun qc10 => ?_)
      · replace h := ifp h qc10
        refine r_aload_n dX12_bound_49 0 rfl ?_
        refine r_iload_n dX12_bound_50 1 rfl ?_
        refine r_iload_n dX12_bound_51 2 rfl ?_
        obtain ⟨rq12, qg11, h⟩ := bd_at h
        refine x_callV (Y := mX12_boundOf) (d' := 2) dX12_bound_52 ml_X12_319 yv_X12_boundOf (by omega) rfl rfl (by simp [Value.category]) (sR_is rfl rfl) (lc_X12_boundOf qg11) ?_
        obtain ⟨rq14, σ15, qg13, h⟩ := bd2_at h
        refine x_callV (Y := mX12_good) (d' := 1) dX12_bound_55 ml_X12_288 yv_X12_good (by omega) rfl rfl (by simp [Value.category]) (sR_is rfl rfl) (lc_X12_good qg13) ?_
        refine r_iret rfl dX12_bound_58 ?_
        exact lfI h
      · replace h := ifn h qc10
        refine r_bipush (v := (-2)) dX12_bound_44 (by decide) ?_
        refine r_goto (t := 55) dX12_bound_46 (by decide) ?_
        obtain ⟨rq17, σ18, qg16, h⟩ := bd2_at h
        refine x_callV (Y := mX12_good) (d' := 1) dX12_bound_55 ml_X12_288 yv_X12_good (by omega) rfl rfl (by simp [Value.category]) (sR_is rfl rfl) (lc_X12_good qg16) ?_
        refine r_iret rfl dX12_bound_58 ?_
        exact lfI h
    · replace h := ifp h qc7
      refine r_aload_n dX12_bound_28 0 rfl ?_
      refine r_iconst (v := 2) dX12_bound_29 (by decide) ?_
      obtain ⟨rq20, σ21, qg19, h⟩ := bd2_at h
      refine x_callV (Y := mX12_refused) (d' := 1) dX12_bound_30 ml_X12_270 yv_X12_refused (by omega) rfl rfl (by simp [Value.category]) (sR_is rfl rfl) (lc_X12_refused qg19) ?_
      refine r_iret rfl dX12_bound_33 ?_
      exact lfI h
  · replace h := ifp h qc4
    refine r_aload_n dX12_bound_13 0 rfl ?_
    refine r_iconst (v := 1) dX12_bound_14 (by decide) ?_
    obtain ⟨rq23, σ24, qg22, h⟩ := bd2_at h
    refine x_callV (Y := mX12_refused) (d' := 1) dX12_bound_15 ml_X12_270 yv_X12_refused (by omega) rfl rfl (by simp [Value.category]) (sR_is rfl rfl) (lc_X12_refused qg22) ?_
    refine r_iret rfl dX12_bound_18 ?_
    exact lfI h
set_option maxRecDepth 8000 in
theorem lc_X12_bound {ad : Nat → Nat} {x1 : Int32} {x2 : Int32} {σ τ : sS} {r : Int32} (h : L_X12_bound x1 x2 σ = some (r, τ)) : ab_X (sR ad) 3 mX12_bound [.ref (ad 90), .int x1, .int x2] σ (some (.int r)) τ := ab_X.of (by decide) (Nat.le_of_ble_eq_true rfl) (e_X12_bound h)
set_option maxRecDepth 8000 in
def L_X12_rankings_51 (F : Nat) (x1 : Int32) (x2 : Int32) (x3 : Int32) (kx : Int32 → sS → Option (Int32 × sS)) : Nat → Int32 → Int32 → sS → Option (Int32 × sS)
  | 0, _, _, _ => none
  | n + 1, x4, x5, σ => if x5 = 0 then (kx x4 σ) else (bd (L_X12_isTight F x1 x2 x3 σ) (fun rq18 => if rq18 = 0 then (bnd (x4 + 0) (fun yq20 => bd2 (L_X12_nextRanking F x2 x3 σ) (fun rq22 σ23 => L_X12_rankings_51 F x1 x2 x3 kx n yq20 rq22 σ23))) else (bnd (x4 + 1) (fun yq24 => bd2 (L_X12_nextRanking F x2 x3 σ) (fun rq26 σ27 => L_X12_rankings_51 F x1 x2 x3 kx n yq24 rq26 σ27)))))
set_option maxRecDepth 8000 in
theorem l_X12_rankings_51 {ad : Nat → Nat} {F : Nat} {x1 : Int32} {x2 : Int32} {x3 : Int32} {z : (Int32 × sS)} {kx : Int32 → sS → Option (Int32 × sS)} (hx : ∀ (x4 : Int32) (σ : sS), kx x4 σ = some z → ab_E (sR ad) mX12_rankings 3 87 [(4, .int x4), (0, .ref (ad 90))] [] σ (fun r9 σ9 => r9 = some (.int z.1) ∧ σ9 = z.2)) : ∀ (n : Nat) (x4 : Int32) (x5 : Int32) (σ : sS), L_X12_rankings_51 F x1 x2 x3 kx n x4 x5 σ = some z → ab_E (sR ad) mX12_rankings 3 51 [(4, .int x4), (5, .int x5), (1, .int x1), (2, .int x2), (3, .int x3), (0, .ref (ad 90))] [] σ (fun r9 σ9 => r9 = some (.int z.1) ∧ σ9 = z.2) := by
  intro n
  induction n with
  | zero =>
    intro x4 x5 σ h
    rw [L_X12_rankings_51] at h
    cases h
  | succ n ih =>
    intro x4 x5 σ h
    rw [L_X12_rankings_51] at h
    refine r_iload dX12_rankings_51 1 rfl ?_
    refine r_if_eq (t := 87) dX12_rankings_53 (by decide) (fun qc16 => ?_) (fun qc16 => ?_)
    · replace h := ifp h qc16
      exact ab_E.lo [0, 5] rfl (hx _ _ h)
    · replace h := ifn h qc16
      refine r_iload dX12_rankings_56 0 rfl ?_
      refine r_aload_n dX12_rankings_58 5 rfl ?_
      refine r_iload_n dX12_rankings_59 2 rfl ?_
      refine r_iload_n dX12_rankings_60 3 rfl ?_
      refine r_iload_n dX12_rankings_61 4 rfl ?_
      obtain ⟨rq18, qg17, h⟩ := bd_at h
      refine x_callV (Y := mX12_isTight) (d' := 1) dX12_rankings_62 ml_X12_328 yv_X12_isTight (by omega) rfl rfl (by simp [Value.category]) (sR_is rfl rfl) (lc_X12_isTight qg17) ?_
      refine r_if_eq (t := 72) dX12_rankings_65 (by decide) (fun qc19 => ?_) (fun qc19 => ?_)
      · replace h := ifp h qc19
        refine r_iconst (v := 0) dX12_rankings_72 (by decide) ?_
        refine r_iadd dX12_rankings_73 ?_
        refine r_topi (fun yq20 eyq20 => ?_)
        replace h := bnd_at h eyq20
        refine r_istore (lo' := [(4, .int yq20), (5, .int x5), (1, .int x1), (2, .int x2), (3, .int x3), (0, .ref (ad 90))]) dX12_rankings_74 (by decide) rfl ?_
        refine r_aload_n dX12_rankings_76 5 rfl ?_
        refine r_iload_n dX12_rankings_77 3 rfl ?_
        refine r_iload_n dX12_rankings_78 4 rfl ?_
        obtain ⟨rq22, σ23, qg21, h⟩ := bd2_at h
        refine x_callV (Y := mX12_nextRanking) (d' := 1) dX12_rankings_79 ml_X12_331 yv_X12_nextRanking (by omega) rfl rfl (by simp [Value.category]) (sR_is rfl rfl) (lc_X12_nextRanking qg21) ?_
        refine r_istore (lo' := [(5, .int rq22), (4, .int yq20), (1, .int x1), (2, .int x2), (3, .int x3), (0, .ref (ad 90))]) dX12_rankings_82 (by decide) rfl ?_
        refine r_goto (t := 51) dX12_rankings_84 (by decide) ?_
        exact ab_E.lo [1, 0, 2, 3, 4, 5] rfl (ih _ _ _ h)
      · replace h := ifn h qc19
        refine r_iconst (v := 1) dX12_rankings_68 (by decide) ?_
        refine r_goto (t := 73) dX12_rankings_69 (by decide) ?_
        refine r_iadd dX12_rankings_73 ?_
        refine r_topi (fun yq24 eyq24 => ?_)
        replace h := bnd_at h eyq24
        refine r_istore (lo' := [(4, .int yq24), (5, .int x5), (1, .int x1), (2, .int x2), (3, .int x3), (0, .ref (ad 90))]) dX12_rankings_74 (by decide) rfl ?_
        refine r_aload_n dX12_rankings_76 5 rfl ?_
        refine r_iload_n dX12_rankings_77 3 rfl ?_
        refine r_iload_n dX12_rankings_78 4 rfl ?_
        obtain ⟨rq26, σ27, qg25, h⟩ := bd2_at h
        refine x_callV (Y := mX12_nextRanking) (d' := 1) dX12_rankings_79 ml_X12_331 yv_X12_nextRanking (by omega) rfl rfl (by simp [Value.category]) (sR_is rfl rfl) (lc_X12_nextRanking qg25) ?_
        refine r_istore (lo' := [(5, .int rq26), (4, .int yq24), (1, .int x1), (2, .int x2), (3, .int x3), (0, .ref (ad 90))]) dX12_rankings_82 (by decide) rfl ?_
        refine r_goto (t := 51) dX12_rankings_84 (by decide) ?_
        exact ab_E.lo [1, 0, 2, 3, 4, 5] rfl (ih _ _ _ h)
set_option maxRecDepth 8000 in
def L_X12_rankings (F : Nat) (x1 : Int32) (x2 : Int32) (x3 : Int32) (σ : sS) : Option (Int32 × sS) := bnd (uI σ 90 0 0) (fun σ1 => bd (L_X12_isAuto x1 σ1) (fun rq3 => if rq3 = 0 then (bd2 (L_X12_refused 1 σ1) (fun rq25 σ26 => some ((rq25, σ26)))) else (bd (L_X12_isSet x1 x2 σ1) (fun rq6 => if rq6 = 0 then (bd2 (L_X12_refused 2 σ1) (fun rq9 σ10 => some ((rq9, σ10)))) else (bd (L_X12_isOddRank x3) (fun rq12 => if rq12 = 0 then (bd2 (L_X12_refused 2 σ1) (fun rq22 σ23 => some ((rq22, σ23)))) else (bd (L_X12_firstRanking F σ1) (fun σ15 => L_X12_rankings_51 F x1 x2 x3 (fun yq16 σ17 => bd2 (L_X12_good yq16 σ17) (fun rq19 σ20 => some ((rq19, σ20)))) F 0 1 σ15))))))))
set_option maxRecDepth 8000 in
theorem e_X12_rankings {ad : Nat → Nat} {F : Nat} {x1 : Int32} {x2 : Int32} {x3 : Int32} {σ : sS} {z : (Int32 × sS)} (h : L_X12_rankings F x1 x2 x3 σ = some z) : ab_E (sR ad) mX12_rankings 3 0 [(0, .ref (ad 90)), (1, .int x1), (2, .int x2), (3, .int x3)] [] σ (fun r9 σ9 => r9 = some (.int z.1) ∧ σ9 = z.2) := by
  unfold L_X12_rankings at h
  refine r_aload_n dX12_rankings_0 0 rfl ?_
  refine r_iconst (v := 0) dX12_rankings_1 (by decide) ?_
  refine s_putI ok_X12 dX12_rankings_2 (k := 0) (by decide) fl_X12_131 rfl rfl rfl rfl rfl ?_
  refine r_st (fun σ1 eσ1 => ?_)
  replace h := bnd_at h eσ1
  refine r_aload_n dX12_rankings_5 0 rfl ?_
  refine r_iload_n dX12_rankings_6 1 rfl ?_
  obtain ⟨rq3, qg2, h⟩ := bd_at h
  refine x_callV (Y := mX12_isAuto) (d' := 2) dX12_rankings_7 ml_X12_291 yv_X12_isAuto (by omega) rfl rfl (by simp [Value.category]) (sR_is rfl rfl) (lc_X12_isAuto qg2) ?_
  refine r_if_ne (t := 19) dX12_rankings_10 (by decide) (fun qc4 => ?_) (fun qc4 => ?_)
  · replace h := ifn h qc4
    refine r_aload_n dX12_rankings_19 0 rfl ?_
    refine r_iload_n dX12_rankings_20 1 rfl ?_
    refine r_iload_n dX12_rankings_21 2 rfl ?_
    obtain ⟨rq6, qg5, h⟩ := bd_at h
    refine x_callV (Y := mX12_isSet) (d' := 2) dX12_rankings_22 ml_X12_313 yv_X12_isSet (by omega) rfl rfl (by simp [Value.category]) (sR_is rfl rfl) (lc_X12_isSet qg5) ?_
    refine r_if_eq (t := 35) dX12_rankings_25 (by decide) (fun qc7 => ?_) (fun qc7 => ?_)
    · replace h := ifp h qc7
      refine r_aload_n dX12_rankings_35 0 rfl ?_
      refine r_iconst (v := 2) dX12_rankings_36 (by decide) ?_
      obtain ⟨rq9, σ10, qg8, h⟩ := bd2_at h
      refine x_callV (Y := mX12_refused) (d' := 1) dX12_rankings_37 ml_X12_270 yv_X12_refused (by omega) rfl rfl (by simp [Value.category]) (sR_is rfl rfl) (lc_X12_refused qg8) ?_
      refine r_iret rfl dX12_rankings_40 ?_
      exact lfI h
    · replace h := ifn h qc7
      refine r_iload_n dX12_rankings_28 3 rfl ?_
      obtain ⟨rq12, qg11, h⟩ := bd_at h
      refine x_callS (Y := mX12_isOddRank) (d' := 2) dX12_rankings_29 ml_X12_322 ys_X12_isOddRank (by omega) rfl rfl (by simp [Value.category]) (lc_X12_isOddRank qg11) ?_
      refine r_if_ne (t := 41) dX12_rankings_32 (by decide) (fun qc13 => ?_) (fun qc13 => ?_)
      · replace h := ifn h qc13
        refine r_iconst (v := 0) dX12_rankings_41 (by decide) ?_
        refine r_istore (lo' := [(4, .int 0), (0, .ref (ad 90)), (1, .int x1), (2, .int x2), (3, .int x3)]) dX12_rankings_42 (by decide) rfl ?_
        refine r_aload_n dX12_rankings_44 1 rfl ?_
        obtain ⟨σ15, qg14, h⟩ := bd_at h
        refine x_callV0 (Y := mX12_firstRanking) (d' := 1) dX12_rankings_45 ml_X12_325 yv_X12_firstRanking (by omega) rfl rfl (by simp [Value.category]) (sR_is rfl rfl) (lc_X12_firstRanking qg14) ?_
        refine r_iconst (v := 1) dX12_rankings_48 (by decide) ?_
        refine r_istore (lo' := [(5, .int 1), (4, .int 0), (0, .ref (ad 90)), (1, .int x1), (2, .int x2), (3, .int x3)]) dX12_rankings_49 (by decide) rfl ?_
        refine ab_E.lo [1, 0, 3, 4, 5, 2] rfl (l_X12_rankings_51 (fun yq16 σ17 h => ?_) _ _ _ _ h)
        refine r_aload_n dX12_rankings_87 1 rfl ?_
        refine r_iload dX12_rankings_88 0 rfl ?_
        obtain ⟨rq19, σ20, qg18, h⟩ := bd2_at h
        refine x_callV (Y := mX12_good) (d' := 1) dX12_rankings_90 ml_X12_288 yv_X12_good (by omega) rfl rfl (by simp [Value.category]) (sR_is rfl rfl) (lc_X12_good qg18) ?_
        refine r_iret rfl dX12_rankings_93 ?_
        exact lfI h
      · replace h := ifp h qc13
        refine r_aload_n dX12_rankings_35 0 rfl ?_
        refine r_iconst (v := 2) dX12_rankings_36 (by decide) ?_
        obtain ⟨rq22, σ23, qg21, h⟩ := bd2_at h
        refine x_callV (Y := mX12_refused) (d' := 1) dX12_rankings_37 ml_X12_270 yv_X12_refused (by omega) rfl rfl (by simp [Value.category]) (sR_is rfl rfl) (lc_X12_refused qg21) ?_
        refine r_iret rfl dX12_rankings_40 ?_
        exact lfI h
  · replace h := ifp h qc4
    refine r_aload_n dX12_rankings_13 0 rfl ?_
    refine r_iconst (v := 1) dX12_rankings_14 (by decide) ?_
    obtain ⟨rq25, σ26, qg24, h⟩ := bd2_at h
    refine x_callV (Y := mX12_refused) (d' := 1) dX12_rankings_15 ml_X12_270 yv_X12_refused (by omega) rfl rfl (by simp [Value.category]) (sR_is rfl rfl) (lc_X12_refused qg24) ?_
    refine r_iret rfl dX12_rankings_18 ?_
    exact lfI h
set_option maxRecDepth 8000 in
theorem lc_X12_rankings {ad : Nat → Nat} {F : Nat} {x1 : Int32} {x2 : Int32} {x3 : Int32} {σ τ : sS} {r : Int32} (h : L_X12_rankings F x1 x2 x3 σ = some (r, τ)) : ab_X (sR ad) 3 mX12_rankings [.ref (ad 90), .int x1, .int x2, .int x3] σ (some (.int r)) τ := ab_X.of (by decide) (Nat.le_of_ble_eq_true rfl) (e_X12_rankings h)
set_option maxRecDepth 8000 in
def L_X12_ranked_110 (F : Nat) (x1 : Int32) (x2 : Int32) (x3 : Int32) (x5 : Int32) (kh : Int32 → Int32 → sS → Option (Int32 × sS)) (kx : sS → Option (Int32 × sS)) (x6 : Int32) (x8 : Int32) (σ : sS) : Option (Int32 × sS) := if x8 = 0 then (bnd (x6 - 0) (fun yq26 => bd2 (L_X12_nextRanking F x2 x3 σ) (fun rq28 σ29 => kh yq26 rq28 σ29))) else (bnd (x6 - 1) (fun yq30 => bd2 (L_X12_nextRanking F x2 x3 σ) (fun rq32 σ33 => kh yq30 rq32 σ33)))
set_option maxRecDepth 8000 in
theorem l_X12_ranked_110 {ad : Nat → Nat} {F : Nat} {x1 : Int32} {x2 : Int32} {x3 : Int32} {x5 : Int32} {z : (Int32 × sS)} {kh : Int32 → Int32 → sS → Option (Int32 × sS)} (hh : ∀ (x6 : Int32) (x7 : Int32) (σ : sS), kh x6 x7 σ = some z → ab_E (sR ad) mX12_ranked 4 74 [(6, .int x6), (7, .int x7), (1, .int x1), (2, .int x2), (3, .int x3), (5, .int x5), (0, .ref (ad 90))] [] σ (fun r9 σ9 => r9 = some (.int z.1) ∧ σ9 = z.2)) {kx : sS → Option (Int32 × sS)} (hx : ∀  (σ : sS), kx σ = some z → ab_E (sR ad) mX12_ranked 4 136 [(0, .ref (ad 90))] [] σ (fun r9 σ9 => r9 = some (.int z.1) ∧ σ9 = z.2)) (x6 : Int32) (x8 : Int32) (σ : sS) (h : L_X12_ranked_110 F x1 x2 x3 x5 kh kx x6 x8 σ = some z) : ab_E (sR ad) mX12_ranked 4 110 [(6, .int x6), (8, .int x8), (1, .int x1), (2, .int x2), (3, .int x3), (5, .int x5), (0, .ref (ad 90))] [] σ (fun r9 σ9 => r9 = some (.int z.1) ∧ σ9 = z.2) := by
  unfold L_X12_ranked_110 at h
  refine r_iload dX12_ranked_110 0 rfl ?_
  refine r_iload dX12_ranked_112 1 rfl ?_
  refine r_if_eq (t := 121) dX12_ranked_114 (by decide) (fun qc25 => ?_) (fun qc25 => ?_)
  · replace h := ifp h qc25
    refine r_iconst (v := 0) dX12_ranked_121 (by decide) ?_
    refine r_isub dX12_ranked_122 ?_
    refine r_topi (fun yq26 eyq26 => ?_)
    replace h := bnd_at h eyq26
    refine r_istore (lo' := [(6, .int yq26), (8, .int x8), (1, .int x1), (2, .int x2), (3, .int x3), (5, .int x5), (0, .ref (ad 90))]) dX12_ranked_123 (by decide) rfl ?_
    refine r_aload_n dX12_ranked_125 6 rfl ?_
    refine r_iload_n dX12_ranked_126 3 rfl ?_
    refine r_iload_n dX12_ranked_127 4 rfl ?_
    obtain ⟨rq28, σ29, qg27, h⟩ := bd2_at h
    refine x_callV (Y := mX12_nextRanking) (d' := 1) dX12_ranked_128 ml_X12_331 yv_X12_nextRanking (by omega) rfl rfl (by simp [Value.category]) (sR_is rfl rfl) (lc_X12_nextRanking qg27) ?_
    refine r_istore (lo' := [(7, .int rq28), (6, .int yq26), (8, .int x8), (1, .int x1), (2, .int x2), (3, .int x3), (5, .int x5), (0, .ref (ad 90))]) dX12_ranked_131 (by decide) rfl ?_
    refine r_goto (t := 74) dX12_ranked_133 (by decide) ?_
    exact ab_E.lo [1, 0, 3, 4, 5, 6, 7] rfl (hh _ _ _ h)
  · replace h := ifn h qc25
    refine r_iconst (v := 1) dX12_ranked_117 (by decide) ?_
    refine r_goto (t := 122) dX12_ranked_118 (by decide) ?_
    refine r_isub dX12_ranked_122 ?_
    refine r_topi (fun yq30 eyq30 => ?_)
    replace h := bnd_at h eyq30
    refine r_istore (lo' := [(6, .int yq30), (8, .int x8), (1, .int x1), (2, .int x2), (3, .int x3), (5, .int x5), (0, .ref (ad 90))]) dX12_ranked_123 (by decide) rfl ?_
    refine r_aload_n dX12_ranked_125 6 rfl ?_
    refine r_iload_n dX12_ranked_126 3 rfl ?_
    refine r_iload_n dX12_ranked_127 4 rfl ?_
    obtain ⟨rq32, σ33, qg31, h⟩ := bd2_at h
    refine x_callV (Y := mX12_nextRanking) (d' := 1) dX12_ranked_128 ml_X12_331 yv_X12_nextRanking (by omega) rfl rfl (by simp [Value.category]) (sR_is rfl rfl) (lc_X12_nextRanking qg31) ?_
    refine r_istore (lo' := [(7, .int rq32), (6, .int yq30), (8, .int x8), (1, .int x1), (2, .int x2), (3, .int x3), (5, .int x5), (0, .ref (ad 90))]) dX12_ranked_131 (by decide) rfl ?_
    refine r_goto (t := 74) dX12_ranked_133 (by decide) ?_
    exact ab_E.lo [1, 0, 3, 4, 5, 6, 7] rfl (hh _ _ _ h)
set_option maxRecDepth 8000 in
def L_X12_ranked_74 (F : Nat) (x1 : Int32) (x2 : Int32) (x3 : Int32) (x5 : Int32) (kx : sS → Option (Int32 × sS)) : Nat → Int32 → Int32 → sS → Option (Int32 × sS)
  | 0, _, _, _ => none
  | n + 1, x6, x7, σ => if x7 = 0 then (kx σ) else (bd (L_X12_isTight F x1 x2 x3 σ) (fun rq23 => if rq23 = 0 then (L_X12_ranked_110 F x1 x2 x3 x5 (L_X12_ranked_74 F x1 x2 x3 x5 kx n) kx x6 rq23 σ) else (if x6 = 0 then (grd (inb x5 4) (bd2 (L_X12_good (vI σ 123 x5.toNatClampNeg) σ) (fun rq28 σ29 => some ((rq28, σ29))))) else (L_X12_ranked_110 F x1 x2 x3 x5 (L_X12_ranked_74 F x1 x2 x3 x5 kx n) kx x6 rq23 σ))))
set_option maxRecDepth 8000 in
theorem l_X12_ranked_74 {ad : Nat → Nat} {F : Nat} {x1 : Int32} {x2 : Int32} {x3 : Int32} {x5 : Int32} {z : (Int32 × sS)} {kx : sS → Option (Int32 × sS)} (hx : ∀  (σ : sS), kx σ = some z → ab_E (sR ad) mX12_ranked 4 136 [(0, .ref (ad 90))] [] σ (fun r9 σ9 => r9 = some (.int z.1) ∧ σ9 = z.2)) : ∀ (n : Nat) (x6 : Int32) (x7 : Int32) (σ : sS), L_X12_ranked_74 F x1 x2 x3 x5 kx n x6 x7 σ = some z → ab_E (sR ad) mX12_ranked 4 74 [(6, .int x6), (7, .int x7), (1, .int x1), (2, .int x2), (3, .int x3), (5, .int x5), (0, .ref (ad 90))] [] σ (fun r9 σ9 => r9 = some (.int z.1) ∧ σ9 = z.2) := by
  intro n
  induction n with
  | zero =>
    intro x6 x7 σ h
    rw [L_X12_ranked_74] at h
    cases h
  | succ n ih =>
    intro x6 x7 σ h
    rw [L_X12_ranked_74] at h
    refine r_iload dX12_ranked_74 1 rfl ?_
    refine r_if_eq (t := 136) dX12_ranked_76 (by decide) (fun qc21 => ?_) (fun qc21 => ?_)
    · replace h := ifp h qc21
      exact ab_E.lo [6] rfl (hx _ h)
    · replace h := ifn h qc21
      refine r_aload_n dX12_ranked_79 6 rfl ?_
      refine r_iload_n dX12_ranked_80 2 rfl ?_
      refine r_iload_n dX12_ranked_81 3 rfl ?_
      refine r_iload_n dX12_ranked_82 4 rfl ?_
      obtain ⟨rq23, qg22, h⟩ := bd_at h
      refine x_callV (Y := mX12_isTight) (d' := 1) dX12_ranked_83 ml_X12_328 yv_X12_isTight (by omega) rfl rfl (by simp [Value.category]) (sR_is rfl rfl) (lc_X12_isTight qg22) ?_
      refine r_istore (lo' := [(8, .int rq23), (6, .int x6), (7, .int x7), (1, .int x1), (2, .int x2), (3, .int x3), (5, .int x5), (0, .ref (ad 90))]) dX12_ranked_86 (by decide) rfl ?_
      refine r_iload dX12_ranked_88 0 rfl ?_
      refine r_if_eq (t := 110) dX12_ranked_90 (by decide) (fun qc24 => ?_) (fun qc24 => ?_)
      · replace h := ifp h qc24
        exact ab_E.lo [1, 0, 3, 4, 5, 6, 7] rfl (l_X12_ranked_110 ih hx _ _ _ h)
      · replace h := ifn h qc24
        refine r_iload dX12_ranked_93 1 rfl ?_
        refine r_if_ne (t := 110) dX12_ranked_95 (by decide) (fun qc25 => ?_) (fun qc25 => ?_)
        · replace h := ifn h qc25
          exact ab_E.lo [1, 0, 3, 4, 5, 6, 7] rfl (l_X12_ranked_110 ih hx _ _ _ h)
        · replace h := ifp h qc25
          refine r_aload_n dX12_ranked_98 7 rfl ?_
          refine r_aload_n dX12_ranked_99 7 rfl ?_
          refine s_getR (b := 123) ok_X12 dX12_ranked_100 (k := 23) (by decide) fl_X12_33 rfl rfl rfl ?_
          refine r_iload dX12_ranked_103 6 rfl ?_
          obtain ⟨qg26, h⟩ := grd_at h
          refine s_iald dX12_ranked_105 rfl (inb_of qg26) ?_
          obtain ⟨rq28, σ29, qg27, h⟩ := bd2_at h
          refine x_callV (Y := mX12_good) (d' := 1) dX12_ranked_106 ml_X12_288 yv_X12_good (by omega) rfl rfl (by simp [Value.category]) (sR_is rfl rfl) (lc_X12_good qg27) ?_
          refine r_iret rfl dX12_ranked_109 ?_
          exact lfI h
set_option maxRecDepth 8000 in
def L_X12_ranked (F : Nat) (x1 : Int32) (x2 : Int32) (x3 : Int32) (x4 : Int32) (x5 : Int32) (σ : sS) : Option (Int32 × sS) := bnd (uI σ 90 0 0) (fun σ1 => bd (L_X12_isState x1 x5 σ1) (fun rq3 => if rq3 = 0 then (bd2 (L_X12_refused 1 σ1) (fun rq32 σ33 => some ((rq32, σ33)))) else (bd (L_X12_isSet x1 x2 σ1) (fun rq6 => if rq6 = 0 then (bd2 (L_X12_refused 2 σ1) (fun rq9 σ10 => some ((rq9, σ10)))) else (bd (L_X12_isOddRank x3) (fun rq12 => if rq12 = 0 then (bd2 (L_X12_refused 2 σ1) (fun rq29 σ30 => some ((rq29, σ30)))) else (if x4 < 0 then (bd2 (L_X12_refused 5 σ1) (fun rq16 σ17 => some ((rq16, σ17)))) else (if ((x2 >>> (x5 &&& 31)) &&& 1) = 0 then (bd2 (L_X12_refused 5 σ1) (fun rq26 σ27 => some ((rq26, σ27)))) else (bd (L_X12_firstRanking F σ1) (fun σ20 => L_X12_ranked_74 F x1 x2 x3 x5 (fun σ21 => bd2 (L_X12_refused 5 σ21) (fun rq23 σ24 => some ((rq23, σ24)))) F x4 1 σ20))))))))))
set_option maxRecDepth 8000 in
theorem e_X12_ranked {ad : Nat → Nat} {F : Nat} {x1 : Int32} {x2 : Int32} {x3 : Int32} {x4 : Int32} {x5 : Int32} {σ : sS} {z : (Int32 × sS)} (h : L_X12_ranked F x1 x2 x3 x4 x5 σ = some z) : ab_E (sR ad) mX12_ranked 4 0 [(0, .ref (ad 90)), (1, .int x1), (2, .int x2), (3, .int x3), (4, .int x4), (5, .int x5)] [] σ (fun r9 σ9 => r9 = some (.int z.1) ∧ σ9 = z.2) := by
  unfold L_X12_ranked at h
  refine r_aload_n dX12_ranked_0 0 rfl ?_
  refine r_iconst (v := 0) dX12_ranked_1 (by decide) ?_
  refine s_putI ok_X12 dX12_ranked_2 (k := 0) (by decide) fl_X12_131 rfl rfl rfl rfl rfl ?_
  refine r_st (fun σ1 eσ1 => ?_)
  replace h := bnd_at h eσ1
  refine r_aload_n dX12_ranked_5 0 rfl ?_
  refine r_iload_n dX12_ranked_6 1 rfl ?_
  refine r_iload dX12_ranked_7 5 rfl ?_
  obtain ⟨rq3, qg2, h⟩ := bd_at h
  refine x_callV (Y := mX12_isState) (d' := 3) dX12_ranked_9 ml_X12_302 yv_X12_isState (by omega) rfl rfl (by simp [Value.category]) (sR_is rfl rfl) (lc_X12_isState qg2) ?_
  refine r_if_ne (t := 21) dX12_ranked_12 (by decide) (fun qc4 => ?_) (fun qc4 => ?_)
  · replace h := ifn h qc4
    refine r_aload_n dX12_ranked_21 0 rfl ?_
    refine r_iload_n dX12_ranked_22 1 rfl ?_
    refine r_iload_n dX12_ranked_23 2 rfl ?_
    obtain ⟨rq6, qg5, h⟩ := bd_at h
    refine x_callV (Y := mX12_isSet) (d' := 2) dX12_ranked_24 ml_X12_313 yv_X12_isSet (by omega) rfl rfl (by simp [Value.category]) (sR_is rfl rfl) (lc_X12_isSet qg5) ?_
    refine r_if_eq (t := 37) dX12_ranked_27 (by decide) (fun qc7 => ?_) (fun qc7 => ?_)
    · replace h := ifp h qc7
      refine r_aload_n dX12_ranked_37 0 rfl ?_
      refine r_iconst (v := 2) dX12_ranked_38 (by decide) ?_
      obtain ⟨rq9, σ10, qg8, h⟩ := bd2_at h
      refine x_callV (Y := mX12_refused) (d' := 1) dX12_ranked_39 ml_X12_270 yv_X12_refused (by omega) rfl rfl (by simp [Value.category]) (sR_is rfl rfl) (lc_X12_refused qg8) ?_
      refine r_iret rfl dX12_ranked_42 ?_
      exact lfI h
    · replace h := ifn h qc7
      refine r_iload_n dX12_ranked_30 3 rfl ?_
      obtain ⟨rq12, qg11, h⟩ := bd_at h
      refine x_callS (Y := mX12_isOddRank) (d' := 2) dX12_ranked_31 ml_X12_322 ys_X12_isOddRank (by omega) rfl rfl (by simp [Value.category]) (lc_X12_isOddRank qg11) ?_
      refine r_if_ne (t := 43) dX12_ranked_34 (by decide) (fun qc13 => ?_) (fun qc13 => ?_)
      · replace h := ifn h qc13
        refine r_iload dX12_ranked_43 4 rfl ?_
        refine r_if_lt (t := 57) dX12_ranked_45 (by decide) (fun qc14 => ?_) (fun qc14 => ?_)
        · replace h := ifp h qc14
          refine r_aload_n dX12_ranked_57 0 rfl ?_
          refine r_iconst (v := 5) dX12_ranked_58 (by decide) ?_
          obtain ⟨rq16, σ17, qg15, h⟩ := bd2_at h
          refine x_callV (Y := mX12_refused) (d' := 1) dX12_ranked_59 ml_X12_270 yv_X12_refused (by omega) rfl rfl (by simp [Value.category]) (sR_is rfl rfl) (lc_X12_refused qg15) ?_
          refine r_iret rfl dX12_ranked_62 ?_
          exact lfI h
        · replace h := ifn h qc14
          refine r_iload_n dX12_ranked_48 2 rfl ?_
          refine r_iload dX12_ranked_49 5 rfl ?_
          refine r_ishr dX12_ranked_51 ?_
          refine r_iconst (v := 1) dX12_ranked_52 (by decide) ?_
          refine r_iand dX12_ranked_53 ?_
          refine r_if_ne (t := 63) dX12_ranked_54 (by decide) (fun qc18 => ?_) (fun qc18 => ?_)
          · replace h := ifn h qc18
            refine r_iload dX12_ranked_63 4 rfl ?_
            refine r_istore (lo' := [(6, .int x4), (0, .ref (ad 90)), (1, .int x1), (2, .int x2), (3, .int x3), (4, .int x4), (5, .int x5)]) dX12_ranked_65 (by decide) rfl ?_
            refine r_aload_n dX12_ranked_67 1 rfl ?_
            obtain ⟨σ20, qg19, h⟩ := bd_at h
            refine x_callV0 (Y := mX12_firstRanking) (d' := 1) dX12_ranked_68 ml_X12_325 yv_X12_firstRanking (by omega) rfl rfl (by simp [Value.category]) (sR_is rfl rfl) (lc_X12_firstRanking qg19) ?_
            refine r_iconst (v := 1) dX12_ranked_71 (by decide) ?_
            refine r_istore (lo' := [(7, .int 1), (6, .int x4), (0, .ref (ad 90)), (1, .int x1), (2, .int x2), (3, .int x3), (4, .int x4), (5, .int x5)]) dX12_ranked_72 (by decide) rfl ?_
            refine ab_E.lo [1, 0, 3, 4, 5, 7, 2] rfl (l_X12_ranked_74 (fun σ21 h => ?_) _ _ _ _ h)
            refine r_aload_n dX12_ranked_136 0 rfl ?_
            refine r_iconst (v := 5) dX12_ranked_137 (by decide) ?_
            obtain ⟨rq23, σ24, qg22, h⟩ := bd2_at h
            refine x_callV (Y := mX12_refused) (d' := 1) dX12_ranked_138 ml_X12_270 yv_X12_refused (by omega) rfl rfl (by simp [Value.category]) (sR_is rfl rfl) (lc_X12_refused qg22) ?_
            refine r_iret rfl dX12_ranked_141 ?_
            exact lfI h
          · replace h := ifp h qc18
            refine r_aload_n dX12_ranked_57 0 rfl ?_
            refine r_iconst (v := 5) dX12_ranked_58 (by decide) ?_
            obtain ⟨rq26, σ27, qg25, h⟩ := bd2_at h
            refine x_callV (Y := mX12_refused) (d' := 1) dX12_ranked_59 ml_X12_270 yv_X12_refused (by omega) rfl rfl (by simp [Value.category]) (sR_is rfl rfl) (lc_X12_refused qg25) ?_
            refine r_iret rfl dX12_ranked_62 ?_
            exact lfI h
      · replace h := ifp h qc13
        refine r_aload_n dX12_ranked_37 0 rfl ?_
        refine r_iconst (v := 2) dX12_ranked_38 (by decide) ?_
        obtain ⟨rq29, σ30, qg28, h⟩ := bd2_at h
        refine x_callV (Y := mX12_refused) (d' := 1) dX12_ranked_39 ml_X12_270 yv_X12_refused (by omega) rfl rfl (by simp [Value.category]) (sR_is rfl rfl) (lc_X12_refused qg28) ?_
        refine r_iret rfl dX12_ranked_42 ?_
        exact lfI h
  · replace h := ifp h qc4
    refine r_aload_n dX12_ranked_15 0 rfl ?_
    refine r_iconst (v := 1) dX12_ranked_16 (by decide) ?_
    obtain ⟨rq32, σ33, qg31, h⟩ := bd2_at h
    refine x_callV (Y := mX12_refused) (d' := 1) dX12_ranked_17 ml_X12_270 yv_X12_refused (by omega) rfl rfl (by simp [Value.category]) (sR_is rfl rfl) (lc_X12_refused qg31) ?_
    refine r_iret rfl dX12_ranked_20 ?_
    exact lfI h
set_option maxRecDepth 8000 in
theorem lc_X12_ranked {ad : Nat → Nat} {F : Nat} {x1 : Int32} {x2 : Int32} {x3 : Int32} {x4 : Int32} {x5 : Int32} {σ τ : sS} {r : Int32} (h : L_X12_ranked F x1 x2 x3 x4 x5 σ = some (r, τ)) : ab_X (sR ad) 4 mX12_ranked [.ref (ad 90), .int x1, .int x2, .int x3, .int x4, .int x5] σ (some (.int r)) τ := ab_X.of (by decide) (Nat.le_of_ble_eq_true rfl) (e_X12_ranked h)
