/-! the reference, lifted, 5 -/
set_option maxRecDepth 8000 in
def L_X12_packed_4 (F : Nat) (x1 : Int32) (σ : sS) (kx : Int32 → Option Int32) : Nat → Int32 → Int32 → Option Int32
  | 0, _, _ => none
  | n + 1, x2, x3 => if 4 ≤ x3 then (kx x2) else (if ((x1 >>> (x3 &&& 31)) &&& 1) = 1 then (grd (inb x3 4) (bnd ((x2 * 8) + (vI σ 123 x3.toNatClampNeg)) (fun yq5 => L_X12_packed_4 F x1 σ kx n yq5 (x3 + 1)))) else (bnd ((x2 * 8) + 0) (fun yq3 => L_X12_packed_4 F x1 σ kx n yq3 (x3 + 1))))
set_option maxRecDepth 8000 in
theorem l_X12_packed_4 {ad : Nat → Nat} {F : Nat} {x1 : Int32} {σ : sS} {z : Int32} {kx : Int32 → Option Int32} (hx : ∀ (x2 : Int32), kx x2 = some z → ab_E (sR ad) mX12_packed 1 40 [(2, .int x2)] [] σ (fun r9 σ9 => r9 = some (.int z) ∧ σ9 = σ)) : ∀ (n : Nat) (x2 : Int32) (x3 : Int32), L_X12_packed_4 F x1 σ kx n x2 x3 = some z → ab_E (sR ad) mX12_packed 1 4 [(2, .int x2), (3, .int x3), (1, .int x1), (0, .ref (ad 90))] [] σ (fun r9 σ9 => r9 = some (.int z) ∧ σ9 = σ) := by
  intro n
  induction n with
  | zero =>
    intro x2 x3 h
    rw [L_X12_packed_4] at h
    cases h
  | succ n ih =>
    intro x2 x3 h
    rw [L_X12_packed_4] at h
    refine r_iload_n dX12_packed_4 1 rfl ?_
    refine r_iconst (v := 4) dX12_packed_5 (by decide) ?_
    refine r_icmp_ge (t := 40) dX12_packed_6 (by decide) (fun qc1 => ?_) (fun qc1 => ?_)
    · replace h := ifp h qc1
      exact ab_E.lo [0] rfl (hx _ h)
    · replace h := ifn h qc1
      refine r_iload_n dX12_packed_9 0 rfl ?_
      refine r_bipush (v := 8) dX12_packed_10 (by decide) ?_
      refine r_imul dX12_packed_12 ?_
      refine r_iload_n dX12_packed_13 2 rfl ?_
      refine r_iload_n dX12_packed_14 1 rfl ?_
      refine r_ishr dX12_packed_15 ?_
      refine r_iconst (v := 1) dX12_packed_16 (by decide) ?_
      refine r_iand dX12_packed_17 ?_
      refine r_iconst (v := 1) dX12_packed_18 (by decide) ?_
      refine r_icmp_ne (t := 31) dX12_packed_19 (by decide) (fun qc2 => ?_) (fun qc2 => ?_)
      · replace h := ifn h qc2
        refine r_iconst (v := 0) dX12_packed_31 (by decide) ?_
        refine r_iadd dX12_packed_32 ?_
        refine r_topi (fun yq3 eyq3 => ?_)
        replace h := bnd_at h eyq3
        refine r_istore_n (lo' := [(2, .int yq3), (3, .int x3), (1, .int x1), (0, .ref (ad 90))]) dX12_packed_33 (by decide) rfl ?_
        refine r_iinc (v := x3 + 1) (lo' := [(3, .int (x3 + 1)), (2, .int yq3), (1, .int x1), (0, .ref (ad 90))]) dX12_packed_34 1 rfl rfl (by decide) rfl ?_
        refine r_goto (t := 4) dX12_packed_37 (by decide) ?_
        exact ab_E.lo [1, 0, 2, 3] rfl (ih _ _ h)
      · replace h := ifp h qc2
        refine r_aload_n dX12_packed_22 3 rfl ?_
        refine s_getR (b := 123) ok_X12 dX12_packed_23 (k := 23) (by decide) fl_X12_33 rfl rfl rfl ?_
        refine r_iload_n dX12_packed_26 1 rfl ?_
        obtain ⟨qg4, h⟩ := grd_at h
        refine s_iald dX12_packed_27 rfl (inb_of qg4) ?_
        refine r_goto (t := 32) dX12_packed_28 (by decide) ?_
        refine r_iadd dX12_packed_32 ?_
        refine r_topi (fun yq5 eyq5 => ?_)
        replace h := bnd_at h eyq5
        refine r_istore_n (lo' := [(2, .int yq5), (3, .int x3), (1, .int x1), (0, .ref (ad 90))]) dX12_packed_33 (by decide) rfl ?_
        refine r_iinc (v := x3 + 1) (lo' := [(3, .int (x3 + 1)), (2, .int yq5), (1, .int x1), (0, .ref (ad 90))]) dX12_packed_34 1 rfl rfl (by decide) rfl ?_
        refine r_goto (t := 4) dX12_packed_37 (by decide) ?_
        exact ab_E.lo [1, 0, 2, 3] rfl (ih _ _ h)
set_option maxRecDepth 8000 in
def L_X12_packed (F : Nat) (x1 : Int32) (σ : sS) : Option Int32 := L_X12_packed_4 F x1 σ (fun yq1 => some yq1) F 0 0
set_option maxRecDepth 8000 in
theorem e_X12_packed {ad : Nat → Nat} {F : Nat} {x1 : Int32} {σ : sS} {z : Int32} (h : L_X12_packed F x1 σ = some z) : ab_E (sR ad) mX12_packed 1 0 [(0, .ref (ad 90)), (1, .int x1)] [] σ (fun r9 σ9 => r9 = some (.int z) ∧ σ9 = σ) := by
  unfold L_X12_packed at h
  refine r_iconst (v := 0) dX12_packed_0 (by decide) ?_
  refine r_istore_n (lo' := [(2, .int 0), (0, .ref (ad 90)), (1, .int x1)]) dX12_packed_1 (by decide) rfl ?_
  refine r_iconst (v := 0) dX12_packed_2 (by decide) ?_
  refine r_istore_n (lo' := [(3, .int 0), (2, .int 0), (0, .ref (ad 90)), (1, .int x1)]) dX12_packed_3 (by decide) rfl ?_
  refine ab_E.lo [1, 0, 3, 2] rfl (l_X12_packed_4 (fun yq1 h => ?_) _ _ _ h)
  refine r_iload_n dX12_packed_40 0 rfl ?_
  refine r_iret rfl dX12_packed_41 ?_
  exact lfP h
set_option maxRecDepth 8000 in
theorem lc_X12_packed {ad : Nat → Nat} {F : Nat} {x1 : Int32} {σ : sS} {r : Int32} (h : L_X12_packed F x1 σ = some r) : ab_X (sR ad) 1 mX12_packed [.ref (ad 90), .int x1] σ (some (.int r)) σ := ab_X.of (by decide) (Nat.le_of_ble_eq_true rfl) (e_X12_packed h)
set_option maxRecDepth 8000 in
def L_X12_rankIn (x0 : Int32) (x1 : Int32) : Int32 := (x0 >>> (((3 : Int32) * ((3 : Int32) - x1)) &&& 31)) &&& 7
set_option maxRecDepth 8000 in
theorem e_X12_rankIn {ad : Nat → Nat} {x0 : Int32} {x1 : Int32} {σ : sS} {z : Int32} (h : L_X12_rankIn x0 x1 = z) : ab_E (sR ad) mX12_rankIn 1 0 [(0, .int x0), (1, .int x1)] [] σ (fun r9 σ9 => r9 = some (.int z) ∧ σ9 = σ) := by
  unfold L_X12_rankIn at h
  refine r_iload_n dX12_rankIn_0 0 rfl ?_
  refine r_iconst (v := 3) dX12_rankIn_1 (by decide) ?_
  refine r_iconst (v := 3) dX12_rankIn_2 (by decide) ?_
  refine r_iload_n dX12_rankIn_3 1 rfl ?_
  refine r_isub dX12_rankIn_4 ?_
  refine r_imul dX12_rankIn_5 ?_
  refine r_ishr dX12_rankIn_6 ?_
  refine r_bipush (v := 7) dX12_rankIn_7 (by decide) ?_
  refine r_iand dX12_rankIn_9 ?_
  refine r_iret rfl dX12_rankIn_10 ?_
  exact lfT h
set_option maxRecDepth 8000 in
theorem lc_X12_rankIn {ad : Nat → Nat} (x0 : Int32) (x1 : Int32) (σ : sS) : ab_X (sR ad) 1 mX12_rankIn [.int x0, .int x1] σ (some (.int (L_X12_rankIn x0 x1))) σ := ab_X.of (by decide) (Nat.le_of_ble_eq_true rfl) (e_X12_rankIn rfl)
set_option maxRecDepth 8000 in
def L_X12_nodeOf_34 (F : Nat) (x1 : Int32) (x2 : Int32) (x3 : Int32) (x4 : Int32) (x5 : Int32) (σ : sS) (kx : Option (Int32 × sS)) : Nat → Int32 → Option (Int32 × sS)
  | 0, _ => none
  | n + 1, x6 => if x6 = ((-1)) then (kx) else (grd (inb x6 300) (if (vI σ 124 x6.toNatClampNeg) = x1 then (grd (inb x6 300) (if (vI σ 125 x6.toNatClampNeg) = x2 then (grd (inb x6 300) (if (vI σ 126 x6.toNatClampNeg) = x3 then (grd (inb x6 300) (if (vI σ 127 x6.toNatClampNeg) = x4 then (some ((x6, σ))) else (grd (inb x6 300) (bnd (vI σ 128 x6.toNatClampNeg) (fun yq20 => L_X12_nodeOf_34 F x1 x2 x3 x4 x5 σ kx n yq20))))) else (grd (inb x6 300) (bnd (vI σ 128 x6.toNatClampNeg) (fun yq16 => L_X12_nodeOf_34 F x1 x2 x3 x4 x5 σ kx n yq16))))) else (grd (inb x6 300) (bnd (vI σ 128 x6.toNatClampNeg) (fun yq12 => L_X12_nodeOf_34 F x1 x2 x3 x4 x5 σ kx n yq12))))) else (grd (inb x6 300) (bnd (vI σ 128 x6.toNatClampNeg) (fun yq8 => L_X12_nodeOf_34 F x1 x2 x3 x4 x5 σ kx n yq8)))))
set_option maxRecDepth 8000 in
theorem l_X12_nodeOf_34 {ad : Nat → Nat} {F : Nat} {x1 : Int32} {x2 : Int32} {x3 : Int32} {x4 : Int32} {x5 : Int32} {σ : sS} {z : (Int32 × sS)} {kx : Option (Int32 × sS)} (hx : kx  = some z → ab_E (sR ad) mX12_nodeOf 1 100 [(1, .int x1), (2, .int x2), (3, .int x3), (4, .int x4), (5, .int x5), (0, .ref (ad 90))] [] σ (fun r9 σ9 => r9 = some (.int z.1) ∧ σ9 = z.2)) : ∀ (n : Nat) (x6 : Int32), L_X12_nodeOf_34 F x1 x2 x3 x4 x5 σ kx n x6 = some z → ab_E (sR ad) mX12_nodeOf 1 34 [(6, .int x6), (1, .int x1), (2, .int x2), (3, .int x3), (4, .int x4), (5, .int x5), (0, .ref (ad 90))] [] σ (fun r9 σ9 => r9 = some (.int z.1) ∧ σ9 = z.2) := by
  intro n
  induction n with
  | zero =>
    intro x6 h
    rw [L_X12_nodeOf_34] at h
    cases h
  | succ n ih =>
    intro x6 h
    rw [L_X12_nodeOf_34] at h
    refine r_iload dX12_nodeOf_34 0 rfl ?_
    refine r_iconst (v := (-1)) dX12_nodeOf_36 (by decide) ?_
    refine r_icmp_eq (t := 100) dX12_nodeOf_37 (by decide) (fun qc4 => ?_) (fun qc4 => ?_)
    · replace h := ifp h qc4
      exact ab_E.lo [1, 2, 3, 4, 5, 6] rfl (hx  h)
    · replace h := ifn h qc4
      refine r_aload_n dX12_nodeOf_40 6 rfl ?_
      refine s_getR (b := 124) ok_X12 dX12_nodeOf_41 (k := 24) (by decide) fl_X12_36 rfl rfl rfl ?_
      refine r_iload dX12_nodeOf_44 0 rfl ?_
      obtain ⟨qg5, h⟩ := grd_at h
      refine s_iald dX12_nodeOf_46 rfl (inb_of qg5) ?_
      refine r_iload_n dX12_nodeOf_47 1 rfl ?_
      refine r_icmp_ne (t := 88) dX12_nodeOf_48 (by decide) (fun qc6 => ?_) (fun qc6 => ?_)
      · replace h := ifn h qc6
        refine r_aload_n dX12_nodeOf_88 6 rfl ?_
        refine s_getR (b := 128) ok_X12 dX12_nodeOf_89 (k := 28) (by decide) fl_X12_48 rfl rfl rfl ?_
        refine r_iload dX12_nodeOf_92 0 rfl ?_
        obtain ⟨qg7, h⟩ := grd_at h
        refine s_iald dX12_nodeOf_94 rfl (inb_of qg7) ?_
        refine r_topi (fun yq8 eyq8 => ?_)
        replace h := bnd_at h eyq8
        refine r_istore (lo' := [(6, .int yq8), (1, .int x1), (2, .int x2), (3, .int x3), (4, .int x4), (5, .int x5), (0, .ref (ad 90))]) dX12_nodeOf_95 (by decide) rfl ?_
        refine r_goto (t := 34) dX12_nodeOf_97 (by decide) ?_
        exact ab_E.lo [0, 1, 2, 3, 4, 5, 6] rfl (ih _ h)
      · replace h := ifp h qc6
        refine r_aload_n dX12_nodeOf_51 6 rfl ?_
        refine s_getR (b := 125) ok_X12 dX12_nodeOf_52 (k := 25) (by decide) fl_X12_39 rfl rfl rfl ?_
        refine r_iload dX12_nodeOf_55 0 rfl ?_
        obtain ⟨qg9, h⟩ := grd_at h
        refine s_iald dX12_nodeOf_57 rfl (inb_of qg9) ?_
        refine r_iload_n dX12_nodeOf_58 2 rfl ?_
        refine r_icmp_ne (t := 88) dX12_nodeOf_59 (by decide) (fun qc10 => ?_) (fun qc10 => ?_)
        · replace h := ifn h qc10
          refine r_aload_n dX12_nodeOf_88 6 rfl ?_
          refine s_getR (b := 128) ok_X12 dX12_nodeOf_89 (k := 28) (by decide) fl_X12_48 rfl rfl rfl ?_
          refine r_iload dX12_nodeOf_92 0 rfl ?_
          obtain ⟨qg11, h⟩ := grd_at h
          refine s_iald dX12_nodeOf_94 rfl (inb_of qg11) ?_
          refine r_topi (fun yq12 eyq12 => ?_)
          replace h := bnd_at h eyq12
          refine r_istore (lo' := [(6, .int yq12), (1, .int x1), (2, .int x2), (3, .int x3), (4, .int x4), (5, .int x5), (0, .ref (ad 90))]) dX12_nodeOf_95 (by decide) rfl ?_
          refine r_goto (t := 34) dX12_nodeOf_97 (by decide) ?_
          exact ab_E.lo [0, 1, 2, 3, 4, 5, 6] rfl (ih _ h)
        · replace h := ifp h qc10
          refine r_aload_n dX12_nodeOf_62 6 rfl ?_
          refine s_getR (b := 126) ok_X12 dX12_nodeOf_63 (k := 26) (by decide) fl_X12_42 rfl rfl rfl ?_
          refine r_iload dX12_nodeOf_66 0 rfl ?_
          obtain ⟨qg13, h⟩ := grd_at h
          refine s_iald dX12_nodeOf_68 rfl (inb_of qg13) ?_
          refine r_iload_n dX12_nodeOf_69 3 rfl ?_
          refine r_icmp_ne (t := 88) dX12_nodeOf_70 (by decide) (fun qc14 => ?_) (fun qc14 => ?_)
          · replace h := ifn h qc14
            refine r_aload_n dX12_nodeOf_88 6 rfl ?_
            refine s_getR (b := 128) ok_X12 dX12_nodeOf_89 (k := 28) (by decide) fl_X12_48 rfl rfl rfl ?_
            refine r_iload dX12_nodeOf_92 0 rfl ?_
            obtain ⟨qg15, h⟩ := grd_at h
            refine s_iald dX12_nodeOf_94 rfl (inb_of qg15) ?_
            refine r_topi (fun yq16 eyq16 => ?_)
            replace h := bnd_at h eyq16
            refine r_istore (lo' := [(6, .int yq16), (1, .int x1), (2, .int x2), (3, .int x3), (4, .int x4), (5, .int x5), (0, .ref (ad 90))]) dX12_nodeOf_95 (by decide) rfl ?_
            refine r_goto (t := 34) dX12_nodeOf_97 (by decide) ?_
            exact ab_E.lo [0, 1, 2, 3, 4, 5, 6] rfl (ih _ h)
          · replace h := ifp h qc14
            refine r_aload_n dX12_nodeOf_73 6 rfl ?_
            refine s_getR (b := 127) ok_X12 dX12_nodeOf_74 (k := 27) (by decide) fl_X12_45 rfl rfl rfl ?_
            refine r_iload dX12_nodeOf_77 0 rfl ?_
            obtain ⟨qg17, h⟩ := grd_at h
            refine s_iald dX12_nodeOf_79 rfl (inb_of qg17) ?_
            refine r_iload dX12_nodeOf_80 4 rfl ?_
            refine r_icmp_ne (t := 88) dX12_nodeOf_82 (by decide) (fun qc18 => ?_) (fun qc18 => ?_)
            · replace h := ifn h qc18
              refine r_aload_n dX12_nodeOf_88 6 rfl ?_
              refine s_getR (b := 128) ok_X12 dX12_nodeOf_89 (k := 28) (by decide) fl_X12_48 rfl rfl rfl ?_
              refine r_iload dX12_nodeOf_92 0 rfl ?_
              obtain ⟨qg19, h⟩ := grd_at h
              refine s_iald dX12_nodeOf_94 rfl (inb_of qg19) ?_
              refine r_topi (fun yq20 eyq20 => ?_)
              replace h := bnd_at h eyq20
              refine r_istore (lo' := [(6, .int yq20), (1, .int x1), (2, .int x2), (3, .int x3), (4, .int x4), (5, .int x5), (0, .ref (ad 90))]) dX12_nodeOf_95 (by decide) rfl ?_
              refine r_goto (t := 34) dX12_nodeOf_97 (by decide) ?_
              exact ab_E.lo [0, 1, 2, 3, 4, 5, 6] rfl (ih _ h)
            · replace h := ifp h qc18
              refine r_iload dX12_nodeOf_85 0 rfl ?_
              refine r_iret rfl dX12_nodeOf_87 ?_
              exact lfI h
set_option maxRecDepth 8000 in
def L_X12_nodeOf (F : Nat) (x1 : Int32) (x2 : Int32) (x3 : Int32) (x4 : Int32) (σ : sS) : Option (Int32 × sS) := bnd ((((x1 + ((17 : Int32) * x4)) + ((31 : Int32) * x3)) + ((7 : Int32) * (x2 + 2))) - (((x1 + ((17 : Int32) * x4)) + ((31 : Int32) * x3)) + ((7 : Int32) * (x2 + 2))) / 1024 * 1024) (fun yq1 => grd (inb yq1 1024) (bnd (vI σ 129 yq1.toNatClampNeg) (fun yq3 => L_X12_nodeOf_34 F x1 x2 x3 x4 yq1 σ (if (vI σ 90 33) = 300 then (bnd (uI σ 90 35 1) (fun σ19 => some (((-1), σ19)))) else (grd (inb (vI σ 90 33) 300) (bnd (uI σ 124 (vI σ 90 33).toNatClampNeg x1) (fun σ6 => grd (inb (vI σ6 90 33) 300) (bnd (uI σ6 125 (vI σ6 90 33).toNatClampNeg x2) (fun σ8 => grd (inb (vI σ8 90 33) 300) (bnd (uI σ8 126 (vI σ8 90 33).toNatClampNeg x3) (fun σ10 => grd (inb (vI σ10 90 33) 300) (bnd (uI σ10 127 (vI σ10 90 33).toNatClampNeg x4) (fun σ12 => grd (inb yq1 1024) (grd (inb (vI σ12 90 33) 300) (bnd (uI σ12 128 (vI σ12 90 33).toNatClampNeg (vI σ12 129 yq1.toNatClampNeg)) (fun σ15 => grd (inb yq1 1024) (bnd (uI σ15 129 yq1.toNatClampNeg (vI σ15 90 33)) (fun σ17 => bnd (uI σ17 90 33 ((vI σ17 90 33) + 1)) (fun σ18 => some (((vI σ18 90 33) - 1, σ18)))))))))))))))))) F yq3)))
set_option maxRecDepth 8000 in
theorem e_X12_nodeOf {ad : Nat → Nat} {F : Nat} {x1 : Int32} {x2 : Int32} {x3 : Int32} {x4 : Int32} {σ : sS} {z : (Int32 × sS)} (h : L_X12_nodeOf F x1 x2 x3 x4 σ = some z) : ab_E (sR ad) mX12_nodeOf 1 0 [(0, .ref (ad 90)), (1, .int x1), (2, .int x2), (3, .int x3), (4, .int x4)] [] σ (fun r9 σ9 => r9 = some (.int z.1) ∧ σ9 = z.2) := by
  unfold L_X12_nodeOf at h
  refine r_iload_n dX12_nodeOf_0 1 rfl ?_
  refine r_bipush (v := 17) dX12_nodeOf_1 (by decide) ?_
  refine r_iload dX12_nodeOf_3 4 rfl ?_
  refine r_imul dX12_nodeOf_5 ?_
  refine r_iadd dX12_nodeOf_6 ?_
  refine r_bipush (v := 31) dX12_nodeOf_7 (by decide) ?_
  refine r_iload_n dX12_nodeOf_9 3 rfl ?_
  refine r_imul dX12_nodeOf_10 ?_
  refine r_iadd dX12_nodeOf_11 ?_
  refine r_bipush (v := 7) dX12_nodeOf_12 (by decide) ?_
  refine r_iload_n dX12_nodeOf_14 2 rfl ?_
  refine r_iconst (v := 2) dX12_nodeOf_15 (by decide) ?_
  refine r_iadd dX12_nodeOf_16 ?_
  refine r_imul dX12_nodeOf_17 ?_
  refine r_iadd dX12_nodeOf_18 ?_
  refine r_sipush (v := 1024) dX12_nodeOf_19 (by decide) ?_
  refine r_irem dX12_nodeOf_22 (by decide) ?_
  refine r_topi (fun yq1 eyq1 => ?_)
  replace h := bnd_at h eyq1
  refine r_istore (lo' := [(5, .int yq1), (0, .ref (ad 90)), (1, .int x1), (2, .int x2), (3, .int x3), (4, .int x4)]) dX12_nodeOf_23 (by decide) rfl ?_
  refine r_aload_n dX12_nodeOf_25 1 rfl ?_
  refine s_getR (b := 129) ok_X12 dX12_nodeOf_26 (k := 29) (by decide) fl_X12_51 rfl rfl rfl ?_
  refine r_iload dX12_nodeOf_29 0 rfl ?_
  obtain ⟨qg2, h⟩ := grd_at h
  refine s_iald dX12_nodeOf_31 rfl (inb_of qg2) ?_
  refine r_topi (fun yq3 eyq3 => ?_)
  replace h := bnd_at h eyq3
  refine r_istore (lo' := [(6, .int yq3), (5, .int yq1), (0, .ref (ad 90)), (1, .int x1), (2, .int x2), (3, .int x3), (4, .int x4)]) dX12_nodeOf_32 (by decide) rfl ?_
  refine ab_E.lo [0, 3, 4, 5, 6, 1, 2] rfl (l_X12_nodeOf_34 (fun h => ?_) _ _ h)
  refine r_aload_n dX12_nodeOf_100 5 rfl ?_
  refine s_getI ok_X12 dX12_nodeOf_101 (k := 33) (by decide) fl_X12_334 rfl rfl ?_
  refine r_sipush (v := 300) dX12_nodeOf_104 (by decide) ?_
  refine r_icmp_ne (t := 117) dX12_nodeOf_107 (by decide) (fun qc4 => ?_) (fun qc4 => ?_)
  · replace h := ifn h qc4
    refine r_aload_n dX12_nodeOf_117 5 rfl ?_
    refine s_getR (b := 124) ok_X12 dX12_nodeOf_118 (k := 24) (by decide) fl_X12_36 rfl rfl rfl ?_
    refine r_aload_n dX12_nodeOf_121 5 rfl ?_
    refine s_getI ok_X12 dX12_nodeOf_122 (k := 33) (by decide) fl_X12_334 rfl rfl ?_
    refine r_iload_n dX12_nodeOf_125 0 rfl ?_
    obtain ⟨qg5, h⟩ := grd_at h
    refine s_iast dX12_nodeOf_126 rfl (inb_of qg5) ?_
    refine r_st (fun σ6 eσ6 => ?_)
    replace h := bnd_at h eσ6
    refine r_aload_n dX12_nodeOf_127 5 rfl ?_
    refine s_getR (b := 125) ok_X12 dX12_nodeOf_128 (k := 25) (by decide) fl_X12_39 rfl rfl rfl ?_
    refine r_aload_n dX12_nodeOf_131 5 rfl ?_
    refine s_getI ok_X12 dX12_nodeOf_132 (k := 33) (by decide) fl_X12_334 rfl rfl ?_
    refine r_iload_n dX12_nodeOf_135 1 rfl ?_
    obtain ⟨qg7, h⟩ := grd_at h
    refine s_iast dX12_nodeOf_136 rfl (inb_of qg7) ?_
    refine r_st (fun σ8 eσ8 => ?_)
    replace h := bnd_at h eσ8
    refine r_aload_n dX12_nodeOf_137 5 rfl ?_
    refine s_getR (b := 126) ok_X12 dX12_nodeOf_138 (k := 26) (by decide) fl_X12_42 rfl rfl rfl ?_
    refine r_aload_n dX12_nodeOf_141 5 rfl ?_
    refine s_getI ok_X12 dX12_nodeOf_142 (k := 33) (by decide) fl_X12_334 rfl rfl ?_
    refine r_iload_n dX12_nodeOf_145 2 rfl ?_
    obtain ⟨qg9, h⟩ := grd_at h
    refine s_iast dX12_nodeOf_146 rfl (inb_of qg9) ?_
    refine r_st (fun σ10 eσ10 => ?_)
    replace h := bnd_at h eσ10
    refine r_aload_n dX12_nodeOf_147 5 rfl ?_
    refine s_getR (b := 127) ok_X12 dX12_nodeOf_148 (k := 27) (by decide) fl_X12_45 rfl rfl rfl ?_
    refine r_aload_n dX12_nodeOf_151 5 rfl ?_
    refine s_getI ok_X12 dX12_nodeOf_152 (k := 33) (by decide) fl_X12_334 rfl rfl ?_
    refine r_iload dX12_nodeOf_155 3 rfl ?_
    obtain ⟨qg11, h⟩ := grd_at h
    refine s_iast dX12_nodeOf_157 rfl (inb_of qg11) ?_
    refine r_st (fun σ12 eσ12 => ?_)
    replace h := bnd_at h eσ12
    refine r_aload_n dX12_nodeOf_158 5 rfl ?_
    refine s_getR (b := 128) ok_X12 dX12_nodeOf_159 (k := 28) (by decide) fl_X12_48 rfl rfl rfl ?_
    refine r_aload_n dX12_nodeOf_162 5 rfl ?_
    refine s_getI ok_X12 dX12_nodeOf_163 (k := 33) (by decide) fl_X12_334 rfl rfl ?_
    refine r_aload_n dX12_nodeOf_166 5 rfl ?_
    refine s_getR (b := 129) ok_X12 dX12_nodeOf_167 (k := 29) (by decide) fl_X12_51 rfl rfl rfl ?_
    refine r_iload dX12_nodeOf_170 4 rfl ?_
    obtain ⟨qg13, h⟩ := grd_at h
    refine s_iald dX12_nodeOf_172 rfl (inb_of qg13) ?_
    obtain ⟨qg14, h⟩ := grd_at h
    refine s_iast dX12_nodeOf_173 rfl (inb_of qg14) ?_
    refine r_st (fun σ15 eσ15 => ?_)
    replace h := bnd_at h eσ15
    refine r_aload_n dX12_nodeOf_174 5 rfl ?_
    refine s_getR (b := 129) ok_X12 dX12_nodeOf_175 (k := 29) (by decide) fl_X12_51 rfl rfl rfl ?_
    refine r_iload dX12_nodeOf_178 4 rfl ?_
    refine r_aload_n dX12_nodeOf_180 5 rfl ?_
    refine s_getI ok_X12 dX12_nodeOf_181 (k := 33) (by decide) fl_X12_334 rfl rfl ?_
    obtain ⟨qg16, h⟩ := grd_at h
    refine s_iast dX12_nodeOf_184 rfl (inb_of qg16) ?_
    refine r_st (fun σ17 eσ17 => ?_)
    replace h := bnd_at h eσ17
    refine r_aload_n dX12_nodeOf_185 5 rfl ?_
    refine r_dup dX12_nodeOf_186 rfl ?_
    refine s_getI ok_X12 dX12_nodeOf_187 (k := 33) (by decide) fl_X12_334 rfl rfl ?_
    refine r_iconst (v := 1) dX12_nodeOf_190 (by decide) ?_
    refine r_iadd dX12_nodeOf_191 ?_
    refine s_putI ok_X12 dX12_nodeOf_192 (k := 33) (by decide) fl_X12_334 rfl rfl rfl rfl rfl ?_
    refine r_st (fun σ18 eσ18 => ?_)
    replace h := bnd_at h eσ18
    refine r_aload_n dX12_nodeOf_195 5 rfl ?_
    refine s_getI ok_X12 dX12_nodeOf_196 (k := 33) (by decide) fl_X12_334 rfl rfl ?_
    refine r_iconst (v := 1) dX12_nodeOf_199 (by decide) ?_
    refine r_isub dX12_nodeOf_200 ?_
    refine r_iret rfl dX12_nodeOf_201 ?_
    exact lfI h
  · replace h := ifp h qc4
    refine r_aload_n dX12_nodeOf_110 5 rfl ?_
    refine r_iconst (v := 1) dX12_nodeOf_111 (by decide) ?_
    refine s_putI ok_X12 dX12_nodeOf_112 (k := 35) (by decide) fl_X12_337 rfl (by decide) (by decide) rfl rfl ?_
    refine r_st (fun σ19 eσ19 => ?_)
    replace h := bnd_at h eσ19
    refine r_iconst (v := (-1)) dX12_nodeOf_115 (by decide) ?_
    refine r_iret rfl dX12_nodeOf_116 ?_
    exact lfI h
set_option maxRecDepth 8000 in
theorem lc_X12_nodeOf {ad : Nat → Nat} {F : Nat} {x1 : Int32} {x2 : Int32} {x3 : Int32} {x4 : Int32} {σ τ : sS} {r : Int32} (h : L_X12_nodeOf F x1 x2 x3 x4 σ = some (r, τ)) : ab_X (sR ad) 1 mX12_nodeOf [.ref (ad 90), .int x1, .int x2, .int x3, .int x4] σ (some (.int r)) τ := ab_X.of (by decide) (Nat.le_of_ble_eq_true rfl) (e_X12_nodeOf h)
set_option maxRecDepth 8000 in
def L_X12_goesTo (x1 : Int32) (σ : sS) : Option sS := if (vI σ 90 35) = 0 then (grd (inb (vI σ 90 34) 270300) (bnd (uI σ 131 (vI σ 90 34).toNatClampNeg x1) (fun σ3 => bnd (uI σ3 90 34 ((vI σ3 90 34) + 1)) (fun σ4 => some σ4)))) else (some σ)
set_option maxRecDepth 8000 in
theorem e_X12_goesTo {ad : Nat → Nat} {x1 : Int32} {σ : sS} {z : sS} (h : L_X12_goesTo x1 σ = some z) : ab_E (sR ad) mX12_goesTo 1 0 [(0, .ref (ad 90)), (1, .int x1)] [] σ (fun r9 σ9 => r9 = none ∧ σ9 = z) := by
  unfold L_X12_goesTo at h
  refine r_aload_n dX12_goesTo_0 0 rfl ?_
  refine s_getI ok_X12 dX12_goesTo_1 (k := 35) (by decide) fl_X12_337 rfl rfl ?_
  refine r_if_eq (t := 8) dX12_goesTo_4 (by decide) (fun qc1 => ?_) (fun qc1 => ?_)
  · replace h := ifp h qc1
    refine r_aload_n dX12_goesTo_8 0 rfl ?_
    refine s_getR (b := 131) ok_X12 dX12_goesTo_9 (k := 31) (by decide) fl_X12_58 rfl rfl rfl ?_
    refine r_aload_n dX12_goesTo_12 0 rfl ?_
    refine s_getI ok_X12 dX12_goesTo_13 (k := 34) (by decide) fl_X12_341 rfl rfl ?_
    refine r_iload_n dX12_goesTo_16 1 rfl ?_
    obtain ⟨qg2, h⟩ := grd_at h
    refine s_iast dX12_goesTo_17 rfl (inb_of qg2) ?_
    refine r_st (fun σ3 eσ3 => ?_)
    replace h := bnd_at h eσ3
    refine r_aload_n dX12_goesTo_18 0 rfl ?_
    refine r_dup dX12_goesTo_19 rfl ?_
    refine s_getI ok_X12 dX12_goesTo_20 (k := 34) (by decide) fl_X12_341 rfl rfl ?_
    refine r_iconst (v := 1) dX12_goesTo_23 (by decide) ?_
    refine r_iadd dX12_goesTo_24 ?_
    refine s_putI ok_X12 dX12_goesTo_25 (k := 34) (by decide) fl_X12_341 rfl rfl rfl rfl rfl ?_
    refine r_st (fun σ4 eσ4 => ?_)
    replace h := bnd_at h eσ4
    refine r_vret rfl dX12_goesTo_28 ?_
    exact lfV h
  · replace h := ifn h qc1
    refine r_vret rfl dX12_goesTo_7 ?_
    exact lfV h
set_option maxRecDepth 8000 in
theorem lc_X12_goesTo {ad : Nat → Nat} {x1 : Int32} {σ τ : sS} (h : L_X12_goesTo x1 σ = some τ) : ab_X (sR ad) 1 mX12_goesTo [.ref (ad 90), .int x1] σ none τ := ab_X.of (by decide) (Nat.le_of_ble_eq_true rfl) (e_X12_goesTo h)
set_option maxRecDepth 8000 in
def L_X12_goesFromSet_40 (F : Nat) (x1 : Int32) (x2 : Int32) (x3 : Int32) (kx : sS → Option sS) : Nat → Int32 → sS → Option sS
  | 0, _, _ => none
  | n + 1, x4, σ => if x4 = 0 then (kx σ) else (if (vI σ 90 35) = 0 then (bd (L_X12_isTight F x1 x2 x3 σ) (fun rq15 => if rq15 = 0 then (bd2 (L_X12_nextRanking F x2 x3 σ) (fun rq18 σ19 => L_X12_goesFromSet_40 F x1 x2 x3 kx n rq18 σ19)) else (bd (L_X12_packed F x2 σ) (fun rq21 => bd2 (L_X12_nodeOf F x2 x3 rq21 0 σ) (fun rq23 σ24 => bd (L_X12_goesTo rq23 σ24) (fun σ26 => bd2 (L_X12_nextRanking F x2 x3 σ26) (fun rq28 σ29 => L_X12_goesFromSet_40 F x1 x2 x3 kx n rq28 σ29))))))) else (kx σ))
set_option maxRecDepth 8000 in
theorem l_X12_goesFromSet_40 {ad : Nat → Nat} {F : Nat} {x1 : Int32} {x2 : Int32} {x3 : Int32} {z : sS} {kx : sS → Option sS} (hx : ∀  (σ : sS), kx σ = some z → ab_E (sR ad) mX12_goesFromSet 3 89 [(1, .int x1), (2, .int x2), (3, .int x3), (0, .ref (ad 90))] [] σ (fun r9 σ9 => r9 = none ∧ σ9 = z)) : ∀ (n : Nat) (x4 : Int32) (σ : sS), L_X12_goesFromSet_40 F x1 x2 x3 kx n x4 σ = some z → ab_E (sR ad) mX12_goesFromSet 3 40 [(4, .int x4), (1, .int x1), (2, .int x2), (3, .int x3), (0, .ref (ad 90))] [] σ (fun r9 σ9 => r9 = none ∧ σ9 = z) := by
  intro n
  induction n with
  | zero =>
    intro x4 σ h
    rw [L_X12_goesFromSet_40] at h
    cases h
  | succ n ih =>
    intro x4 σ h
    rw [L_X12_goesFromSet_40] at h
    refine r_iload dX12_goesFromSet_40 0 rfl ?_
    refine r_if_eq (t := 89) dX12_goesFromSet_42 (by decide) (fun qc12 => ?_) (fun qc12 => ?_)
    · replace h := ifp h qc12
      exact ab_E.lo [1, 2, 3, 4] rfl (hx _ h)
    · replace h := ifn h qc12
      refine r_aload_n dX12_goesFromSet_45 4 rfl ?_
      refine s_getI ok_X12 dX12_goesFromSet_46 (k := 35) (by decide) fl_X12_337 rfl rfl ?_
      refine r_if_ne (t := 89) dX12_goesFromSet_49 (by decide) (fun qc13 => ?_) (fun qc13 => ?_)
      · replace h := ifn h qc13
        exact ab_E.lo [1, 2, 3, 4] rfl (hx _ h)
      · replace h := ifp h qc13
        refine r_aload_n dX12_goesFromSet_52 4 rfl ?_
        refine r_iload_n dX12_goesFromSet_53 1 rfl ?_
        refine r_iload_n dX12_goesFromSet_54 2 rfl ?_
        refine r_iload_n dX12_goesFromSet_55 3 rfl ?_
        obtain ⟨rq15, qg14, h⟩ := bd_at h
        refine x_callV (Y := mX12_isTight) (d' := 1) dX12_goesFromSet_56 ml_X12_328 yv_X12_isTight (by omega) rfl rfl (by simp [Value.category]) (sR_is rfl rfl) (lc_X12_isTight qg14) ?_
        refine r_if_eq (t := 78) dX12_goesFromSet_59 (by decide) (fun qc16 => ?_) (fun qc16 => ?_)
        · replace h := ifp h qc16
          refine r_aload_n dX12_goesFromSet_78 4 rfl ?_
          refine r_iload_n dX12_goesFromSet_79 2 rfl ?_
          refine r_iload_n dX12_goesFromSet_80 3 rfl ?_
          obtain ⟨rq18, σ19, qg17, h⟩ := bd2_at h
          refine x_callV (Y := mX12_nextRanking) (d' := 1) dX12_goesFromSet_81 ml_X12_331 yv_X12_nextRanking (by omega) rfl rfl (by simp [Value.category]) (sR_is rfl rfl) (lc_X12_nextRanking qg17) ?_
          refine r_istore (lo' := [(4, .int rq18), (1, .int x1), (2, .int x2), (3, .int x3), (0, .ref (ad 90))]) dX12_goesFromSet_84 (by decide) rfl ?_
          refine r_goto (t := 40) dX12_goesFromSet_86 (by decide) ?_
          exact ab_E.lo [0, 1, 2, 3, 4] rfl (ih _ _ h)
        · replace h := ifn h qc16
          refine r_aload_n dX12_goesFromSet_62 4 rfl ?_
          refine r_aload_n dX12_goesFromSet_63 4 rfl ?_
          refine r_iload_n dX12_goesFromSet_64 2 rfl ?_
          refine r_iload_n dX12_goesFromSet_65 3 rfl ?_
          refine r_aload_n dX12_goesFromSet_66 4 rfl ?_
          refine r_iload_n dX12_goesFromSet_67 2 rfl ?_
          obtain ⟨rq21, qg20, h⟩ := bd_at h
          refine x_callV (Y := mX12_packed) (d' := 1) dX12_goesFromSet_68 ml_X12_350 yv_X12_packed (by omega) rfl rfl (by simp [Value.category]) (sR_is rfl rfl) (lc_X12_packed qg20) ?_
          refine r_iconst (v := 0) dX12_goesFromSet_71 (by decide) ?_
          obtain ⟨rq23, σ24, qg22, h⟩ := bd2_at h
          refine x_callV (Y := mX12_nodeOf) (d' := 1) dX12_goesFromSet_72 ml_X12_343 yv_X12_nodeOf (by omega) rfl rfl (by simp [Value.category]) (sR_is rfl rfl) (lc_X12_nodeOf qg22) ?_
          obtain ⟨σ26, qg25, h⟩ := bd_at h
          refine x_callV0 (Y := mX12_goesTo) (d' := 1) dX12_goesFromSet_75 ml_X12_347 yv_X12_goesTo (by omega) rfl rfl (by simp [Value.category]) (sR_is rfl rfl) (lc_X12_goesTo qg25) ?_
          refine r_aload_n dX12_goesFromSet_78 4 rfl ?_
          refine r_iload_n dX12_goesFromSet_79 2 rfl ?_
          refine r_iload_n dX12_goesFromSet_80 3 rfl ?_
          obtain ⟨rq28, σ29, qg27, h⟩ := bd2_at h
          refine x_callV (Y := mX12_nextRanking) (d' := 1) dX12_goesFromSet_81 ml_X12_331 yv_X12_nextRanking (by omega) rfl rfl (by simp [Value.category]) (sR_is rfl rfl) (lc_X12_nextRanking qg27) ?_
          refine r_istore (lo' := [(4, .int rq28), (1, .int x1), (2, .int x2), (3, .int x3), (0, .ref (ad 90))]) dX12_goesFromSet_84 (by decide) rfl ?_
          refine r_goto (t := 40) dX12_goesFromSet_86 (by decide) ?_
          exact ab_E.lo [0, 1, 2, 3, 4] rfl (ih _ _ h)
set_option maxRecDepth 8000 in
def L_X12_goesFromSet_15 (F : Nat) (x1 : Int32) (x2 : Int32) (kx : sS → Option sS) : Nat → Int32 → sS → Option sS
  | 0, _, _ => none
  | n + 1, x3, σ => bd (L_X12_boundOf x1 x2 σ) (fun rq7 => if rq7 < x3 then (kx σ) else (bd (L_X12_firstRanking F σ) (fun σ10 => if x2 = 0 then (L_X12_goesFromSet_40 F x1 x2 x3 (fun σ12 => L_X12_goesFromSet_15 F x1 x2 kx n (x3 + 2) σ12) F 0 σ10) else (L_X12_goesFromSet_40 F x1 x2 x3 (fun σ13 => L_X12_goesFromSet_15 F x1 x2 kx n (x3 + 2) σ13) F 1 σ10))))
set_option maxRecDepth 8000 in
theorem l_X12_goesFromSet_15 {ad : Nat → Nat} {F : Nat} {x1 : Int32} {x2 : Int32} {z : sS} {kx : sS → Option sS} (hx : ∀  (σ : sS), kx σ = some z → ab_E (sR ad) mX12_goesFromSet 3 95 [] [] σ (fun r9 σ9 => r9 = none ∧ σ9 = z)) : ∀ (n : Nat) (x3 : Int32) (σ : sS), L_X12_goesFromSet_15 F x1 x2 kx n x3 σ = some z → ab_E (sR ad) mX12_goesFromSet 3 15 [(3, .int x3), (1, .int x1), (2, .int x2), (0, .ref (ad 90))] [] σ (fun r9 σ9 => r9 = none ∧ σ9 = z) := by
  intro n
  induction n with
  | zero =>
    intro x3 σ h
    rw [L_X12_goesFromSet_15] at h
    cases h
  | succ n ih =>
    intro x3 σ h
    rw [L_X12_goesFromSet_15] at h
    refine r_iload_n dX12_goesFromSet_15 0 rfl ?_
    refine r_aload_n dX12_goesFromSet_16 3 rfl ?_
    refine r_iload_n dX12_goesFromSet_17 1 rfl ?_
    refine r_iload_n dX12_goesFromSet_18 2 rfl ?_
    obtain ⟨rq7, qg6, h⟩ := bd_at h
    refine x_callV (Y := mX12_boundOf) (d' := 2) dX12_goesFromSet_19 ml_X12_319 yv_X12_boundOf (by omega) rfl rfl (by simp [Value.category]) (sR_is rfl rfl) (lc_X12_boundOf qg6) ?_
    refine r_icmp_gt (t := 95) dX12_goesFromSet_22 (by decide) (fun qc8 => ?_) (fun qc8 => ?_)
    · replace h := ifp h qc8
      exact ab_E.lo [] rfl (hx _ h)
    · replace h := ifn h qc8
      refine r_aload_n dX12_goesFromSet_25 3 rfl ?_
      obtain ⟨σ10, qg9, h⟩ := bd_at h
      refine x_callV0 (Y := mX12_firstRanking) (d' := 1) dX12_goesFromSet_26 ml_X12_325 yv_X12_firstRanking (by omega) rfl rfl (by simp [Value.category]) (sR_is rfl rfl) (lc_X12_firstRanking qg9) ?_
      refine r_iload_n dX12_goesFromSet_29 2 rfl ?_
      refine r_if_eq (t := 37) dX12_goesFromSet_30 (by decide) (fun qc11 => ?_) (fun qc11 => ?_)
      · replace h := ifp h qc11
        refine r_iconst (v := 0) dX12_goesFromSet_37 (by decide) ?_
        refine r_istore (lo' := [(4, .int 0), (3, .int x3), (1, .int x1), (2, .int x2), (0, .ref (ad 90))]) dX12_goesFromSet_38 (by decide) rfl ?_
        refine ab_E.lo [0, 2, 3, 1, 4] rfl (l_X12_goesFromSet_40 (fun σ12 h => ?_) _ _ _ h)
        refine r_iinc (v := x3 + 2) (lo' := [(3, .int (x3 + 2)), (1, .int x1), (2, .int x2), (0, .ref (ad 90))]) dX12_goesFromSet_89 2 rfl rfl (by decide) rfl ?_
        refine r_goto (t := 15) dX12_goesFromSet_92 (by decide) ?_
        exact ab_E.lo [0, 1, 2, 3] rfl (ih _ _ h)
      · replace h := ifn h qc11
        refine r_iconst (v := 1) dX12_goesFromSet_33 (by decide) ?_
        refine r_goto (t := 38) dX12_goesFromSet_34 (by decide) ?_
        refine r_istore (lo' := [(4, .int 1), (3, .int x3), (1, .int x1), (2, .int x2), (0, .ref (ad 90))]) dX12_goesFromSet_38 (by decide) rfl ?_
        refine ab_E.lo [0, 2, 3, 1, 4] rfl (l_X12_goesFromSet_40 (fun σ13 h => ?_) _ _ _ h)
        refine r_iinc (v := x3 + 2) (lo' := [(3, .int (x3 + 2)), (1, .int x1), (2, .int x2), (0, .ref (ad 90))]) dX12_goesFromSet_89 2 rfl rfl (by decide) rfl ?_
        refine r_goto (t := 15) dX12_goesFromSet_92 (by decide) ?_
        exact ab_E.lo [0, 1, 2, 3] rfl (ih _ _ h)
set_option maxRecDepth 8000 in
def L_X12_goesFromSet (F : Nat) (x1 : Int32) (x2 : Int32) (σ : sS) : Option sS := bd2 (L_X12_nodeOf F x2 (-2) 0 0 σ) (fun rq2 σ3 => bd (L_X12_goesTo rq2 σ3) (fun σ5 => L_X12_goesFromSet_15 F x1 x2 (fun σ6 => some σ6) F 1 σ5))
set_option maxRecDepth 8000 in
theorem e_X12_goesFromSet {ad : Nat → Nat} {F : Nat} {x1 : Int32} {x2 : Int32} {σ : sS} {z : sS} (h : L_X12_goesFromSet F x1 x2 σ = some z) : ab_E (sR ad) mX12_goesFromSet 3 0 [(0, .ref (ad 90)), (1, .int x1), (2, .int x2)] [] σ (fun r9 σ9 => r9 = none ∧ σ9 = z) := by
  unfold L_X12_goesFromSet at h
  refine r_aload_n dX12_goesFromSet_0 0 rfl ?_
  refine r_aload_n dX12_goesFromSet_1 0 rfl ?_
  refine r_iload_n dX12_goesFromSet_2 2 rfl ?_
  refine r_bipush (v := (-2)) dX12_goesFromSet_3 (by decide) ?_
  refine r_iconst (v := 0) dX12_goesFromSet_5 (by decide) ?_
  refine r_iconst (v := 0) dX12_goesFromSet_6 (by decide) ?_
  obtain ⟨rq2, σ3, qg1, h⟩ := bd2_at h
  refine x_callV (Y := mX12_nodeOf) (d' := 1) dX12_goesFromSet_7 ml_X12_343 yv_X12_nodeOf (by omega) rfl rfl (by simp [Value.category]) (sR_is rfl rfl) (lc_X12_nodeOf qg1) ?_
  obtain ⟨σ5, qg4, h⟩ := bd_at h
  refine x_callV0 (Y := mX12_goesTo) (d' := 1) dX12_goesFromSet_10 ml_X12_347 yv_X12_goesTo (by omega) rfl rfl (by simp [Value.category]) (sR_is rfl rfl) (lc_X12_goesTo qg4) ?_
  refine r_iconst (v := 1) dX12_goesFromSet_13 (by decide) ?_
  refine r_istore_n (lo' := [(3, .int 1), (0, .ref (ad 90)), (1, .int x1), (2, .int x2)]) dX12_goesFromSet_14 (by decide) rfl ?_
  refine ab_E.lo [0, 2, 3, 1] rfl (l_X12_goesFromSet_15 (fun σ6 h => ?_) _ _ _ h)
  refine r_vret rfl dX12_goesFromSet_95 ?_
  exact lfV h
set_option maxRecDepth 8000 in
theorem lc_X12_goesFromSet {ad : Nat → Nat} {F : Nat} {x1 : Int32} {x2 : Int32} {σ τ : sS} (h : L_X12_goesFromSet F x1 x2 σ = some τ) : ab_X (sR ad) 3 mX12_goesFromSet [.ref (ad 90), .int x1, .int x2] σ none τ := ab_X.of (by decide) (Nat.le_of_ble_eq_true rfl) (e_X12_goesFromSet h)
set_option maxRecDepth 8000 in
def L_X12_mostOf_7 (F : Nat) (x1 : Int32) (x2 : Int32) (x3 : Int32) (x4 : Int32) (σ : sS) (kx : Int32 → Option Int32) : Nat → Int32 → Int32 → Option Int32
  | 0, _, _ => none
  | n + 1, x5, x6 => if 4 ≤ x6 then (kx x5) else (grd (inb x2 300) (if (((vI σ 124 x2.toNatClampNeg) >>> (x6 &&& 31)) &&& 1) = 1 then (bd (L_X12_edgesOf x1 x3 x6 σ) (fun rq5 => if ((rq5 >>> (x4 &&& 31)) &&& 1) = 1 then (grd (inb x2 300) (if x5 ≤ (L_X12_rankIn (vI σ 126 x2.toNatClampNeg) x6) then (L_X12_mostOf_7 F x1 x2 x3 x4 σ kx n x5 (x6 + 1)) else (grd (inb x2 300) (bnd (L_X12_rankIn (vI σ 126 x2.toNatClampNeg) x6) (fun yq10 => L_X12_mostOf_7 F x1 x2 x3 x4 σ kx n yq10 (x6 + 1)))))) else (L_X12_mostOf_7 F x1 x2 x3 x4 σ kx n x5 (x6 + 1)))) else (L_X12_mostOf_7 F x1 x2 x3 x4 σ kx n x5 (x6 + 1))))
set_option maxRecDepth 8000 in
theorem l_X12_mostOf_7 {ad : Nat → Nat} {F : Nat} {x1 : Int32} {x2 : Int32} {x3 : Int32} {x4 : Int32} {σ : sS} {z : Int32} {kx : Int32 → Option Int32} (hx : ∀ (x5 : Int32), kx x5 = some z → ab_E (sR ad) mX12_mostOf 2 80 [(5, .int x5)] [] σ (fun r9 σ9 => r9 = some (.int z) ∧ σ9 = σ)) : ∀ (n : Nat) (x5 : Int32) (x6 : Int32), L_X12_mostOf_7 F x1 x2 x3 x4 σ kx n x5 x6 = some z → ab_E (sR ad) mX12_mostOf 2 7 [(5, .int x5), (6, .int x6), (1, .int x1), (2, .int x2), (3, .int x3), (4, .int x4), (0, .ref (ad 90))] [] σ (fun r9 σ9 => r9 = some (.int z) ∧ σ9 = σ) := by
  intro n
  induction n with
  | zero =>
    intro x5 x6 h
    rw [L_X12_mostOf_7] at h
    cases h
  | succ n ih =>
    intro x5 x6 h
    rw [L_X12_mostOf_7] at h
    refine r_iload dX12_mostOf_7 1 rfl ?_
    refine r_iconst (v := 4) dX12_mostOf_9 (by decide) ?_
    refine r_icmp_ge (t := 80) dX12_mostOf_10 (by decide) (fun qc1 => ?_) (fun qc1 => ?_)
    · replace h := ifp h qc1
      exact ab_E.lo [0] rfl (hx _ h)
    · replace h := ifn h qc1
      refine r_aload_n dX12_mostOf_13 6 rfl ?_
      refine s_getR (b := 124) ok_X12 dX12_mostOf_14 (k := 24) (by decide) fl_X12_36 rfl rfl rfl ?_
      refine r_iload_n dX12_mostOf_17 3 rfl ?_
      obtain ⟨qg2, h⟩ := grd_at h
      refine s_iald dX12_mostOf_18 rfl (inb_of qg2) ?_
      refine r_iload dX12_mostOf_19 1 rfl ?_
      refine r_ishr dX12_mostOf_21 ?_
      refine r_iconst (v := 1) dX12_mostOf_22 (by decide) ?_
      refine r_iand dX12_mostOf_23 ?_
      refine r_iconst (v := 1) dX12_mostOf_24 (by decide) ?_
      refine r_icmp_ne (t := 74) dX12_mostOf_25 (by decide) (fun qc3 => ?_) (fun qc3 => ?_)
      · replace h := ifn h qc3
        refine r_iinc (v := x6 + 1) (lo' := [(6, .int (x6 + 1)), (5, .int x5), (1, .int x1), (2, .int x2), (3, .int x3), (4, .int x4), (0, .ref (ad 90))]) dX12_mostOf_74 1 rfl rfl (by decide) rfl ?_
        refine r_goto (t := 7) dX12_mostOf_77 (by decide) ?_
        exact ab_E.lo [1, 0, 2, 3, 4, 5, 6] rfl (ih _ _ h)
      · replace h := ifp h qc3
        refine r_aload_n dX12_mostOf_28 6 rfl ?_
        refine r_iload_n dX12_mostOf_29 2 rfl ?_
        refine r_iload_n dX12_mostOf_30 4 rfl ?_
        refine r_iload dX12_mostOf_31 1 rfl ?_
        obtain ⟨rq5, qg4, h⟩ := bd_at h
        refine x_callV (Y := mX12_edgesOf) (d' := 1) dX12_mostOf_33 ml_X12_309 yv_X12_edgesOf (by omega) rfl rfl (by simp [Value.category]) (sR_is rfl rfl) (lc_X12_edgesOf qg4) ?_
        refine r_iload dX12_mostOf_36 5 rfl ?_
        refine r_ishr dX12_mostOf_38 ?_
        refine r_iconst (v := 1) dX12_mostOf_39 (by decide) ?_
        refine r_iand dX12_mostOf_40 ?_
        refine r_iconst (v := 1) dX12_mostOf_41 (by decide) ?_
        refine r_icmp_ne (t := 74) dX12_mostOf_42 (by decide) (fun qc6 => ?_) (fun qc6 => ?_)
        · replace h := ifn h qc6
          refine r_iinc (v := x6 + 1) (lo' := [(6, .int (x6 + 1)), (5, .int x5), (1, .int x1), (2, .int x2), (3, .int x3), (4, .int x4), (0, .ref (ad 90))]) dX12_mostOf_74 1 rfl rfl (by decide) rfl ?_
          refine r_goto (t := 7) dX12_mostOf_77 (by decide) ?_
          exact ab_E.lo [1, 0, 2, 3, 4, 5, 6] rfl (ih _ _ h)
        · replace h := ifp h qc6
          refine r_aload_n dX12_mostOf_45 6 rfl ?_
          refine s_getR (b := 126) ok_X12 dX12_mostOf_46 (k := 26) (by decide) fl_X12_42 rfl rfl rfl ?_
          refine r_iload_n dX12_mostOf_49 3 rfl ?_
          obtain ⟨qg7, h⟩ := grd_at h
          refine s_iald dX12_mostOf_50 rfl (inb_of qg7) ?_
          refine r_iload dX12_mostOf_51 1 rfl ?_
          refine x_callS (Y := mX12_rankIn) (d' := 1) dX12_mostOf_53 ml_X12_353 ys_X12_rankIn (by omega) rfl rfl (by simp [Value.category]) (lc_X12_rankIn (vI σ 126 x2.toNatClampNeg) x6 σ) ?_
          refine r_iload dX12_mostOf_56 0 rfl ?_
          refine r_icmp_ge (t := 74) dX12_mostOf_58 (by decide) (fun qc8 => ?_) (fun qc8 => ?_)
          · replace h := ifp h qc8
            refine r_iinc (v := x6 + 1) (lo' := [(6, .int (x6 + 1)), (5, .int x5), (1, .int x1), (2, .int x2), (3, .int x3), (4, .int x4), (0, .ref (ad 90))]) dX12_mostOf_74 1 rfl rfl (by decide) rfl ?_
            refine r_goto (t := 7) dX12_mostOf_77 (by decide) ?_
            exact ab_E.lo [1, 0, 2, 3, 4, 5, 6] rfl (ih _ _ h)
          · replace h := ifn h qc8
            refine r_aload_n dX12_mostOf_61 6 rfl ?_
            refine s_getR (b := 126) ok_X12 dX12_mostOf_62 (k := 26) (by decide) fl_X12_42 rfl rfl rfl ?_
            refine r_iload_n dX12_mostOf_65 3 rfl ?_
            obtain ⟨qg9, h⟩ := grd_at h
            refine s_iald dX12_mostOf_66 rfl (inb_of qg9) ?_
            refine r_iload dX12_mostOf_67 1 rfl ?_
            refine x_callS (Y := mX12_rankIn) (d' := 1) dX12_mostOf_69 ml_X12_353 ys_X12_rankIn (by omega) rfl rfl (by simp [Value.category]) (lc_X12_rankIn (vI σ 126 x2.toNatClampNeg) x6 σ) ?_
            refine r_topi (fun yq10 eyq10 => ?_)
            replace h := bnd_at h eyq10
            refine r_istore (lo' := [(5, .int yq10), (6, .int x6), (1, .int x1), (2, .int x2), (3, .int x3), (4, .int x4), (0, .ref (ad 90))]) dX12_mostOf_72 (by decide) rfl ?_
            refine r_iinc (v := x6 + 1) (lo' := [(6, .int (x6 + 1)), (5, .int yq10), (1, .int x1), (2, .int x2), (3, .int x3), (4, .int x4), (0, .ref (ad 90))]) dX12_mostOf_74 1 rfl rfl (by decide) rfl ?_
            refine r_goto (t := 7) dX12_mostOf_77 (by decide) ?_
            exact ab_E.lo [1, 0, 2, 3, 4, 5, 6] rfl (ih _ _ h)
set_option maxRecDepth 8000 in
def L_X12_mostOf (F : Nat) (x1 : Int32) (x2 : Int32) (x3 : Int32) (x4 : Int32) (σ : sS) : Option Int32 := L_X12_mostOf_7 F x1 x2 x3 x4 σ (fun yq1 => some yq1) F 7 0
set_option maxRecDepth 8000 in
theorem e_X12_mostOf {ad : Nat → Nat} {F : Nat} {x1 : Int32} {x2 : Int32} {x3 : Int32} {x4 : Int32} {σ : sS} {z : Int32} (h : L_X12_mostOf F x1 x2 x3 x4 σ = some z) : ab_E (sR ad) mX12_mostOf 2 0 [(0, .ref (ad 90)), (1, .int x1), (2, .int x2), (3, .int x3), (4, .int x4)] [] σ (fun r9 σ9 => r9 = some (.int z) ∧ σ9 = σ) := by
  unfold L_X12_mostOf at h
  refine r_bipush (v := 7) dX12_mostOf_0 (by decide) ?_
  refine r_istore (lo' := [(5, .int 7), (0, .ref (ad 90)), (1, .int x1), (2, .int x2), (3, .int x3), (4, .int x4)]) dX12_mostOf_2 (by decide) rfl ?_
  refine r_iconst (v := 0) dX12_mostOf_4 (by decide) ?_
  refine r_istore (lo' := [(6, .int 0), (5, .int 7), (0, .ref (ad 90)), (1, .int x1), (2, .int x2), (3, .int x3), (4, .int x4)]) dX12_mostOf_5 (by decide) rfl ?_
  refine ab_E.lo [1, 0, 3, 4, 5, 6, 2] rfl (l_X12_mostOf_7 (fun yq1 h => ?_) _ _ _ h)
  refine r_iload dX12_mostOf_80 0 rfl ?_
  refine r_iret rfl dX12_mostOf_82 ?_
  exact lfP h
set_option maxRecDepth 8000 in
theorem lc_X12_mostOf {ad : Nat → Nat} {F : Nat} {x1 : Int32} {x2 : Int32} {x3 : Int32} {x4 : Int32} {σ : sS} {r : Int32} (h : L_X12_mostOf F x1 x2 x3 x4 σ = some r) : ab_X (sR ad) 2 mX12_mostOf [.ref (ad 90), .int x1, .int x2, .int x3, .int x4] σ (some (.int r)) σ := ab_X.of (by decide) (Nat.le_of_ble_eq_true rfl) (e_X12_mostOf h)
set_option maxRecDepth 8000 in
def L_X12_isUnder_2 (F : Nat) (x1 : Int32) (σ : sS) (kx : Option Int32) : Nat → Int32 → Option Int32
  | 0, _ => none
  | n + 1, x2 => if 4 ≤ x2 then (kx) else (if ((x1 >>> (x2 &&& 31)) &&& 1) = 1 then (grd (inb x2 4) (grd (inb x2 4) (if (vI σ 123 x2.toNatClampNeg) ≤ (vI σ 136 x2.toNatClampNeg) then (L_X12_isUnder_2 F x1 σ kx n (x2 + 1)) else (some ((0 : Int32)))))) else (L_X12_isUnder_2 F x1 σ kx n (x2 + 1)))
set_option maxRecDepth 8000 in
theorem l_X12_isUnder_2 {ad : Nat → Nat} {F : Nat} {x1 : Int32} {σ : sS} {z : Int32} {kx : Option Int32} (hx : kx  = some z → ab_E (sR ad) mX12_isUnder 1 39 [] [] σ (fun r9 σ9 => r9 = some (.int z) ∧ σ9 = σ)) : ∀ (n : Nat) (x2 : Int32), L_X12_isUnder_2 F x1 σ kx n x2 = some z → ab_E (sR ad) mX12_isUnder 1 2 [(2, .int x2), (1, .int x1), (0, .ref (ad 90))] [] σ (fun r9 σ9 => r9 = some (.int z) ∧ σ9 = σ) := by
  intro n
  induction n with
  | zero =>
    intro x2 h
    rw [L_X12_isUnder_2] at h
    cases h
  | succ n ih =>
    intro x2 h
    rw [L_X12_isUnder_2] at h
    refine r_iload_n dX12_isUnder_2 0 rfl ?_
    refine r_iconst (v := 4) dX12_isUnder_3 (by decide) ?_
    refine r_icmp_ge (t := 39) dX12_isUnder_4 (by decide) (fun qc1 => ?_) (fun qc1 => ?_)
    · replace h := ifp h qc1
      exact ab_E.lo [] rfl (hx  h)
    · replace h := ifn h qc1
      refine r_iload_n dX12_isUnder_7 1 rfl ?_
      refine r_iload_n dX12_isUnder_8 0 rfl ?_
      refine r_ishr dX12_isUnder_9 ?_
      refine r_iconst (v := 1) dX12_isUnder_10 (by decide) ?_
      refine r_iand dX12_isUnder_11 ?_
      refine r_iconst (v := 1) dX12_isUnder_12 (by decide) ?_
      refine r_icmp_ne (t := 33) dX12_isUnder_13 (by decide) (fun qc2 => ?_) (fun qc2 => ?_)
      · replace h := ifn h qc2
        refine r_iinc (v := x2 + 1) (lo' := [(2, .int (x2 + 1)), (1, .int x1), (0, .ref (ad 90))]) dX12_isUnder_33 0 rfl rfl (by decide) rfl ?_
        refine r_goto (t := 2) dX12_isUnder_36 (by decide) ?_
        exact ab_E.lo [0, 1, 2] rfl (ih _ h)
      · replace h := ifp h qc2
        refine r_aload_n dX12_isUnder_16 2 rfl ?_
        refine s_getR (b := 123) ok_X12 dX12_isUnder_17 (k := 23) (by decide) fl_X12_33 rfl rfl rfl ?_
        refine r_iload_n dX12_isUnder_20 0 rfl ?_
        obtain ⟨qg3, h⟩ := grd_at h
        refine s_iald dX12_isUnder_21 rfl (inb_of qg3) ?_
        refine r_aload_n dX12_isUnder_22 2 rfl ?_
        refine s_getR (b := 136) ok_X12 dX12_isUnder_23 (k := 36) (by decide) fl_X12_64 rfl rfl rfl ?_
        refine r_iload_n dX12_isUnder_26 0 rfl ?_
        obtain ⟨qg4, h⟩ := grd_at h
        refine s_iald dX12_isUnder_27 rfl (inb_of qg4) ?_
        refine r_icmp_le (t := 33) dX12_isUnder_28 (by decide) (fun qc5 => ?_) (fun qc5 => ?_)
        · replace h := ifp h qc5
          refine r_iinc (v := x2 + 1) (lo' := [(2, .int (x2 + 1)), (1, .int x1), (0, .ref (ad 90))]) dX12_isUnder_33 0 rfl rfl (by decide) rfl ?_
          refine r_goto (t := 2) dX12_isUnder_36 (by decide) ?_
          exact ab_E.lo [0, 1, 2] rfl (ih _ h)
        · replace h := ifn h qc5
          refine r_iconst (v := 0) dX12_isUnder_31 (by decide) ?_
          refine r_zret rfl (by decide) dX12_isUnder_32 ?_
          exact lfP h
set_option maxRecDepth 8000 in
def L_X12_isUnder (F : Nat) (x1 : Int32) (σ : sS) : Option Int32 := L_X12_isUnder_2 F x1 σ (some ((1 : Int32))) F 0
set_option maxRecDepth 8000 in
theorem e_X12_isUnder {ad : Nat → Nat} {F : Nat} {x1 : Int32} {σ : sS} {z : Int32} (h : L_X12_isUnder F x1 σ = some z) : ab_E (sR ad) mX12_isUnder 1 0 [(0, .ref (ad 90)), (1, .int x1)] [] σ (fun r9 σ9 => r9 = some (.int z) ∧ σ9 = σ) := by
  unfold L_X12_isUnder at h
  refine r_iconst (v := 0) dX12_isUnder_0 (by decide) ?_
  refine r_istore_n (lo' := [(2, .int 0), (0, .ref (ad 90)), (1, .int x1)]) dX12_isUnder_1 (by decide) rfl ?_
  refine ab_E.lo [0, 2, 1] rfl (l_X12_isUnder_2 (fun h => ?_) _ _ h)
  refine r_iconst (v := 1) dX12_isUnder_39 (by decide) ?_
  refine r_zret rfl (by decide) dX12_isUnder_40 ?_
  exact lfP h
set_option maxRecDepth 8000 in
theorem lc_X12_isUnder {ad : Nat → Nat} {F : Nat} {x1 : Int32} {σ : sS} {r : Int32} (h : L_X12_isUnder F x1 σ = some r) : ab_X (sR ad) 1 mX12_isUnder [.ref (ad 90), .int x1] σ (some (.int r)) σ := ab_X.of (by decide) (Nat.le_of_ble_eq_true rfl) (e_X12_isUnder h)
