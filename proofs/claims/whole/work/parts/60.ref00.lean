/-! the reference, lifted, 0 -/
set_option maxRecDepth 8000 in
def L_X12_thrown (σ : sS) : Int32 := vI σ 90 0
set_option maxRecDepth 8000 in
theorem e_X12_thrown {ad : Nat → Nat}  {σ : sS} {z : Int32} (h : L_X12_thrown σ = z) : ab_E (sR ad) mX12_thrown 1 0 [(0, .ref (ad 90))] [] σ (fun r9 σ9 => r9 = some (.int z) ∧ σ9 = σ) := by
  unfold L_X12_thrown at h
  refine r_aload_n dX12_thrown_0 0 rfl ?_
  refine s_getI ok_X12 dX12_thrown_1 (k := 0) (by decide) fl_X12_131 rfl rfl ?_
  refine r_iret rfl dX12_thrown_4 ?_
  exact lfT h
set_option maxRecDepth 8000 in
theorem lc_X12_thrown {ad : Nat → Nat}  (σ : sS) : ab_X (sR ad) 1 mX12_thrown [.ref (ad 90)] σ (some (.int (L_X12_thrown σ))) σ := ab_X.of (by decide) (Nat.le_of_ble_eq_true rfl) (e_X12_thrown rfl)
set_option maxRecDepth 8000 in
def L_X12_refused (x1 : Int32) (σ : sS) : Option (Int32 × sS) := bnd (uI σ 90 1 x1) (fun σ1 => bnd (uI σ1 90 2 ((-1))) (fun σ2 => some (((-1), σ2))))
set_option maxRecDepth 8000 in
theorem e_X12_refused {ad : Nat → Nat} {x1 : Int32} {σ : sS} {z : (Int32 × sS)} (h : L_X12_refused x1 σ = some z) : ab_E (sR ad) mX12_refused 1 0 [(0, .ref (ad 90)), (1, .int x1)] [] σ (fun r9 σ9 => r9 = some (.int z.1) ∧ σ9 = z.2) := by
  unfold L_X12_refused at h
  refine r_aload_n dX12_refused_0 0 rfl ?_
  refine r_iload_n dX12_refused_1 1 rfl ?_
  refine s_putI ok_X12 dX12_refused_2 (k := 1) (by decide) fl_X12_134 rfl rfl rfl rfl rfl ?_
  refine r_st (fun σ1 eσ1 => ?_)
  replace h := bnd_at h eσ1
  refine r_aload_n dX12_refused_5 0 rfl ?_
  refine r_iconst (v := (-1)) dX12_refused_6 (by decide) ?_
  refine s_putI ok_X12 dX12_refused_7 (k := 2) (by decide) fl_X12_9 rfl rfl rfl rfl rfl ?_
  refine r_st (fun σ2 eσ2 => ?_)
  replace h := bnd_at h eσ2
  refine r_iconst (v := (-1)) dX12_refused_10 (by decide) ?_
  refine r_iret rfl dX12_refused_11 ?_
  exact lfI h
set_option maxRecDepth 8000 in
theorem lc_X12_refused {ad : Nat → Nat} {x1 : Int32} {σ τ : sS} {r : Int32} (h : L_X12_refused x1 σ = some (r, τ)) : ab_X (sR ad) 1 mX12_refused [.ref (ad 90), .int x1] σ (some (.int r)) τ := ab_X.of (by decide) (Nat.le_of_ble_eq_true rfl) (e_X12_refused h)
set_option maxRecDepth 8000 in
def L_X12_good (x1 : Int32) (σ : sS) : Option (Int32 × sS) := bnd (uI σ 90 1 0) (fun σ1 => bnd (uI σ1 90 2 ((-1))) (fun σ2 => some ((x1, σ2))))
set_option maxRecDepth 8000 in
theorem e_X12_good {ad : Nat → Nat} {x1 : Int32} {σ : sS} {z : (Int32 × sS)} (h : L_X12_good x1 σ = some z) : ab_E (sR ad) mX12_good 1 0 [(0, .ref (ad 90)), (1, .int x1)] [] σ (fun r9 σ9 => r9 = some (.int z.1) ∧ σ9 = z.2) := by
  unfold L_X12_good at h
  refine r_aload_n dX12_good_0 0 rfl ?_
  refine r_iconst (v := 0) dX12_good_1 (by decide) ?_
  refine s_putI ok_X12 dX12_good_2 (k := 1) (by decide) fl_X12_134 rfl rfl rfl rfl rfl ?_
  refine r_st (fun σ1 eσ1 => ?_)
  replace h := bnd_at h eσ1
  refine r_aload_n dX12_good_5 0 rfl ?_
  refine r_iconst (v := (-1)) dX12_good_6 (by decide) ?_
  refine s_putI ok_X12 dX12_good_7 (k := 2) (by decide) fl_X12_9 rfl rfl rfl rfl rfl ?_
  refine r_st (fun σ2 eσ2 => ?_)
  replace h := bnd_at h eσ2
  refine r_iload_n dX12_good_10 1 rfl ?_
  refine r_iret rfl dX12_good_11 ?_
  exact lfI h
set_option maxRecDepth 8000 in
theorem lc_X12_good {ad : Nat → Nat} {x1 : Int32} {σ τ : sS} {r : Int32} (h : L_X12_good x1 σ = some (r, τ)) : ab_X (sR ad) 1 mX12_good [.ref (ad 90), .int x1] σ (some (.int r)) τ := ab_X.of (by decide) (Nat.le_of_ble_eq_true rfl) (e_X12_good h)
set_option maxRecDepth 8000 in
def L_X12_in (x0 : Int32) (x1 : Int32) (x2 : Int32) : Int32 := if x0 < x1 then ((0 : Int32)) else (if x2 < x0 then ((0 : Int32)) else ((1 : Int32)))
set_option maxRecDepth 8000 in
theorem e_X12_in {ad : Nat → Nat} {x0 : Int32} {x1 : Int32} {x2 : Int32} {σ : sS} {z : Int32} (h : L_X12_in x0 x1 x2 = z) : ab_E (sR ad) mX12_in 1 0 [(0, .int x0), (1, .int x1), (2, .int x2)] [] σ (fun r9 σ9 => r9 = some (.int z) ∧ σ9 = σ) := by
  unfold L_X12_in at h
  refine r_iload_n dX12_in_0 0 rfl ?_
  refine r_iload_n dX12_in_1 1 rfl ?_
  refine r_icmp_lt (t := 14) dX12_in_2 (by decide) (fun qc1 => ?_) (fun qc1 => ?_)
  · replace h := ifp h qc1
    refine r_iconst (v := 0) dX12_in_14 (by decide) ?_
    refine r_zret rfl (by decide) dX12_in_15 ?_
    exact lfT h
  · replace h := ifn h qc1
    refine r_iload_n dX12_in_5 0 rfl ?_
    refine r_iload_n dX12_in_6 2 rfl ?_
    refine r_icmp_gt (t := 14) dX12_in_7 (by decide) (fun qc2 => ?_) (fun qc2 => ?_)
    · replace h := ifp h qc2
      refine r_iconst (v := 0) dX12_in_14 (by decide) ?_
      refine r_zret rfl (by decide) dX12_in_15 ?_
      exact lfT h
    · replace h := ifn h qc2
      refine r_iconst (v := 1) dX12_in_10 (by decide) ?_
      refine r_goto (t := 15) dX12_in_11 (by decide) ?_
      refine r_zret rfl (by decide) dX12_in_15 ?_
      exact lfT h
set_option maxRecDepth 8000 in
theorem lc_X12_in {ad : Nat → Nat} (x0 : Int32) (x1 : Int32) (x2 : Int32) (σ : sS) : ab_X (sR ad) 1 mX12_in [.int x0, .int x1, .int x2] σ (some (.int (L_X12_in x0 x1 x2))) σ := ab_X.of (by decide) (Nat.le_of_ble_eq_true rfl) (e_X12_in rfl)
set_option maxRecDepth 8000 in
def L_X12_feed_23 (F : Nat) (x1 : Int32) (x2 : Int32) (x3 : Int32) (x4 : Int32) (x5 : Int32) (kx : sS → Option (Int32 × sS)) : Nat → Int32 → sS → Option (Int32 × sS)
  | 0, _, _ => none
  | n + 1, x6, σ => if 20 ≤ x6 then (kx σ) else (if 4 ≤ x6 then (if 8 ≤ x6 then (if 12 ≤ x6 then (if 16 ≤ x6 then (grd (inb ((vI σ 90 4) + x6) 400) (bnd (uI σ 103 ((vI σ 90 4) + x6).toNatClampNeg ((x5 >>> (((24 : Int32) - ((8 : Int32) * (x6 - x6 / 4 * 4))) &&& 31)) &&& 255)) (fun σ9 => L_X12_feed_23 F x1 x2 x3 x4 x5 kx n (x6 + 1) σ9))) else (grd (inb ((vI σ 90 4) + x6) 400) (bnd (uI σ 103 ((vI σ 90 4) + x6).toNatClampNeg ((x4 >>> (((24 : Int32) - ((8 : Int32) * (x6 - x6 / 4 * 4))) &&& 31)) &&& 255)) (fun σ11 => L_X12_feed_23 F x1 x2 x3 x4 x5 kx n (x6 + 1) σ11)))) else (grd (inb ((vI σ 90 4) + x6) 400) (bnd (uI σ 103 ((vI σ 90 4) + x6).toNatClampNeg ((x3 >>> (((24 : Int32) - ((8 : Int32) * (x6 - x6 / 4 * 4))) &&& 31)) &&& 255)) (fun σ13 => L_X12_feed_23 F x1 x2 x3 x4 x5 kx n (x6 + 1) σ13)))) else (grd (inb ((vI σ 90 4) + x6) 400) (bnd (uI σ 103 ((vI σ 90 4) + x6).toNatClampNeg ((x2 >>> (((24 : Int32) - ((8 : Int32) * (x6 - x6 / 4 * 4))) &&& 31)) &&& 255)) (fun σ15 => L_X12_feed_23 F x1 x2 x3 x4 x5 kx n (x6 + 1) σ15)))) else (grd (inb ((vI σ 90 4) + x6) 400) (bnd (uI σ 103 ((vI σ 90 4) + x6).toNatClampNeg ((x1 >>> (((24 : Int32) - ((8 : Int32) * (x6 - x6 / 4 * 4))) &&& 31)) &&& 255)) (fun σ17 => L_X12_feed_23 F x1 x2 x3 x4 x5 kx n (x6 + 1) σ17))))
set_option maxRecDepth 8000 in
theorem l_X12_feed_23 {ad : Nat → Nat} {F : Nat} {x1 : Int32} {x2 : Int32} {x3 : Int32} {x4 : Int32} {x5 : Int32} {z : (Int32 × sS)} {kx : sS → Option (Int32 × sS)} (hx : ∀  (σ : sS), kx σ = some z → ab_E (sR ad) mX12_feed 1 113 [(0, .ref (ad 90))] [] σ (fun r9 σ9 => r9 = some (.int z.1) ∧ σ9 = z.2)) : ∀ (n : Nat) (x6 : Int32) (σ : sS), L_X12_feed_23 F x1 x2 x3 x4 x5 kx n x6 σ = some z → ab_E (sR ad) mX12_feed 1 23 [(6, .int x6), (1, .int x1), (2, .int x2), (3, .int x3), (4, .int x4), (5, .int x5), (0, .ref (ad 90))] [] σ (fun r9 σ9 => r9 = some (.int z.1) ∧ σ9 = z.2) := by
  intro n
  induction n with
  | zero =>
    intro x6 σ h
    rw [L_X12_feed_23] at h
    cases h
  | succ n ih =>
    intro x6 σ h
    rw [L_X12_feed_23] at h
    refine r_iload dX12_feed_23 0 rfl ?_
    refine r_bipush (v := 20) dX12_feed_25 (by decide) ?_
    refine r_icmp_ge (t := 113) dX12_feed_27 (by decide) (fun qc3 => ?_) (fun qc3 => ?_)
    · replace h := ifp h qc3
      exact ab_E.lo [6] rfl (hx _ h)
    · replace h := ifn h qc3
      refine r_iload dX12_feed_30 0 rfl ?_
      refine r_iconst (v := 4) dX12_feed_32 (by decide) ?_
      refine r_icmp_ge (t := 40) dX12_feed_33 (by decide) (fun qc4 => ?_) (fun qc4 => ?_)
      · replace h := ifp h qc4
        refine r_iload dX12_feed_40 0 rfl ?_
        refine r_bipush (v := 8) dX12_feed_42 (by decide) ?_
        refine r_icmp_ge (t := 51) dX12_feed_44 (by decide) (fun qc5 => ?_) (fun qc5 => ?_)
        · replace h := ifp h qc5
          refine r_iload dX12_feed_51 0 rfl ?_
          refine r_bipush (v := 12) dX12_feed_53 (by decide) ?_
          refine r_icmp_ge (t := 62) dX12_feed_55 (by decide) (fun qc6 => ?_) (fun qc6 => ?_)
          · replace h := ifp h qc6
            refine r_iload dX12_feed_62 0 rfl ?_
            refine r_bipush (v := 16) dX12_feed_64 (by decide) ?_
            refine r_icmp_ge (t := 74) dX12_feed_66 (by decide) (fun qc7 => ?_) (fun qc7 => ?_)
            · replace h := ifp h qc7
              refine r_iload dX12_feed_74 5 rfl ?_
              refine r_istore (lo' := [(7, .int x5), (6, .int x6), (1, .int x1), (2, .int x2), (3, .int x3), (4, .int x4), (5, .int x5), (0, .ref (ad 90))]) dX12_feed_76 (by decide) rfl ?_
              refine r_aload_n dX12_feed_78 7 rfl ?_
              refine s_getR (b := 103) ok_X12 dX12_feed_79 (k := 3) (by decide) fl_X12_13 rfl rfl rfl ?_
              refine r_aload_n dX12_feed_82 7 rfl ?_
              refine s_getI ok_X12 dX12_feed_83 (k := 4) (by decide) fl_X12_137 rfl rfl ?_
              refine r_iload dX12_feed_86 1 rfl ?_
              refine r_iadd dX12_feed_88 ?_
              refine r_iload dX12_feed_89 0 rfl ?_
              refine r_bipush (v := 24) dX12_feed_91 (by decide) ?_
              refine r_bipush (v := 8) dX12_feed_93 (by decide) ?_
              refine r_iload dX12_feed_95 1 rfl ?_
              refine r_iconst (v := 4) dX12_feed_97 (by decide) ?_
              refine r_irem dX12_feed_98 (by decide) ?_
              refine r_imul dX12_feed_99 ?_
              refine r_isub dX12_feed_100 ?_
              refine r_ishr dX12_feed_101 ?_
              refine r_sipush (v := 255) dX12_feed_102 (by decide) ?_
              refine r_iand dX12_feed_105 ?_
              obtain ⟨qg8, h⟩ := grd_at h
              refine s_iast dX12_feed_106 rfl (inb_of qg8) ?_
              refine r_st (fun σ9 eσ9 => ?_)
              replace h := bnd_at h eσ9
              refine r_iinc (v := x6 + 1) (lo' := [(6, .int (x6 + 1)), (7, .int x5), (1, .int x1), (2, .int x2), (3, .int x3), (4, .int x4), (5, .int x5), (0, .ref (ad 90))]) dX12_feed_107 1 rfl rfl (by decide) rfl ?_
              refine r_goto (t := 23) dX12_feed_110 (by decide) ?_
              exact ab_E.lo [0, 2, 3, 4, 5, 6, 7] rfl (ih _ _ h)
            · replace h := ifn h qc7
              refine r_iload dX12_feed_69 4 rfl ?_
              refine r_goto (t := 76) dX12_feed_71 (by decide) ?_
              refine r_istore (lo' := [(7, .int x4), (6, .int x6), (1, .int x1), (2, .int x2), (3, .int x3), (4, .int x4), (5, .int x5), (0, .ref (ad 90))]) dX12_feed_76 (by decide) rfl ?_
              refine r_aload_n dX12_feed_78 7 rfl ?_
              refine s_getR (b := 103) ok_X12 dX12_feed_79 (k := 3) (by decide) fl_X12_13 rfl rfl rfl ?_
              refine r_aload_n dX12_feed_82 7 rfl ?_
              refine s_getI ok_X12 dX12_feed_83 (k := 4) (by decide) fl_X12_137 rfl rfl ?_
              refine r_iload dX12_feed_86 1 rfl ?_
              refine r_iadd dX12_feed_88 ?_
              refine r_iload dX12_feed_89 0 rfl ?_
              refine r_bipush (v := 24) dX12_feed_91 (by decide) ?_
              refine r_bipush (v := 8) dX12_feed_93 (by decide) ?_
              refine r_iload dX12_feed_95 1 rfl ?_
              refine r_iconst (v := 4) dX12_feed_97 (by decide) ?_
              refine r_irem dX12_feed_98 (by decide) ?_
              refine r_imul dX12_feed_99 ?_
              refine r_isub dX12_feed_100 ?_
              refine r_ishr dX12_feed_101 ?_
              refine r_sipush (v := 255) dX12_feed_102 (by decide) ?_
              refine r_iand dX12_feed_105 ?_
              obtain ⟨qg10, h⟩ := grd_at h
              refine s_iast dX12_feed_106 rfl (inb_of qg10) ?_
              refine r_st (fun σ11 eσ11 => ?_)
              replace h := bnd_at h eσ11
              refine r_iinc (v := x6 + 1) (lo' := [(6, .int (x6 + 1)), (7, .int x4), (1, .int x1), (2, .int x2), (3, .int x3), (4, .int x4), (5, .int x5), (0, .ref (ad 90))]) dX12_feed_107 1 rfl rfl (by decide) rfl ?_
              refine r_goto (t := 23) dX12_feed_110 (by decide) ?_
              exact ab_E.lo [0, 2, 3, 4, 5, 6, 7] rfl (ih _ _ h)
          · replace h := ifn h qc6
            refine r_iload_n dX12_feed_58 3 rfl ?_
            refine r_goto (t := 76) dX12_feed_59 (by decide) ?_
            refine r_istore (lo' := [(7, .int x3), (6, .int x6), (1, .int x1), (2, .int x2), (3, .int x3), (4, .int x4), (5, .int x5), (0, .ref (ad 90))]) dX12_feed_76 (by decide) rfl ?_
            refine r_aload_n dX12_feed_78 7 rfl ?_
            refine s_getR (b := 103) ok_X12 dX12_feed_79 (k := 3) (by decide) fl_X12_13 rfl rfl rfl ?_
            refine r_aload_n dX12_feed_82 7 rfl ?_
            refine s_getI ok_X12 dX12_feed_83 (k := 4) (by decide) fl_X12_137 rfl rfl ?_
            refine r_iload dX12_feed_86 1 rfl ?_
            refine r_iadd dX12_feed_88 ?_
            refine r_iload dX12_feed_89 0 rfl ?_
            refine r_bipush (v := 24) dX12_feed_91 (by decide) ?_
            refine r_bipush (v := 8) dX12_feed_93 (by decide) ?_
            refine r_iload dX12_feed_95 1 rfl ?_
            refine r_iconst (v := 4) dX12_feed_97 (by decide) ?_
            refine r_irem dX12_feed_98 (by decide) ?_
            refine r_imul dX12_feed_99 ?_
            refine r_isub dX12_feed_100 ?_
            refine r_ishr dX12_feed_101 ?_
            refine r_sipush (v := 255) dX12_feed_102 (by decide) ?_
            refine r_iand dX12_feed_105 ?_
            obtain ⟨qg12, h⟩ := grd_at h
            refine s_iast dX12_feed_106 rfl (inb_of qg12) ?_
            refine r_st (fun σ13 eσ13 => ?_)
            replace h := bnd_at h eσ13
            refine r_iinc (v := x6 + 1) (lo' := [(6, .int (x6 + 1)), (7, .int x3), (1, .int x1), (2, .int x2), (3, .int x3), (4, .int x4), (5, .int x5), (0, .ref (ad 90))]) dX12_feed_107 1 rfl rfl (by decide) rfl ?_
            refine r_goto (t := 23) dX12_feed_110 (by decide) ?_
            exact ab_E.lo [0, 2, 3, 4, 5, 6, 7] rfl (ih _ _ h)
        · replace h := ifn h qc5
          refine r_iload_n dX12_feed_47 2 rfl ?_
          refine r_goto (t := 76) dX12_feed_48 (by decide) ?_
          refine r_istore (lo' := [(7, .int x2), (6, .int x6), (1, .int x1), (2, .int x2), (3, .int x3), (4, .int x4), (5, .int x5), (0, .ref (ad 90))]) dX12_feed_76 (by decide) rfl ?_
          refine r_aload_n dX12_feed_78 7 rfl ?_
          refine s_getR (b := 103) ok_X12 dX12_feed_79 (k := 3) (by decide) fl_X12_13 rfl rfl rfl ?_
          refine r_aload_n dX12_feed_82 7 rfl ?_
          refine s_getI ok_X12 dX12_feed_83 (k := 4) (by decide) fl_X12_137 rfl rfl ?_
          refine r_iload dX12_feed_86 1 rfl ?_
          refine r_iadd dX12_feed_88 ?_
          refine r_iload dX12_feed_89 0 rfl ?_
          refine r_bipush (v := 24) dX12_feed_91 (by decide) ?_
          refine r_bipush (v := 8) dX12_feed_93 (by decide) ?_
          refine r_iload dX12_feed_95 1 rfl ?_
          refine r_iconst (v := 4) dX12_feed_97 (by decide) ?_
          refine r_irem dX12_feed_98 (by decide) ?_
          refine r_imul dX12_feed_99 ?_
          refine r_isub dX12_feed_100 ?_
          refine r_ishr dX12_feed_101 ?_
          refine r_sipush (v := 255) dX12_feed_102 (by decide) ?_
          refine r_iand dX12_feed_105 ?_
          obtain ⟨qg14, h⟩ := grd_at h
          refine s_iast dX12_feed_106 rfl (inb_of qg14) ?_
          refine r_st (fun σ15 eσ15 => ?_)
          replace h := bnd_at h eσ15
          refine r_iinc (v := x6 + 1) (lo' := [(6, .int (x6 + 1)), (7, .int x2), (1, .int x1), (2, .int x2), (3, .int x3), (4, .int x4), (5, .int x5), (0, .ref (ad 90))]) dX12_feed_107 1 rfl rfl (by decide) rfl ?_
          refine r_goto (t := 23) dX12_feed_110 (by decide) ?_
          exact ab_E.lo [0, 2, 3, 4, 5, 6, 7] rfl (ih _ _ h)
      · replace h := ifn h qc4
        refine r_iload_n dX12_feed_36 1 rfl ?_
        refine r_goto (t := 76) dX12_feed_37 (by decide) ?_
        refine r_istore (lo' := [(7, .int x1), (6, .int x6), (1, .int x1), (2, .int x2), (3, .int x3), (4, .int x4), (5, .int x5), (0, .ref (ad 90))]) dX12_feed_76 (by decide) rfl ?_
        refine r_aload_n dX12_feed_78 7 rfl ?_
        refine s_getR (b := 103) ok_X12 dX12_feed_79 (k := 3) (by decide) fl_X12_13 rfl rfl rfl ?_
        refine r_aload_n dX12_feed_82 7 rfl ?_
        refine s_getI ok_X12 dX12_feed_83 (k := 4) (by decide) fl_X12_137 rfl rfl ?_
        refine r_iload dX12_feed_86 1 rfl ?_
        refine r_iadd dX12_feed_88 ?_
        refine r_iload dX12_feed_89 0 rfl ?_
        refine r_bipush (v := 24) dX12_feed_91 (by decide) ?_
        refine r_bipush (v := 8) dX12_feed_93 (by decide) ?_
        refine r_iload dX12_feed_95 1 rfl ?_
        refine r_iconst (v := 4) dX12_feed_97 (by decide) ?_
        refine r_irem dX12_feed_98 (by decide) ?_
        refine r_imul dX12_feed_99 ?_
        refine r_isub dX12_feed_100 ?_
        refine r_ishr dX12_feed_101 ?_
        refine r_sipush (v := 255) dX12_feed_102 (by decide) ?_
        refine r_iand dX12_feed_105 ?_
        obtain ⟨qg16, h⟩ := grd_at h
        refine s_iast dX12_feed_106 rfl (inb_of qg16) ?_
        refine r_st (fun σ17 eσ17 => ?_)
        replace h := bnd_at h eσ17
        refine r_iinc (v := x6 + 1) (lo' := [(6, .int (x6 + 1)), (7, .int x1), (1, .int x1), (2, .int x2), (3, .int x3), (4, .int x4), (5, .int x5), (0, .ref (ad 90))]) dX12_feed_107 1 rfl rfl (by decide) rfl ?_
        refine r_goto (t := 23) dX12_feed_110 (by decide) ?_
        exact ab_E.lo [0, 2, 3, 4, 5, 6, 7] rfl (ih _ _ h)
set_option maxRecDepth 8000 in
def L_X12_feed (F : Nat) (x1 : Int32) (x2 : Int32) (x3 : Int32) (x4 : Int32) (x5 : Int32) (σ : sS) : Option (Int32 × sS) := bnd (uI σ 90 0 0) (fun σ1 => if ((vI σ1 90 4) + 20) ≤ 400 then (L_X12_feed_23 F x1 x2 x3 x4 x5 (fun σ3 => bnd (uI σ3 90 4 ((vI σ3 90 4) + 20)) (fun σ4 => some ((vI σ4 90 4, σ4)))) F 0 σ1) else (some (((-1), σ1))))
set_option maxRecDepth 8000 in
theorem e_X12_feed {ad : Nat → Nat} {F : Nat} {x1 : Int32} {x2 : Int32} {x3 : Int32} {x4 : Int32} {x5 : Int32} {σ : sS} {z : (Int32 × sS)} (h : L_X12_feed F x1 x2 x3 x4 x5 σ = some z) : ab_E (sR ad) mX12_feed 1 0 [(0, .ref (ad 90)), (1, .int x1), (2, .int x2), (3, .int x3), (4, .int x4), (5, .int x5)] [] σ (fun r9 σ9 => r9 = some (.int z.1) ∧ σ9 = z.2) := by
  unfold L_X12_feed at h
  refine r_aload_n dX12_feed_0 0 rfl ?_
  refine r_iconst (v := 0) dX12_feed_1 (by decide) ?_
  refine s_putI ok_X12 dX12_feed_2 (k := 0) (by decide) fl_X12_131 rfl rfl rfl rfl rfl ?_
  refine r_st (fun σ1 eσ1 => ?_)
  replace h := bnd_at h eσ1
  refine r_aload_n dX12_feed_5 0 rfl ?_
  refine s_getI ok_X12 dX12_feed_6 (k := 4) (by decide) fl_X12_137 rfl rfl ?_
  refine r_bipush (v := 20) dX12_feed_9 (by decide) ?_
  refine r_iadd dX12_feed_11 ?_
  refine r_sipush (v := 400) dX12_feed_12 (by decide) ?_
  refine r_icmp_le (t := 20) dX12_feed_15 (by decide) (fun qc2 => ?_) (fun qc2 => ?_)
  · replace h := ifp h qc2
    refine r_iconst (v := 0) dX12_feed_20 (by decide) ?_
    refine r_istore (lo' := [(6, .int 0), (0, .ref (ad 90)), (1, .int x1), (2, .int x2), (3, .int x3), (4, .int x4), (5, .int x5)]) dX12_feed_21 (by decide) rfl ?_
    refine ab_E.lo [0, 2, 3, 4, 5, 6, 1] rfl (l_X12_feed_23 (fun σ3 h => ?_) _ _ _ h)
    refine r_aload_n dX12_feed_113 0 rfl ?_
    refine r_dup dX12_feed_114 rfl ?_
    refine s_getI ok_X12 dX12_feed_115 (k := 4) (by decide) fl_X12_137 rfl rfl ?_
    refine r_bipush (v := 20) dX12_feed_118 (by decide) ?_
    refine r_iadd dX12_feed_120 ?_
    refine s_putI ok_X12 dX12_feed_121 (k := 4) (by decide) fl_X12_137 rfl rfl rfl rfl rfl ?_
    refine r_st (fun σ4 eσ4 => ?_)
    replace h := bnd_at h eσ4
    refine r_aload_n dX12_feed_124 0 rfl ?_
    refine s_getI ok_X12 dX12_feed_125 (k := 4) (by decide) fl_X12_137 rfl rfl ?_
    refine r_iret rfl dX12_feed_128 ?_
    exact lfI h
  · replace h := ifn h qc2
    refine r_iconst (v := (-1)) dX12_feed_18 (by decide) ?_
    refine r_iret rfl dX12_feed_19 ?_
    exact lfI h
set_option maxRecDepth 8000 in
theorem lc_X12_feed {ad : Nat → Nat} {F : Nat} {x1 : Int32} {x2 : Int32} {x3 : Int32} {x4 : Int32} {x5 : Int32} {σ τ : sS} {r : Int32} (h : L_X12_feed F x1 x2 x3 x4 x5 σ = some (r, τ)) : ab_X (sR ad) 1 mX12_feed [.ref (ad 90), .int x1, .int x2, .int x3, .int x4, .int x5] σ (some (.int r)) τ := ab_X.of (by decide) (Nat.le_of_ble_eq_true rfl) (e_X12_feed h)
set_option maxRecDepth 8000 in
def L_X12_flawAt (x1 : Int32) (x2 : Int32) (σ : sS) : Option sS := if (vI σ 90 7) ≤ 0 then (bnd (uI σ 90 7 x1) (fun σ2 => bnd (uI σ2 90 8 x2) (fun σ3 => some σ3))) else (some σ)
set_option maxRecDepth 8000 in
theorem e_X12_flawAt {ad : Nat → Nat} {x1 : Int32} {x2 : Int32} {σ : sS} {z : sS} (h : L_X12_flawAt x1 x2 σ = some z) : ab_E (sR ad) mX12_flawAt 1 0 [(0, .ref (ad 90)), (1, .int x1), (2, .int x2)] [] σ (fun r9 σ9 => r9 = none ∧ σ9 = z) := by
  unfold L_X12_flawAt at h
  refine r_aload_n dX12_flawAt_0 0 rfl ?_
  refine s_getI ok_X12 dX12_flawAt_1 (k := 7) (by decide) fl_X12_140 rfl rfl ?_
  refine r_if_le (t := 8) dX12_flawAt_4 (by decide) (fun qc1 => ?_) (fun qc1 => ?_)
  · replace h := ifp h qc1
    refine r_aload_n dX12_flawAt_8 0 rfl ?_
    refine r_iload_n dX12_flawAt_9 1 rfl ?_
    refine s_putI ok_X12 dX12_flawAt_10 (k := 7) (by decide) fl_X12_140 rfl rfl rfl rfl rfl ?_
    refine r_st (fun σ2 eσ2 => ?_)
    replace h := bnd_at h eσ2
    refine r_aload_n dX12_flawAt_13 0 rfl ?_
    refine r_iload_n dX12_flawAt_14 2 rfl ?_
    refine s_putI ok_X12 dX12_flawAt_15 (k := 8) (by decide) fl_X12_143 rfl rfl rfl rfl rfl ?_
    refine r_st (fun σ3 eσ3 => ?_)
    replace h := bnd_at h eσ3
    refine r_vret rfl dX12_flawAt_18 ?_
    exact lfV h
  · replace h := ifn h qc1
    refine r_vret rfl dX12_flawAt_7 ?_
    exact lfV h
set_option maxRecDepth 8000 in
theorem lc_X12_flawAt {ad : Nat → Nat} {x1 : Int32} {x2 : Int32} {σ τ : sS} (h : L_X12_flawAt x1 x2 σ = some τ) : ab_X (sR ad) 1 mX12_flawAt [.ref (ad 90), .int x1, .int x2] σ none τ := ab_X.of (by decide) (Nat.le_of_ble_eq_true rfl) (e_X12_flawAt h)
set_option maxRecDepth 8000 in
def L_X12_flaw (x1 : Int32) (σ : sS) : Option sS := bd (L_X12_flawAt x1 (vI σ 90 10) σ) (fun σ2 => some σ2)
set_option maxRecDepth 8000 in
theorem e_X12_flaw {ad : Nat → Nat} {x1 : Int32} {σ : sS} {z : sS} (h : L_X12_flaw x1 σ = some z) : ab_E (sR ad) mX12_flaw 2 0 [(0, .ref (ad 90)), (1, .int x1)] [] σ (fun r9 σ9 => r9 = none ∧ σ9 = z) := by
  unfold L_X12_flaw at h
  refine r_aload_n dX12_flaw_0 0 rfl ?_
  refine r_iload_n dX12_flaw_1 1 rfl ?_
  refine r_aload_n dX12_flaw_2 0 rfl ?_
  refine s_getI ok_X12 dX12_flaw_3 (k := 10) (by decide) fl_X12_146 rfl rfl ?_
  obtain ⟨σ2, qg1, h⟩ := bd_at h
  refine x_callV0 (Y := mX12_flawAt) (d' := 1) dX12_flaw_6 ml_X12_149 yv_X12_flawAt (by omega) rfl rfl (by simp [Value.category]) (sR_is rfl rfl) (lc_X12_flawAt qg1) ?_
  refine r_vret rfl dX12_flaw_9 ?_
  exact lfV h
set_option maxRecDepth 8000 in
theorem lc_X12_flaw {ad : Nat → Nat} {x1 : Int32} {σ τ : sS} (h : L_X12_flaw x1 σ = some τ) : ab_X (sR ad) 2 mX12_flaw [.ref (ad 90), .int x1] σ none τ := ab_X.of (by decide) (Nat.le_of_ble_eq_true rfl) (e_X12_flaw h)
set_option maxRecDepth 8000 in
def L_X12_isLetterAt (x1 : Int32) (σ : sS) : Option Int32 := if (vI σ 90 5) ≤ x1 then (some ((0 : Int32))) else (grd (inb x1 400) (if (L_X12_in (vI σ 103 x1.toNatClampNeg) 97 122) = 0 then (some ((0 : Int32))) else (some ((1 : Int32)))))
set_option maxRecDepth 8000 in
theorem e_X12_isLetterAt {ad : Nat → Nat} {x1 : Int32} {σ : sS} {z : Int32} (h : L_X12_isLetterAt x1 σ = some z) : ab_E (sR ad) mX12_isLetterAt 2 0 [(0, .ref (ad 90)), (1, .int x1)] [] σ (fun r9 σ9 => r9 = some (.int z) ∧ σ9 = σ) := by
  unfold L_X12_isLetterAt at h
  refine r_iload_n dX12_isLetterAt_0 1 rfl ?_
  refine r_aload_n dX12_isLetterAt_1 0 rfl ?_
  refine s_getI ok_X12 dX12_isLetterAt_2 (k := 5) (by decide) fl_X12_153 rfl rfl ?_
  refine r_icmp_ge (t := 28) dX12_isLetterAt_5 (by decide) (fun qc1 => ?_) (fun qc1 => ?_)
  · replace h := ifp h qc1
    refine r_iconst (v := 0) dX12_isLetterAt_28 (by decide) ?_
    refine r_zret rfl (by decide) dX12_isLetterAt_29 ?_
    exact lfP h
  · replace h := ifn h qc1
    refine r_aload_n dX12_isLetterAt_8 0 rfl ?_
    refine s_getR (b := 103) ok_X12 dX12_isLetterAt_9 (k := 3) (by decide) fl_X12_13 rfl rfl rfl ?_
    refine r_iload_n dX12_isLetterAt_12 1 rfl ?_
    obtain ⟨qg2, h⟩ := grd_at h
    refine s_iald dX12_isLetterAt_13 rfl (inb_of qg2) ?_
    refine r_bipush (v := 97) dX12_isLetterAt_14 (by decide) ?_
    refine r_bipush (v := 122) dX12_isLetterAt_16 (by decide) ?_
    refine x_callS (Y := mX12_in) (d' := 1) dX12_isLetterAt_18 ml_X12_156 ys_X12_in (by omega) rfl rfl (by simp [Value.category]) (lc_X12_in (vI σ 103 x1.toNatClampNeg) 97 122 σ) ?_
    refine r_if_eq (t := 28) dX12_isLetterAt_21 (by decide) (fun qc3 => ?_) (fun qc3 => ?_)
    · replace h := ifp h qc3
      refine r_iconst (v := 0) dX12_isLetterAt_28 (by decide) ?_
      refine r_zret rfl (by decide) dX12_isLetterAt_29 ?_
      exact lfP h
    · replace h := ifn h qc3
      refine r_iconst (v := 1) dX12_isLetterAt_24 (by decide) ?_
      refine r_goto (t := 29) dX12_isLetterAt_25 (by decide) ?_
      refine r_zret rfl (by decide) dX12_isLetterAt_29 ?_
      exact lfP h
set_option maxRecDepth 8000 in
theorem lc_X12_isLetterAt {ad : Nat → Nat} {x1 : Int32} {σ : sS} {r : Int32} (h : L_X12_isLetterAt x1 σ = some r) : ab_X (sR ad) 2 mX12_isLetterAt [.ref (ad 90), .int x1] σ (some (.int r)) σ := ab_X.of (by decide) (Nat.le_of_ble_eq_true rfl) (e_X12_isLetterAt h)
set_option maxRecDepth 8000 in
def L_X12_isDigitAt (x1 : Int32) (σ : sS) : Option Int32 := if (vI σ 90 5) ≤ x1 then (some ((0 : Int32))) else (grd (inb x1 400) (if (L_X12_in (vI σ 103 x1.toNatClampNeg) 48 57) = 0 then (some ((0 : Int32))) else (some ((1 : Int32)))))
set_option maxRecDepth 8000 in
theorem e_X12_isDigitAt {ad : Nat → Nat} {x1 : Int32} {σ : sS} {z : Int32} (h : L_X12_isDigitAt x1 σ = some z) : ab_E (sR ad) mX12_isDigitAt 2 0 [(0, .ref (ad 90)), (1, .int x1)] [] σ (fun r9 σ9 => r9 = some (.int z) ∧ σ9 = σ) := by
  unfold L_X12_isDigitAt at h
  refine r_iload_n dX12_isDigitAt_0 1 rfl ?_
  refine r_aload_n dX12_isDigitAt_1 0 rfl ?_
  refine s_getI ok_X12 dX12_isDigitAt_2 (k := 5) (by decide) fl_X12_153 rfl rfl ?_
  refine r_icmp_ge (t := 28) dX12_isDigitAt_5 (by decide) (fun qc1 => ?_) (fun qc1 => ?_)
  · replace h := ifp h qc1
    refine r_iconst (v := 0) dX12_isDigitAt_28 (by decide) ?_
    refine r_zret rfl (by decide) dX12_isDigitAt_29 ?_
    exact lfP h
  · replace h := ifn h qc1
    refine r_aload_n dX12_isDigitAt_8 0 rfl ?_
    refine s_getR (b := 103) ok_X12 dX12_isDigitAt_9 (k := 3) (by decide) fl_X12_13 rfl rfl rfl ?_
    refine r_iload_n dX12_isDigitAt_12 1 rfl ?_
    obtain ⟨qg2, h⟩ := grd_at h
    refine s_iald dX12_isDigitAt_13 rfl (inb_of qg2) ?_
    refine r_bipush (v := 48) dX12_isDigitAt_14 (by decide) ?_
    refine r_bipush (v := 57) dX12_isDigitAt_16 (by decide) ?_
    refine x_callS (Y := mX12_in) (d' := 1) dX12_isDigitAt_18 ml_X12_156 ys_X12_in (by omega) rfl rfl (by simp [Value.category]) (lc_X12_in (vI σ 103 x1.toNatClampNeg) 48 57 σ) ?_
    refine r_if_eq (t := 28) dX12_isDigitAt_21 (by decide) (fun qc3 => ?_) (fun qc3 => ?_)
    · replace h := ifp h qc3
      refine r_iconst (v := 0) dX12_isDigitAt_28 (by decide) ?_
      refine r_zret rfl (by decide) dX12_isDigitAt_29 ?_
      exact lfP h
    · replace h := ifn h qc3
      refine r_iconst (v := 1) dX12_isDigitAt_24 (by decide) ?_
      refine r_goto (t := 29) dX12_isDigitAt_25 (by decide) ?_
      refine r_zret rfl (by decide) dX12_isDigitAt_29 ?_
      exact lfP h
set_option maxRecDepth 8000 in
theorem lc_X12_isDigitAt {ad : Nat → Nat} {x1 : Int32} {σ : sS} {r : Int32} (h : L_X12_isDigitAt x1 σ = some r) : ab_X (sR ad) 2 mX12_isDigitAt [.ref (ad 90), .int x1] σ (some (.int r)) σ := ab_X.of (by decide) (Nat.le_of_ble_eq_true rfl) (e_X12_isDigitAt h)
set_option maxRecDepth 8000 in
def L_X12_goOn_8 (F : Nat) (kx : sS → Option sS) : Nat → sS → Option sS
  | 0, _ => none
  | n + 1, σ => if (vI σ 90 5) ≤ (vI σ 90 6) then (kx σ) else (grd (inb (vI σ 90 6) 400) (if (vI σ 103 (vI σ 90 6).toNatClampNeg) = 32 then (bnd (uI σ 90 6 ((vI σ 90 6) + 1)) (fun σ5 => L_X12_goOn_8 F kx n σ5)) else (kx σ)))
set_option maxRecDepth 8000 in
theorem l_X12_goOn_8 {ad : Nat → Nat} {F : Nat} {z : sS} {kx : sS → Option sS} (hx : ∀  (σ : sS), kx σ = some z → ab_E (sR ad) mX12_goOn 3 46 [(0, .ref (ad 90))] [] σ (fun r9 σ9 => r9 = none ∧ σ9 = z)) : ∀ (n : Nat)  (σ : sS), L_X12_goOn_8 F kx n σ = some z → ab_E (sR ad) mX12_goOn 3 8 [(0, .ref (ad 90))] [] σ (fun r9 σ9 => r9 = none ∧ σ9 = z) := by
  intro n
  induction n with
  | zero =>
    intro σ h
    rw [L_X12_goOn_8] at h
    cases h
  | succ n ih =>
    intro σ h
    rw [L_X12_goOn_8] at h
    refine r_aload_n dX12_goOn_8 0 rfl ?_
    refine s_getI ok_X12 dX12_goOn_9 (k := 6) (by decide) fl_X12_160 rfl rfl ?_
    refine r_aload_n dX12_goOn_12 0 rfl ?_
    refine s_getI ok_X12 dX12_goOn_13 (k := 5) (by decide) fl_X12_153 rfl rfl ?_
    refine r_icmp_ge (t := 46) dX12_goOn_16 (by decide) (fun qc2 => ?_) (fun qc2 => ?_)
    · replace h := ifp h qc2
      exact ab_E.lo [0] rfl (hx _ h)
    · replace h := ifn h qc2
      refine r_aload_n dX12_goOn_19 0 rfl ?_
      refine s_getR (b := 103) ok_X12 dX12_goOn_20 (k := 3) (by decide) fl_X12_13 rfl rfl rfl ?_
      refine r_aload_n dX12_goOn_23 0 rfl ?_
      refine s_getI ok_X12 dX12_goOn_24 (k := 6) (by decide) fl_X12_160 rfl rfl ?_
      obtain ⟨qg3, h⟩ := grd_at h
      refine s_iald dX12_goOn_27 rfl (inb_of qg3) ?_
      refine r_bipush (v := 32) dX12_goOn_28 (by decide) ?_
      refine r_icmp_ne (t := 46) dX12_goOn_30 (by decide) (fun qc4 => ?_) (fun qc4 => ?_)
      · replace h := ifn h qc4
        exact ab_E.lo [0] rfl (hx _ h)
      · replace h := ifp h qc4
        refine r_aload_n dX12_goOn_33 0 rfl ?_
        refine r_dup dX12_goOn_34 rfl ?_
        refine s_getI ok_X12 dX12_goOn_35 (k := 6) (by decide) fl_X12_160 rfl rfl ?_
        refine r_iconst (v := 1) dX12_goOn_38 (by decide) ?_
        refine r_iadd dX12_goOn_39 ?_
        refine s_putI ok_X12 dX12_goOn_40 (k := 6) (by decide) fl_X12_160 rfl rfl rfl rfl rfl ?_
        refine r_st (fun σ5 eσ5 => ?_)
        replace h := bnd_at h eσ5
        refine r_goto (t := 8) dX12_goOn_43 (by decide) ?_
        exact ab_E.lo [0] rfl (ih _ h)
set_option maxRecDepth 8000 in
def L_X12_goOn_209 (F : Nat) (kx : sS → Option sS) : Nat → sS → Option sS
  | 0, _ => none
  | n + 1, σ => bd (L_X12_isDigitAt (vI σ 90 6) σ) (fun rq27 => if rq27 = 0 then (kx σ) else (bnd (uI σ 90 6 ((vI σ 90 6) + 1)) (fun σ29 => L_X12_goOn_209 F kx n σ29)))
set_option maxRecDepth 8000 in
theorem l_X12_goOn_209 {ad : Nat → Nat} {F : Nat} {z : sS} {kx : sS → Option sS} (hx : ∀  (σ : sS), kx σ = some z → ab_E (sR ad) mX12_goOn 3 233 [(0, .ref (ad 90))] [] σ (fun r9 σ9 => r9 = none ∧ σ9 = z)) : ∀ (n : Nat)  (σ : sS), L_X12_goOn_209 F kx n σ = some z → ab_E (sR ad) mX12_goOn 3 209 [(0, .ref (ad 90))] [] σ (fun r9 σ9 => r9 = none ∧ σ9 = z) := by
  intro n
  induction n with
  | zero =>
    intro σ h
    rw [L_X12_goOn_209] at h
    cases h
  | succ n ih =>
    intro σ h
    rw [L_X12_goOn_209] at h
    refine r_aload_n dX12_goOn_209 0 rfl ?_
    refine r_aload_n dX12_goOn_210 0 rfl ?_
    refine s_getI ok_X12 dX12_goOn_211 (k := 6) (by decide) fl_X12_160 rfl rfl ?_
    obtain ⟨rq27, qg26, h⟩ := bd_at h
    refine x_callV (Y := mX12_isDigitAt) (d' := 2) dX12_goOn_214 ml_X12_178 yv_X12_isDigitAt (by omega) rfl rfl (by simp [Value.category]) (sR_is rfl rfl) (lc_X12_isDigitAt qg26) ?_
    refine r_if_eq (t := 233) dX12_goOn_217 (by decide) (fun qc28 => ?_) (fun qc28 => ?_)
    · replace h := ifp h qc28
      exact ab_E.lo [0] rfl (hx _ h)
    · replace h := ifn h qc28
      refine r_aload_n dX12_goOn_220 0 rfl ?_
      refine r_dup dX12_goOn_221 rfl ?_
      refine s_getI ok_X12 dX12_goOn_222 (k := 6) (by decide) fl_X12_160 rfl rfl ?_
      refine r_iconst (v := 1) dX12_goOn_225 (by decide) ?_
      refine r_iadd dX12_goOn_226 ?_
      refine s_putI ok_X12 dX12_goOn_227 (k := 6) (by decide) fl_X12_160 rfl rfl rfl rfl rfl ?_
      refine r_st (fun σ29 eσ29 => ?_)
      replace h := bnd_at h eσ29
      refine r_goto (t := 209) dX12_goOn_230 (by decide) ?_
      exact ab_E.lo [0] rfl (ih _ h)
set_option maxRecDepth 8000 in
def L_X12_goOn_143 (F : Nat) (kh : sS → Option sS) (kx : sS → Option sS)  (σ : sS) : Option sS := bnd (uI σ 90 6 ((vI σ 90 6) + 1)) (fun σ35 => kh σ35)
set_option maxRecDepth 8000 in
theorem l_X12_goOn_143 {ad : Nat → Nat} {F : Nat} {z : sS} {kh : sS → Option sS} (hh : ∀  (σ : sS), kh σ = some z → ab_E (sR ad) mX12_goOn 3 89 [(0, .ref (ad 90))] [] σ (fun r9 σ9 => r9 = none ∧ σ9 = z)) {kx : sS → Option sS} (hx : ∀  (σ : sS), kx σ = some z → ab_E (sR ad) mX12_goOn 3 156 [(0, .ref (ad 90))] [] σ (fun r9 σ9 => r9 = none ∧ σ9 = z))  (σ : sS) (h : L_X12_goOn_143 F kh kx σ = some z) : ab_E (sR ad) mX12_goOn 3 143 [(0, .ref (ad 90))] [] σ (fun r9 σ9 => r9 = none ∧ σ9 = z) := by
  unfold L_X12_goOn_143 at h
  refine r_aload_n dX12_goOn_143 0 rfl ?_
  refine r_dup dX12_goOn_144 rfl ?_
  refine s_getI ok_X12 dX12_goOn_145 (k := 6) (by decide) fl_X12_160 rfl rfl ?_
  refine r_iconst (v := 1) dX12_goOn_148 (by decide) ?_
  refine r_iadd dX12_goOn_149 ?_
  refine s_putI ok_X12 dX12_goOn_150 (k := 6) (by decide) fl_X12_160 rfl rfl rfl rfl rfl ?_
  refine r_st (fun σ35 eσ35 => ?_)
  replace h := bnd_at h eσ35
  refine r_goto (t := 89) dX12_goOn_153 (by decide) ?_
  exact ab_E.lo [0] rfl (hh _ h)
set_option maxRecDepth 8000 in
def L_X12_goOn_89 (F : Nat) (kx : sS → Option sS) : Nat → sS → Option sS
  | 0, _ => none
  | n + 1, σ => bd (L_X12_isLetterAt (vI σ 90 6) σ) (fun rq32 => if rq32 = 0 then (kx σ) else (if 7 ≤ ((vI σ 90 6) - (vI σ 90 10)) then (L_X12_goOn_143 F (L_X12_goOn_89 F kx n) kx σ) else (grd (inb (vI σ 90 6) 400) (bnd (uL σ 90 13 (((((vL σ 90 13) * 32) + ((vI σ 103 (vI σ 90 6).toNatClampNeg).toInt64)) - 97) + 1)) (fun σ36 => L_X12_goOn_143 F (L_X12_goOn_89 F kx n) kx σ36)))))
set_option maxRecDepth 8000 in
theorem l_X12_goOn_89 {ad : Nat → Nat} {F : Nat} {z : sS} {kx : sS → Option sS} (hx : ∀  (σ : sS), kx σ = some z → ab_E (sR ad) mX12_goOn 3 156 [(0, .ref (ad 90))] [] σ (fun r9 σ9 => r9 = none ∧ σ9 = z)) : ∀ (n : Nat)  (σ : sS), L_X12_goOn_89 F kx n σ = some z → ab_E (sR ad) mX12_goOn 3 89 [(0, .ref (ad 90))] [] σ (fun r9 σ9 => r9 = none ∧ σ9 = z) := by
  intro n
  induction n with
  | zero =>
    intro σ h
    rw [L_X12_goOn_89] at h
    cases h
  | succ n ih =>
    intro σ h
    rw [L_X12_goOn_89] at h
    refine r_aload_n dX12_goOn_89 0 rfl ?_
    refine r_aload_n dX12_goOn_90 0 rfl ?_
    refine s_getI ok_X12 dX12_goOn_91 (k := 6) (by decide) fl_X12_160 rfl rfl ?_
    obtain ⟨rq32, qg31, h⟩ := bd_at h
    refine x_callV (Y := mX12_isLetterAt) (d' := 2) dX12_goOn_94 ml_X12_166 yv_X12_isLetterAt (by omega) rfl rfl (by simp [Value.category]) (sR_is rfl rfl) (lc_X12_isLetterAt qg31) ?_
    refine r_if_eq (t := 156) dX12_goOn_97 (by decide) (fun qc33 => ?_) (fun qc33 => ?_)
    · replace h := ifp h qc33
      exact ab_E.lo [0] rfl (hx _ h)
    · replace h := ifn h qc33
      refine r_aload_n dX12_goOn_100 0 rfl ?_
      refine s_getI ok_X12 dX12_goOn_101 (k := 6) (by decide) fl_X12_160 rfl rfl ?_
      refine r_aload_n dX12_goOn_104 0 rfl ?_
      refine s_getI ok_X12 dX12_goOn_105 (k := 10) (by decide) fl_X12_146 rfl rfl ?_
      refine r_isub dX12_goOn_108 ?_
      refine r_bipush (v := 7) dX12_goOn_109 (by decide) ?_
      refine r_icmp_ge (t := 143) dX12_goOn_111 (by decide) (fun qc34 => ?_) (fun qc34 => ?_)
      · replace h := ifp h qc34
        exact ab_E.lo [0] rfl (l_X12_goOn_143 ih hx _ h)
      · replace h := ifn h qc34
        refine r_aload_n dX12_goOn_114 0 rfl ?_
        refine r_aload_n dX12_goOn_115 0 rfl ?_
        refine s_getL ok_X12 dX12_goOn_116 (k := 13) (by decide) fl_X12_170 rfl rfl ?_
        refine r_ldc2 (v := 32) dX12_goOn_119 co_X12_174 ?_
        refine r_lmul dX12_goOn_122 ?_
        refine r_aload_n dX12_goOn_123 0 rfl ?_
        refine s_getR (b := 103) ok_X12 dX12_goOn_124 (k := 3) (by decide) fl_X12_13 rfl rfl rfl ?_
        refine r_aload_n dX12_goOn_127 0 rfl ?_
        refine s_getI ok_X12 dX12_goOn_128 (k := 6) (by decide) fl_X12_160 rfl rfl ?_
        obtain ⟨qg35, h⟩ := grd_at h
        refine s_iald dX12_goOn_131 rfl (inb_of qg35) ?_
        refine r_i2l dX12_goOn_132 ?_
        refine r_ladd dX12_goOn_133 ?_
        refine r_ldc2 (v := 97) dX12_goOn_134 co_X12_176 ?_
        refine r_lsub dX12_goOn_137 ?_
        refine r_lconst (v := 1) dX12_goOn_138 (by decide) ?_
        refine r_ladd dX12_goOn_139 ?_
        refine s_putL ok_X12 dX12_goOn_140 (k := 13) (by decide) fl_X12_170 rfl rfl rfl rfl rfl ?_
        refine r_st (fun σ36 eσ36 => ?_)
        replace h := bnd_at h eσ36
        exact ab_E.lo [0] rfl (l_X12_goOn_143 ih hx _ h)
set_option maxRecDepth 8000 in
def L_X12_goOn_46 (F : Nat)  (σ : sS) : Option sS := bnd (uI σ 90 10 (vI σ 90 6)) (fun σ3 => if (vI σ3 90 6) = (vI σ3 90 5) then (bnd (uI σ3 90 9 1) (fun σ35 => some σ35)) else (bd (L_X12_isLetterAt (vI σ3 90 6) σ3) (fun rq6 => if rq6 = 0 then (bd (L_X12_isDigitAt (vI σ3 90 6) σ3) (fun rq9 => if rq9 = 0 then (grd (inb (vI σ3 90 6) 400) (bnd (uI σ3 90 11 (vI σ3 103 (vI σ3 90 6).toNatClampNeg)) (fun σ12 => if (vI σ12 90 11) = 59 then (bnd (uI σ12 90 9 4) (fun σ14 => bnd (uI σ14 90 6 ((vI σ14 90 6) + 1)) (fun σ15 => some σ15))) else (if (vI σ12 90 11) = 40 then (bnd (uI σ12 90 9 4) (fun σ17 => bnd (uI σ17 90 6 ((vI σ17 90 6) + 1)) (fun σ18 => some σ18))) else (if (vI σ12 90 11) = 41 then (bnd (uI σ12 90 9 4) (fun σ22 => bnd (uI σ22 90 6 ((vI σ22 90 6) + 1)) (fun σ23 => some σ23))) else (bnd (uI σ12 90 9 0) (fun σ20 => bnd (uI σ20 90 6 ((vI σ20 90 6) + 1)) (fun σ21 => some σ21)))))))) else (grd (inb (vI σ3 90 6) 400) (bnd (uI σ3 90 12 ((vI σ3 103 (vI σ3 90 6).toNatClampNeg) - 48)) (fun σ25 => L_X12_goOn_209 F (fun σ26 => if ((vI σ26 90 6) - (vI σ26 90 10)) ≤ 1 then (bnd (uI σ26 90 9 3) (fun σ28 => some σ28)) else (bnd (uI σ26 90 9 0) (fun σ29 => some σ29))) F σ25))))) else (bnd (uL σ3 90 13 0) (fun σ30 => L_X12_goOn_89 F (fun σ31 => if ((vI σ31 90 6) - (vI σ31 90 10)) ≤ 7 then (bnd (uI σ31 90 9 2) (fun σ33 => some σ33)) else (bnd (uI σ31 90 9 0) (fun σ34 => some σ34))) F σ30)))))
set_option maxRecDepth 8000 in
theorem l_X12_goOn_46 {ad : Nat → Nat} {F : Nat} {z : sS}  (σ : sS) (h : L_X12_goOn_46 F σ = some z) : ab_E (sR ad) mX12_goOn 3 46 [(0, .ref (ad 90))] [] σ (fun r9 σ9 => r9 = none ∧ σ9 = z) := by
  unfold L_X12_goOn_46 at h
  refine r_aload_n dX12_goOn_46 0 rfl ?_
  refine r_aload_n dX12_goOn_47 0 rfl ?_
  refine s_getI ok_X12 dX12_goOn_48 (k := 6) (by decide) fl_X12_160 rfl rfl ?_
  refine s_putI ok_X12 dX12_goOn_51 (k := 10) (by decide) fl_X12_146 rfl rfl rfl rfl rfl ?_
  refine r_st (fun σ3 eσ3 => ?_)
  replace h := bnd_at h eσ3
  refine r_aload_n dX12_goOn_54 0 rfl ?_
  refine s_getI ok_X12 dX12_goOn_55 (k := 6) (by decide) fl_X12_160 rfl rfl ?_
  refine r_aload_n dX12_goOn_58 0 rfl ?_
  refine s_getI ok_X12 dX12_goOn_59 (k := 5) (by decide) fl_X12_153 rfl rfl ?_
  refine r_icmp_ne (t := 73) dX12_goOn_62 (by decide) (fun qc4 => ?_) (fun qc4 => ?_)
  · replace h := ifn h qc4
    refine r_aload_n dX12_goOn_73 0 rfl ?_
    refine r_aload_n dX12_goOn_74 0 rfl ?_
    refine s_getI ok_X12 dX12_goOn_75 (k := 6) (by decide) fl_X12_160 rfl rfl ?_
    obtain ⟨rq6, qg5, h⟩ := bd_at h
    refine x_callV (Y := mX12_isLetterAt) (d' := 2) dX12_goOn_78 ml_X12_166 yv_X12_isLetterAt (by omega) rfl rfl (by simp [Value.category]) (sR_is rfl rfl) (lc_X12_isLetterAt qg5) ?_
    refine r_if_eq (t := 182) dX12_goOn_81 (by decide) (fun qc7 => ?_) (fun qc7 => ?_)
    · replace h := ifp h qc7
      refine r_aload_n dX12_goOn_182 0 rfl ?_
      refine r_aload_n dX12_goOn_183 0 rfl ?_
      refine s_getI ok_X12 dX12_goOn_184 (k := 6) (by decide) fl_X12_160 rfl rfl ?_
      obtain ⟨rq9, qg8, h⟩ := bd_at h
      refine x_callV (Y := mX12_isDigitAt) (d' := 2) dX12_goOn_187 ml_X12_178 yv_X12_isDigitAt (by omega) rfl rfl (by simp [Value.category]) (sR_is rfl rfl) (lc_X12_isDigitAt qg8) ?_
      refine r_if_eq (t := 258) dX12_goOn_190 (by decide) (fun qc10 => ?_) (fun qc10 => ?_)
      · replace h := ifp h qc10
        refine r_aload_n dX12_goOn_258 0 rfl ?_
        refine r_aload_n dX12_goOn_259 0 rfl ?_
        refine s_getR (b := 103) ok_X12 dX12_goOn_260 (k := 3) (by decide) fl_X12_13 rfl rfl rfl ?_
        refine r_aload_n dX12_goOn_263 0 rfl ?_
        refine s_getI ok_X12 dX12_goOn_264 (k := 6) (by decide) fl_X12_160 rfl rfl ?_
        obtain ⟨qg11, h⟩ := grd_at h
        refine s_iald dX12_goOn_267 rfl (inb_of qg11) ?_
        refine s_putI ok_X12 dX12_goOn_268 (k := 11) (by decide) fl_X12_184 rfl rfl rfl rfl rfl ?_
        refine r_st (fun σ12 eσ12 => ?_)
        replace h := bnd_at h eσ12
        refine r_aload_n dX12_goOn_271 0 rfl ?_
        refine r_aload_n dX12_goOn_272 0 rfl ?_
        refine s_getI ok_X12 dX12_goOn_273 (k := 11) (by decide) fl_X12_184 rfl rfl ?_
        refine r_bipush (v := 59) dX12_goOn_276 (by decide) ?_
        refine r_icmp_eq (t := 299) dX12_goOn_278 (by decide) (fun qc13 => ?_) (fun qc13 => ?_)
        · replace h := ifp h qc13
          refine r_iconst (v := 4) dX12_goOn_299 (by decide) ?_
          refine r_goto (t := 304) dX12_goOn_300 (by decide) ?_
          refine s_putI ok_X12 dX12_goOn_304 (k := 9) (by decide) fl_X12_163 rfl rfl rfl rfl rfl ?_
          refine r_st (fun σ14 eσ14 => ?_)
          replace h := bnd_at h eσ14
          refine r_aload_n dX12_goOn_307 0 rfl ?_
          refine r_dup dX12_goOn_308 rfl ?_
          refine s_getI ok_X12 dX12_goOn_309 (k := 6) (by decide) fl_X12_160 rfl rfl ?_
          refine r_iconst (v := 1) dX12_goOn_312 (by decide) ?_
          refine r_iadd dX12_goOn_313 ?_
          refine s_putI ok_X12 dX12_goOn_314 (k := 6) (by decide) fl_X12_160 rfl rfl rfl rfl rfl ?_
          refine r_st (fun σ15 eσ15 => ?_)
          replace h := bnd_at h eσ15
          refine r_vret rfl dX12_goOn_317 ?_
          exact lfV h
        · replace h := ifn h qc13
          refine r_aload_n dX12_goOn_281 0 rfl ?_
          refine s_getI ok_X12 dX12_goOn_282 (k := 11) (by decide) fl_X12_184 rfl rfl ?_
          refine r_bipush (v := 40) dX12_goOn_285 (by decide) ?_
          refine r_icmp_eq (t := 299) dX12_goOn_287 (by decide) (fun qc16 => ?_) (fun qc16 => ?_)
          · replace h := ifp h qc16
            refine r_iconst (v := 4) dX12_goOn_299 (by decide) ?_
            refine r_goto (t := 304) dX12_goOn_300 (by decide) ?_
            refine s_putI ok_X12 dX12_goOn_304 (k := 9) (by decide) fl_X12_163 rfl rfl rfl rfl rfl ?_
            refine r_st (fun σ17 eσ17 => ?_)
            replace h := bnd_at h eσ17
            refine r_aload_n dX12_goOn_307 0 rfl ?_
            refine r_dup dX12_goOn_308 rfl ?_
            refine s_getI ok_X12 dX12_goOn_309 (k := 6) (by decide) fl_X12_160 rfl rfl ?_
            refine r_iconst (v := 1) dX12_goOn_312 (by decide) ?_
            refine r_iadd dX12_goOn_313 ?_
            refine s_putI ok_X12 dX12_goOn_314 (k := 6) (by decide) fl_X12_160 rfl rfl rfl rfl rfl ?_
            refine r_st (fun σ18 eσ18 => ?_)
            replace h := bnd_at h eσ18
            refine r_vret rfl dX12_goOn_317 ?_
            exact lfV h
          · replace h := ifn h qc16
            refine r_aload_n dX12_goOn_290 0 rfl ?_
            refine s_getI ok_X12 dX12_goOn_291 (k := 11) (by decide) fl_X12_184 rfl rfl ?_
            refine r_bipush (v := 41) dX12_goOn_294 (by decide) ?_
            refine r_icmp_ne (t := 303) dX12_goOn_296 (by decide) (fun qc19 => ?_) (fun qc19 => ?_)
            · replace h := ifn h qc19
              refine r_iconst (v := 0) dX12_goOn_303 (by decide) ?_
              refine s_putI ok_X12 dX12_goOn_304 (k := 9) (by decide) fl_X12_163 rfl rfl rfl rfl rfl ?_
              refine r_st (fun σ20 eσ20 => ?_)
              replace h := bnd_at h eσ20
              refine r_aload_n dX12_goOn_307 0 rfl ?_
              refine r_dup dX12_goOn_308 rfl ?_
              refine s_getI ok_X12 dX12_goOn_309 (k := 6) (by decide) fl_X12_160 rfl rfl ?_
              refine r_iconst (v := 1) dX12_goOn_312 (by decide) ?_
              refine r_iadd dX12_goOn_313 ?_
              refine s_putI ok_X12 dX12_goOn_314 (k := 6) (by decide) fl_X12_160 rfl rfl rfl rfl rfl ?_
              refine r_st (fun σ21 eσ21 => ?_)
              replace h := bnd_at h eσ21
              refine r_vret rfl dX12_goOn_317 ?_
              exact lfV h
            · replace h := ifp h qc19
              refine r_iconst (v := 4) dX12_goOn_299 (by decide) ?_
              refine r_goto (t := 304) dX12_goOn_300 (by decide) ?_
              refine s_putI ok_X12 dX12_goOn_304 (k := 9) (by decide) fl_X12_163 rfl rfl rfl rfl rfl ?_
              refine r_st (fun σ22 eσ22 => ?_)
              replace h := bnd_at h eσ22
              refine r_aload_n dX12_goOn_307 0 rfl ?_
              refine r_dup dX12_goOn_308 rfl ?_
              refine s_getI ok_X12 dX12_goOn_309 (k := 6) (by decide) fl_X12_160 rfl rfl ?_
              refine r_iconst (v := 1) dX12_goOn_312 (by decide) ?_
              refine r_iadd dX12_goOn_313 ?_
              refine s_putI ok_X12 dX12_goOn_314 (k := 6) (by decide) fl_X12_160 rfl rfl rfl rfl rfl ?_
              refine r_st (fun σ23 eσ23 => ?_)
              replace h := bnd_at h eσ23
              refine r_vret rfl dX12_goOn_317 ?_
              exact lfV h
      · replace h := ifn h qc10
        refine r_aload_n dX12_goOn_193 0 rfl ?_
        refine r_aload_n dX12_goOn_194 0 rfl ?_
        refine s_getR (b := 103) ok_X12 dX12_goOn_195 (k := 3) (by decide) fl_X12_13 rfl rfl rfl ?_
        refine r_aload_n dX12_goOn_198 0 rfl ?_
        refine s_getI ok_X12 dX12_goOn_199 (k := 6) (by decide) fl_X12_160 rfl rfl ?_
        obtain ⟨qg24, h⟩ := grd_at h
        refine s_iald dX12_goOn_202 rfl (inb_of qg24) ?_
        refine r_bipush (v := 48) dX12_goOn_203 (by decide) ?_
        refine r_isub dX12_goOn_205 ?_
        refine s_putI ok_X12 dX12_goOn_206 (k := 12) (by decide) fl_X12_181 rfl rfl rfl rfl rfl ?_
        refine r_st (fun σ25 eσ25 => ?_)
        replace h := bnd_at h eσ25
        refine ab_E.lo [0] rfl (l_X12_goOn_209 (fun σ26 h => ?_) _ _ h)
        refine r_aload_n dX12_goOn_233 0 rfl ?_
        refine r_aload_n dX12_goOn_234 0 rfl ?_
        refine s_getI ok_X12 dX12_goOn_235 (k := 6) (by decide) fl_X12_160 rfl rfl ?_
        refine r_aload_n dX12_goOn_238 0 rfl ?_
        refine s_getI ok_X12 dX12_goOn_239 (k := 10) (by decide) fl_X12_146 rfl rfl ?_
        refine r_isub dX12_goOn_242 ?_
        refine r_iconst (v := 1) dX12_goOn_243 (by decide) ?_
        refine r_icmp_le (t := 251) dX12_goOn_244 (by decide) (fun qc27 => ?_) (fun qc27 => ?_)
        · replace h := ifp h qc27
          refine r_iconst (v := 3) dX12_goOn_251 (by decide) ?_
          refine s_putI ok_X12 dX12_goOn_252 (k := 9) (by decide) fl_X12_163 rfl rfl rfl rfl rfl ?_
          refine r_st (fun σ28 eσ28 => ?_)
          replace h := bnd_at h eσ28
          refine r_goto (t := 317) dX12_goOn_255 (by decide) ?_
          refine r_vret rfl dX12_goOn_317 ?_
          exact lfV h
        · replace h := ifn h qc27
          refine r_iconst (v := 0) dX12_goOn_247 (by decide) ?_
          refine r_goto (t := 252) dX12_goOn_248 (by decide) ?_
          refine s_putI ok_X12 dX12_goOn_252 (k := 9) (by decide) fl_X12_163 rfl rfl rfl rfl rfl ?_
          refine r_st (fun σ29 eσ29 => ?_)
          replace h := bnd_at h eσ29
          refine r_goto (t := 317) dX12_goOn_255 (by decide) ?_
          refine r_vret rfl dX12_goOn_317 ?_
          exact lfV h
    · replace h := ifn h qc7
      refine r_aload_n dX12_goOn_84 0 rfl ?_
      refine r_lconst (v := 0) dX12_goOn_85 (by decide) ?_
      refine s_putL ok_X12 dX12_goOn_86 (k := 13) (by decide) fl_X12_170 rfl rfl rfl rfl rfl ?_
      refine r_st (fun σ30 eσ30 => ?_)
      replace h := bnd_at h eσ30
      refine ab_E.lo [0] rfl (l_X12_goOn_89 (fun σ31 h => ?_) _ _ h)
      refine r_aload_n dX12_goOn_156 0 rfl ?_
      refine r_aload_n dX12_goOn_157 0 rfl ?_
      refine s_getI ok_X12 dX12_goOn_158 (k := 6) (by decide) fl_X12_160 rfl rfl ?_
      refine r_aload_n dX12_goOn_161 0 rfl ?_
      refine s_getI ok_X12 dX12_goOn_162 (k := 10) (by decide) fl_X12_146 rfl rfl ?_
      refine r_isub dX12_goOn_165 ?_
      refine r_bipush (v := 7) dX12_goOn_166 (by decide) ?_
      refine r_icmp_le (t := 175) dX12_goOn_168 (by decide) (fun qc32 => ?_) (fun qc32 => ?_)
      · replace h := ifp h qc32
        refine r_iconst (v := 2) dX12_goOn_175 (by decide) ?_
        refine s_putI ok_X12 dX12_goOn_176 (k := 9) (by decide) fl_X12_163 rfl rfl rfl rfl rfl ?_
        refine r_st (fun σ33 eσ33 => ?_)
        replace h := bnd_at h eσ33
        refine r_goto (t := 317) dX12_goOn_179 (by decide) ?_
        refine r_vret rfl dX12_goOn_317 ?_
        exact lfV h
      · replace h := ifn h qc32
        refine r_iconst (v := 0) dX12_goOn_171 (by decide) ?_
        refine r_goto (t := 176) dX12_goOn_172 (by decide) ?_
        refine s_putI ok_X12 dX12_goOn_176 (k := 9) (by decide) fl_X12_163 rfl rfl rfl rfl rfl ?_
        refine r_st (fun σ34 eσ34 => ?_)
        replace h := bnd_at h eσ34
        refine r_goto (t := 317) dX12_goOn_179 (by decide) ?_
        refine r_vret rfl dX12_goOn_317 ?_
        exact lfV h
  · replace h := ifp h qc4
    refine r_aload_n dX12_goOn_65 0 rfl ?_
    refine r_iconst (v := 1) dX12_goOn_66 (by decide) ?_
    refine s_putI ok_X12 dX12_goOn_67 (k := 9) (by decide) fl_X12_163 rfl rfl rfl rfl rfl ?_
    refine r_st (fun σ35 eσ35 => ?_)
    replace h := bnd_at h eσ35
    refine r_goto (t := 317) dX12_goOn_70 (by decide) ?_
    refine r_vret rfl dX12_goOn_317 ?_
    exact lfV h
set_option maxRecDepth 8000 in
def L_X12_goOn (F : Nat) (σ : sS) : Option sS := if (vI σ 90 7) ≤ 0 then (L_X12_goOn_8 F (fun σ2 => L_X12_goOn_46 F σ2) F σ) else (some σ)
set_option maxRecDepth 8000 in
theorem e_X12_goOn {ad : Nat → Nat} {F : Nat}  {σ : sS} {z : sS} (h : L_X12_goOn F σ = some z) : ab_E (sR ad) mX12_goOn 3 0 [(0, .ref (ad 90))] [] σ (fun r9 σ9 => r9 = none ∧ σ9 = z) := by
  unfold L_X12_goOn at h
  refine r_aload_n dX12_goOn_0 0 rfl ?_
  refine s_getI ok_X12 dX12_goOn_1 (k := 7) (by decide) fl_X12_140 rfl rfl ?_
  refine r_if_le (t := 8) dX12_goOn_4 (by decide) (fun qc1 => ?_) (fun qc1 => ?_)
  · replace h := ifp h qc1
    refine ab_E.lo [0] rfl (l_X12_goOn_8 (fun σ2 h => ?_) _ _ h)
    exact ab_E.lo [0] rfl (l_X12_goOn_46 _ h)
  · replace h := ifn h qc1
    refine r_vret rfl dX12_goOn_7 ?_
    exact lfV h
set_option maxRecDepth 8000 in
theorem lc_X12_goOn {ad : Nat → Nat} {F : Nat}  {σ τ : sS} (h : L_X12_goOn F σ = some τ) : ab_X (sR ad) 3 mX12_goOn [.ref (ad 90)] σ none τ := ab_X.of (by decide) (Nat.le_of_ble_eq_true rfl) (e_X12_goOn h)
