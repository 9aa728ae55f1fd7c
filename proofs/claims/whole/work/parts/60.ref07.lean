/-! the reference, lifted, 7 -/
set_option maxRecDepth 8000 in
def L_X12_isBelow_68 (F : Nat) (x1 : Int32) (x2 : Int32) (σ : sS) (kx : Option Int32) : Nat → Int32 → Option Int32
  | 0, _ => none
  | n + 1, x3 => if 4 ≤ x3 then (kx) else (grd (inb x1 300) (grd (inb x2 300) (if (L_X12_rankIn (vI σ 126 x1.toNatClampNeg) x3) ≤ (L_X12_rankIn (vI σ 126 x2.toNatClampNeg) x3) then (L_X12_isBelow_68 F x1 x2 σ kx n (x3 + 1)) else (some ((0 : Int32))))))
set_option maxRecDepth 8000 in
theorem l_X12_isBelow_68 {ad : Nat → Nat} {F : Nat} {x1 : Int32} {x2 : Int32} {σ : sS} {z : Int32} {kx : Option Int32} (hx : kx  = some z → ab_E (sR ad) mX12_isBelow 2 104 [] [] σ (fun r9 σ9 => r9 = some (.int z) ∧ σ9 = σ)) : ∀ (n : Nat) (x3 : Int32), L_X12_isBelow_68 F x1 x2 σ kx n x3 = some z → ab_E (sR ad) mX12_isBelow 2 68 [(3, .int x3), (1, .int x1), (2, .int x2), (0, .ref (ad 90))] [] σ (fun r9 σ9 => r9 = some (.int z) ∧ σ9 = σ) := by
  intro n
  induction n with
  | zero =>
    intro x3 h
    rw [L_X12_isBelow_68] at h
    cases h
  | succ n ih =>
    intro x3 h
    rw [L_X12_isBelow_68] at h
    refine r_iload_n dX12_isBelow_68 0 rfl ?_
    refine r_iconst (v := 4) dX12_isBelow_69 (by decide) ?_
    refine r_icmp_ge (t := 104) dX12_isBelow_70 (by decide) (fun c13 => ?_) (fun c13 => ?_)
    · replace h := ifp h c13
      exact ab_E.lo [] rfl (hx  h)
    · replace h := ifn h c13
      refine r_aload_n dX12_isBelow_73 3 rfl ?_
      refine s_getR (b := 126) ok_X12 dX12_isBelow_74 (k := 26) (by decide) fl_X12_42 rfl rfl rfl ?_
      refine r_iload_n dX12_isBelow_77 1 rfl ?_
      obtain ⟨g14, h⟩ := grd_at h
      refine s_iald dX12_isBelow_78 rfl (inb_of g14) ?_
      refine r_iload_n dX12_isBelow_79 0 rfl ?_
      refine x_callS (Y := mX12_rankIn) (d' := 1) dX12_isBelow_80 ml_X12_353 ys_X12_rankIn (by omega) rfl rfl (by simp [Value.category]) (lc_X12_rankIn (vI σ 126 x1.toNatClampNeg) x3 σ) ?_
      refine r_aload_n dX12_isBelow_83 3 rfl ?_
      refine s_getR (b := 126) ok_X12 dX12_isBelow_84 (k := 26) (by decide) fl_X12_42 rfl rfl rfl ?_
      refine r_iload_n dX12_isBelow_87 2 rfl ?_
      obtain ⟨g15, h⟩ := grd_at h
      refine s_iald dX12_isBelow_88 rfl (inb_of g15) ?_
      refine r_iload_n dX12_isBelow_89 0 rfl ?_
      refine x_callS (Y := mX12_rankIn) (d' := 1) dX12_isBelow_90 ml_X12_353 ys_X12_rankIn (by omega) rfl rfl (by simp [Value.category]) (lc_X12_rankIn (vI σ 126 x2.toNatClampNeg) x3 σ) ?_
      refine r_icmp_le (t := 98) dX12_isBelow_93 (by decide) (fun c16 => ?_) (fun c16 => ?_)
      · replace h := ifp h c16
        refine r_iinc (v := x3 + 1) (lo' := [(3, .int (x3 + 1)), (1, .int x1), (2, .int x2), (0, .ref (ad 90))]) dX12_isBelow_98 0 rfl rfl (by decide) rfl ?_
        refine r_goto (t := 68) dX12_isBelow_101 (by decide) ?_
        exact ab_E.lo [0, 1, 2, 3] rfl (ih _ h)
      · replace h := ifn h c16
        refine r_iconst (v := 0) dX12_isBelow_96 (by decide) ?_
        refine r_zret rfl (by decide) dX12_isBelow_97 ?_
        exact lfP h
set_option maxRecDepth 8000 in
def L_X12_isBelow (F : Nat) (x1 : Int32) (x2 : Int32) (σ : sS) : Option Int32 := if x1 = x2 then (some ((0 : Int32))) else (grd (inb x1 300) (if (vI σ 125 x1.toNatClampNeg) = ((-2)) then (some ((0 : Int32))) else (grd (inb x1 300) (grd (inb x2 300) (if (vI σ 124 x1.toNatClampNeg) = (vI σ 124 x2.toNatClampNeg) then (grd (inb x1 300) (grd (inb x2 300) (if (vI σ 125 x1.toNatClampNeg) = (vI σ 125 x2.toNatClampNeg) then (grd (inb x2 300) (grd (inb x1 300) (if ((vI σ 127 x2.toNatClampNeg) &&& ((vI σ 127 x1.toNatClampNeg) ^^^ ((-1)))) = 0 then (L_X12_isBelow_68 F x1 x2 σ (some ((1 : Int32))) F 0) else (some ((0 : Int32)))))) else (some ((0 : Int32)))))) else (some ((0 : Int32))))))))
set_option maxRecDepth 8000 in
theorem e_X12_isBelow {ad : Nat → Nat} {F : Nat} {x1 : Int32} {x2 : Int32} {σ : sS} {z : Int32} (h : L_X12_isBelow F x1 x2 σ = some z) : ab_E (sR ad) mX12_isBelow 2 0 [(0, .ref (ad 90)), (1, .int x1), (2, .int x2)] [] σ (fun r9 σ9 => r9 = some (.int z) ∧ σ9 = σ) := by
  unfold L_X12_isBelow at h
  refine r_iload_n dX12_isBelow_0 1 rfl ?_
  refine r_iload_n dX12_isBelow_1 2 rfl ?_
  refine r_icmp_eq (t := 64) dX12_isBelow_2 (by decide) (fun c1 => ?_) (fun c1 => ?_)
  · replace h := ifp h c1
    refine r_iconst (v := 0) dX12_isBelow_64 (by decide) ?_
    refine r_zret rfl (by decide) dX12_isBelow_65 ?_
    exact lfP h
  · replace h := ifn h c1
    refine r_aload_n dX12_isBelow_5 0 rfl ?_
    refine s_getR (b := 125) ok_X12 dX12_isBelow_6 (k := 25) (by decide) fl_X12_39 rfl rfl rfl ?_
    refine r_iload_n dX12_isBelow_9 1 rfl ?_
    obtain ⟨g2, h⟩ := grd_at h
    refine s_iald dX12_isBelow_10 rfl (inb_of g2) ?_
    refine r_bipush (v := (-2)) dX12_isBelow_11 (by decide) ?_
    refine r_icmp_eq (t := 64) dX12_isBelow_13 (by decide) (fun c3 => ?_) (fun c3 => ?_)
    · replace h := ifp h c3
      refine r_iconst (v := 0) dX12_isBelow_64 (by decide) ?_
      refine r_zret rfl (by decide) dX12_isBelow_65 ?_
      exact lfP h
    · replace h := ifn h c3
      refine r_aload_n dX12_isBelow_16 0 rfl ?_
      refine s_getR (b := 124) ok_X12 dX12_isBelow_17 (k := 24) (by decide) fl_X12_36 rfl rfl rfl ?_
      refine r_iload_n dX12_isBelow_20 1 rfl ?_
      obtain ⟨g4, h⟩ := grd_at h
      refine s_iald dX12_isBelow_21 rfl (inb_of g4) ?_
      refine r_aload_n dX12_isBelow_22 0 rfl ?_
      refine s_getR (b := 124) ok_X12 dX12_isBelow_23 (k := 24) (by decide) fl_X12_36 rfl rfl rfl ?_
      refine r_iload_n dX12_isBelow_26 2 rfl ?_
      obtain ⟨g5, h⟩ := grd_at h
      refine s_iald dX12_isBelow_27 rfl (inb_of g5) ?_
      refine r_icmp_ne (t := 64) dX12_isBelow_28 (by decide) (fun c6 => ?_) (fun c6 => ?_)
      · replace h := ifn h c6
        refine r_iconst (v := 0) dX12_isBelow_64 (by decide) ?_
        refine r_zret rfl (by decide) dX12_isBelow_65 ?_
        exact lfP h
      · replace h := ifp h c6
        refine r_aload_n dX12_isBelow_31 0 rfl ?_
        refine s_getR (b := 125) ok_X12 dX12_isBelow_32 (k := 25) (by decide) fl_X12_39 rfl rfl rfl ?_
        refine r_iload_n dX12_isBelow_35 1 rfl ?_
        obtain ⟨g7, h⟩ := grd_at h
        refine s_iald dX12_isBelow_36 rfl (inb_of g7) ?_
        refine r_aload_n dX12_isBelow_37 0 rfl ?_
        refine s_getR (b := 125) ok_X12 dX12_isBelow_38 (k := 25) (by decide) fl_X12_39 rfl rfl rfl ?_
        refine r_iload_n dX12_isBelow_41 2 rfl ?_
        obtain ⟨g8, h⟩ := grd_at h
        refine s_iald dX12_isBelow_42 rfl (inb_of g8) ?_
        refine r_icmp_ne (t := 64) dX12_isBelow_43 (by decide) (fun c9 => ?_) (fun c9 => ?_)
        · replace h := ifn h c9
          refine r_iconst (v := 0) dX12_isBelow_64 (by decide) ?_
          refine r_zret rfl (by decide) dX12_isBelow_65 ?_
          exact lfP h
        · replace h := ifp h c9
          refine r_aload_n dX12_isBelow_46 0 rfl ?_
          refine s_getR (b := 127) ok_X12 dX12_isBelow_47 (k := 27) (by decide) fl_X12_45 rfl rfl rfl ?_
          refine r_iload_n dX12_isBelow_50 2 rfl ?_
          obtain ⟨g10, h⟩ := grd_at h
          refine s_iald dX12_isBelow_51 rfl (inb_of g10) ?_
          refine r_aload_n dX12_isBelow_52 0 rfl ?_
          refine s_getR (b := 127) ok_X12 dX12_isBelow_53 (k := 27) (by decide) fl_X12_45 rfl rfl rfl ?_
          refine r_iload_n dX12_isBelow_56 1 rfl ?_
          obtain ⟨g11, h⟩ := grd_at h
          refine s_iald dX12_isBelow_57 rfl (inb_of g11) ?_
          refine r_iconst (v := (-1)) dX12_isBelow_58 (by decide) ?_
          refine r_ixor dX12_isBelow_59 ?_
          refine r_iand dX12_isBelow_60 ?_
          refine r_if_eq (t := 66) dX12_isBelow_61 (by decide) (fun c12 => ?_) (fun c12 => ?_)
          · replace h := ifp h c12
            refine r_iconst (v := 0) dX12_isBelow_66 (by decide) ?_
            refine r_istore_n (lo' := [(3, .int 0), (0, .ref (ad 90)), (1, .int x1), (2, .int x2)]) dX12_isBelow_67 (by decide) rfl ?_
            refine ab_E.lo [0, 2, 3, 1] rfl (l_X12_isBelow_68 (fun h => ?_) _ _ h)
            refine r_iconst (v := 1) dX12_isBelow_104 (by decide) ?_
            refine r_zret rfl (by decide) dX12_isBelow_105 ?_
            exact lfP h
          · replace h := ifn h c12
            refine r_iconst (v := 0) dX12_isBelow_64 (by decide) ?_
            refine r_zret rfl (by decide) dX12_isBelow_65 ?_
            exact lfP h
set_option maxRecDepth 8000 in
theorem lc_X12_isBelow {ad : Nat → Nat} {F : Nat} {x1 : Int32} {x2 : Int32} {σ : sS} {r : Int32} (h : L_X12_isBelow F x1 x2 σ = some r) : ab_X (sR ad) 2 mX12_isBelow [.ref (ad 90), .int x1, .int x2] σ (some (.int r)) σ := ab_X.of (by decide) (Nat.le_of_ble_eq_true rfl) (e_X12_isBelow h)
set_option maxRecDepth 8000 in
def L_X12_below_4 (F : Nat) (x1 : Int32) (σ : sS) (kx : Int32 → Option Int32) : Nat → Int32 → Int32 → Option Int32
  | 0, _, _ => none
  | n + 1, x2, x3 => if (vI σ 90 33) ≤ x3 then (kx x2) else (bd (L_X12_isBelow F x1 x3 σ) (fun r3 => if r3 = 0 then (bnd (x2 + 0) (fun y5 => L_X12_below_4 F x1 σ kx n y5 (x3 + 1))) else (bnd (x2 + 1) (fun y6 => L_X12_below_4 F x1 σ kx n y6 (x3 + 1)))))
set_option maxRecDepth 8000 in
theorem l_X12_below_4 {ad : Nat → Nat} {F : Nat} {x1 : Int32} {σ : sS} {z : Int32} {kx : Int32 → Option Int32} (hx : ∀ (x2 : Int32), kx x2 = some z → ab_E (sR ad) mX12_below 3 35 [(2, .int x2)] [] σ (fun r9 σ9 => r9 = some (.int z) ∧ σ9 = σ)) : ∀ (n : Nat) (x2 : Int32) (x3 : Int32), L_X12_below_4 F x1 σ kx n x2 x3 = some z → ab_E (sR ad) mX12_below 3 4 [(2, .int x2), (3, .int x3), (1, .int x1), (0, .ref (ad 90))] [] σ (fun r9 σ9 => r9 = some (.int z) ∧ σ9 = σ) := by
  intro n
  induction n with
  | zero =>
    intro x2 x3 h
    rw [L_X12_below_4] at h
    cases h
  | succ n ih =>
    intro x2 x3 h
    rw [L_X12_below_4] at h
    refine r_iload_n dX12_below_4 1 rfl ?_
    refine r_aload_n dX12_below_5 3 rfl ?_
    refine s_getI ok_X12 dX12_below_6 (k := 33) (by decide) fl_X12_334 rfl rfl ?_
    refine r_icmp_ge (t := 35) dX12_below_9 (by decide) (fun c1 => ?_) (fun c1 => ?_)
    · replace h := ifp h c1
      exact ab_E.lo [0] rfl (hx _ h)
    · replace h := ifn h c1
      refine r_iload_n dX12_below_12 0 rfl ?_
      refine r_aload_n dX12_below_13 3 rfl ?_
      refine r_iload_n dX12_below_14 2 rfl ?_
      refine r_iload_n dX12_below_15 1 rfl ?_
      obtain ⟨r3, g2, h⟩ := bd_at h
      refine x_callV (Y := mX12_isBelow) (d' := 2) dX12_below_16 ml_X12_375 yv_X12_isBelow (by omega) rfl rfl (by simp [Value.category]) (sR_is rfl rfl) (lc_X12_isBelow g2) ?_
      refine r_if_eq (t := 26) dX12_below_19 (by decide) (fun c4 => ?_) (fun c4 => ?_)
      · replace h := ifp h c4
        refine r_iconst (v := 0) dX12_below_26 (by decide) ?_
        refine r_iadd dX12_below_27 ?_
        refine r_topi (fun y5 ey5 => ?_)
        replace h := bnd_at h ey5
        refine r_istore_n (lo' := [(2, .int y5), (3, .int x3), (1, .int x1), (0, .ref (ad 90))]) dX12_below_28 (by decide) rfl ?_
        refine r_iinc (v := x3 + 1) (lo' := [(3, .int (x3 + 1)), (2, .int y5), (1, .int x1), (0, .ref (ad 90))]) dX12_below_29 1 rfl rfl (by decide) rfl ?_
        refine r_goto (t := 4) dX12_below_32 (by decide) ?_
        exact ab_E.lo [1, 0, 2, 3] rfl (ih _ _ h)
      · replace h := ifn h c4
        refine r_iconst (v := 1) dX12_below_22 (by decide) ?_
        refine r_goto (t := 27) dX12_below_23 (by decide) ?_
        refine r_iadd dX12_below_27 ?_
        refine r_topi (fun y6 ey6 => ?_)
        replace h := bnd_at h ey6
        refine r_istore_n (lo' := [(2, .int y6), (3, .int x3), (1, .int x1), (0, .ref (ad 90))]) dX12_below_28 (by decide) rfl ?_
        refine r_iinc (v := x3 + 1) (lo' := [(3, .int (x3 + 1)), (2, .int y6), (1, .int x1), (0, .ref (ad 90))]) dX12_below_29 1 rfl rfl (by decide) rfl ?_
        refine r_goto (t := 4) dX12_below_32 (by decide) ?_
        exact ab_E.lo [1, 0, 2, 3] rfl (ih _ _ h)
set_option maxRecDepth 8000 in
def L_X12_below (F : Nat) (x1 : Int32) (σ : sS) : Option Int32 := L_X12_below_4 F x1 σ (fun y1 => some y1) F 0 0
set_option maxRecDepth 8000 in
theorem e_X12_below {ad : Nat → Nat} {F : Nat} {x1 : Int32} {σ : sS} {z : Int32} (h : L_X12_below F x1 σ = some z) : ab_E (sR ad) mX12_below 3 0 [(0, .ref (ad 90)), (1, .int x1)] [] σ (fun r9 σ9 => r9 = some (.int z) ∧ σ9 = σ) := by
  unfold L_X12_below at h
  refine r_iconst (v := 0) dX12_below_0 (by decide) ?_
  refine r_istore_n (lo' := [(2, .int 0), (0, .ref (ad 90)), (1, .int x1)]) dX12_below_1 (by decide) rfl ?_
  refine r_iconst (v := 0) dX12_below_2 (by decide) ?_
  refine r_istore_n (lo' := [(3, .int 0), (2, .int 0), (0, .ref (ad 90)), (1, .int x1)]) dX12_below_3 (by decide) rfl ?_
  refine ab_E.lo [1, 0, 3, 2] rfl (l_X12_below_4 (fun y1 h => ?_) _ _ _ h)
  refine r_iload_n dX12_below_35 0 rfl ?_
  refine r_iret rfl dX12_below_36 ?_
  exact lfP h
set_option maxRecDepth 8000 in
theorem lc_X12_below {ad : Nat → Nat} {F : Nat} {x1 : Int32} {σ : sS} {r : Int32} (h : L_X12_below F x1 σ = some r) : ab_X (sR ad) 3 mX12_below [.ref (ad 90), .int x1] σ (some (.int r)) σ := ab_X.of (by decide) (Nat.le_of_ble_eq_true rfl) (e_X12_below h)
set_option maxRecDepth 8000 in
def L_X12_whyNot (F : Nat) (x1 : Int32) (x2 : Int32) (σ : sS) : Option (Int32 × sS) := bd2 (L_X12_lays F x1 σ) (fun r2 σ3 => if r2 = 0 then (some ((3, σ3))) else (if x2 < (vI σ3 90 33) then (some ((0, σ3))) else (some ((1, σ3)))))
set_option maxRecDepth 8000 in
theorem e_X12_whyNot {ad : Nat → Nat} {F : Nat} {x1 : Int32} {x2 : Int32} {σ : sS} {z : (Int32 × sS)} (h : L_X12_whyNot F x1 x2 σ = some z) : ab_E (sR ad) mX12_whyNot 5 0 [(0, .ref (ad 90)), (1, .int x1), (2, .int x2)] [] σ (fun r9 σ9 => r9 = some (.int z.1) ∧ σ9 = z.2) := by
  unfold L_X12_whyNot at h
  refine r_aload_n dX12_whyNot_0 0 rfl ?_
  refine r_iload_n dX12_whyNot_1 1 rfl ?_
  obtain ⟨r2, σ3, g1, h⟩ := bd2_at h
  refine x_callV (Y := mX12_lays) (d' := 4) dX12_whyNot_2 ml_X12_372 yv_X12_lays (by omega) rfl rfl (by simp [Value.category]) (sR_is rfl rfl) (lc_X12_lays g1) ?_
  refine r_if_ne (t := 12) dX12_whyNot_5 (by decide) (fun c4 => ?_) (fun c4 => ?_)
  · replace h := ifn h c4
    refine r_iload_n dX12_whyNot_12 2 rfl ?_
    refine r_aload_n dX12_whyNot_13 0 rfl ?_
    refine s_getI ok_X12 dX12_whyNot_14 (k := 33) (by decide) fl_X12_334 rfl rfl ?_
    refine r_icmp_lt (t := 24) dX12_whyNot_17 (by decide) (fun c5 => ?_) (fun c5 => ?_)
    · replace h := ifp h c5
      refine r_iconst (v := 0) dX12_whyNot_24 (by decide) ?_
      refine r_iret rfl dX12_whyNot_25 ?_
      exact lfI h
    · replace h := ifn h c5
      refine r_iconst (v := 1) dX12_whyNot_20 (by decide) ?_
      refine r_goto (t := 25) dX12_whyNot_21 (by decide) ?_
      refine r_iret rfl dX12_whyNot_25 ?_
      exact lfI h
  · replace h := ifp h c4
    refine r_iconst (v := 3) dX12_whyNot_8 (by decide) ?_
    refine r_goto (t := 25) dX12_whyNot_9 (by decide) ?_
    refine r_iret rfl dX12_whyNot_25 ?_
    exact lfI h
set_option maxRecDepth 8000 in
theorem lc_X12_whyNot {ad : Nat → Nat} {F : Nat} {x1 : Int32} {x2 : Int32} {σ τ : sS} {r : Int32} (h : L_X12_whyNot F x1 x2 σ = some (r, τ)) : ab_X (sR ad) 5 mX12_whyNot [.ref (ad 90), .int x1, .int x2] σ (some (.int r)) τ := ab_X.of (by decide) (Nat.le_of_ble_eq_true rfl) (e_X12_whyNot h)
set_option maxRecDepth 8000 in
def L_X12_node (F : Nat) (x1 : Int32) (x2 : Int32) (x3 : Int32) (σ : sS) : Option (Int32 × sS) := bnd (uI σ 90 0 0) (fun σ1 => bd (L_X12_isAuto x1 σ1) (fun r3 => if r3 = 0 then (bd2 (L_X12_refused 1 σ1) (fun r6 σ7 => some ((r6, σ7)))) else (if x2 < 0 then (bd2 (L_X12_refused 1 σ1) (fun r10 σ11 => some ((r10, σ11)))) else (if (L_X12_in x3 0 5) = 0 then (bd2 (L_X12_refused 1 σ1) (fun r53 σ54 => some ((r53, σ54)))) else (bd2 (L_X12_whyNot F x1 x2 σ1) (fun r14 σ15 => if r14 ≤ 0 then (if x3 = 0 then (grd (inb x2 300) (bd2 (L_X12_good (vI σ15 124 x2.toNatClampNeg) σ15) (fun r20 σ21 => some ((r20, σ21))))) else (if x3 = 1 then (grd (inb x2 300) (bd2 (L_X12_good (vI σ15 125 x2.toNatClampNeg) σ15) (fun r24 σ25 => some ((r24, σ25))))) else (if x3 = 2 then (grd (inb x2 300) (bd2 (L_X12_good (vI σ15 127 x2.toNatClampNeg) σ15) (fun r28 σ29 => some ((r28, σ29))))) else (if x3 = 3 then (bd (L_X12_isFinalNode x2 σ15) (fun r31 => if r31 = 0 then (bd2 (L_X12_good 0 σ15) (fun r34 σ35 => some ((r34, σ35)))) else (bd2 (L_X12_good 1 σ15) (fun r37 σ38 => some ((r37, σ38)))))) else (if x3 = 4 then (grd (inb ((3 : Int32) * (x2 + 1)) 901) (grd (inb ((3 : Int32) * x2) 901) (bd2 (L_X12_good ((vI σ15 130 ((3 : Int32) * (x2 + 1)).toNatClampNeg) - (vI σ15 130 ((3 : Int32) * x2).toNatClampNeg)) σ15) (fun r42 σ43 => some ((r42, σ43)))))) else (bd (L_X12_below F x2 σ15) (fun r45 => bd2 (L_X12_good r45 σ15) (fun r47 σ48 => some ((r47, σ48)))))))))) else (bd2 (L_X12_refused r14 σ15) (fun r50 σ51 => some ((r50, σ51))))))))))
set_option maxRecDepth 8000 in
theorem e_X12_node {ad : Nat → Nat} {F : Nat} {x1 : Int32} {x2 : Int32} {x3 : Int32} {σ : sS} {z : (Int32 × sS)} (h : L_X12_node F x1 x2 x3 σ = some z) : ab_E (sR ad) mX12_node 6 0 [(0, .ref (ad 90)), (1, .int x1), (2, .int x2), (3, .int x3)] [] σ (fun r9 σ9 => r9 = some (.int z.1) ∧ σ9 = z.2) := by
  unfold L_X12_node at h
  refine r_aload_n dX12_node_0 0 rfl ?_
  refine r_iconst (v := 0) dX12_node_1 (by decide) ?_
  refine s_putI ok_X12 dX12_node_2 (k := 0) (by decide) fl_X12_131 rfl rfl rfl rfl rfl ?_
  refine r_st (fun σ1 eσ1 => ?_)
  replace h := bnd_at h eσ1
  refine r_aload_n dX12_node_5 0 rfl ?_
  refine r_iload_n dX12_node_6 1 rfl ?_
  obtain ⟨r3, g2, h⟩ := bd_at h
  refine x_callV (Y := mX12_isAuto) (d' := 2) dX12_node_7 ml_X12_291 yv_X12_isAuto (by omega) rfl rfl (by simp [Value.category]) (sR_is rfl rfl) (lc_X12_isAuto g2) ?_
  refine r_if_eq (t := 26) dX12_node_10 (by decide) (fun c4 => ?_) (fun c4 => ?_)
  · replace h := ifp h c4
    refine r_aload_n dX12_node_26 0 rfl ?_
    refine r_iconst (v := 1) dX12_node_27 (by decide) ?_
    obtain ⟨r6, σ7, g5, h⟩ := bd2_at h
    refine x_callV (Y := mX12_refused) (d' := 1) dX12_node_28 ml_X12_270 yv_X12_refused (by omega) rfl rfl (by simp [Value.category]) (sR_is rfl rfl) (lc_X12_refused g5) ?_
    refine r_iret rfl dX12_node_31 ?_
    exact lfI h
  · replace h := ifn h c4
    refine r_iload_n dX12_node_13 2 rfl ?_
    refine r_if_lt (t := 26) dX12_node_14 (by decide) (fun c8 => ?_) (fun c8 => ?_)
    · replace h := ifp h c8
      refine r_aload_n dX12_node_26 0 rfl ?_
      refine r_iconst (v := 1) dX12_node_27 (by decide) ?_
      obtain ⟨r10, σ11, g9, h⟩ := bd2_at h
      refine x_callV (Y := mX12_refused) (d' := 1) dX12_node_28 ml_X12_270 yv_X12_refused (by omega) rfl rfl (by simp [Value.category]) (sR_is rfl rfl) (lc_X12_refused g9) ?_
      refine r_iret rfl dX12_node_31 ?_
      exact lfI h
    · replace h := ifn h c8
      refine r_iload_n dX12_node_17 3 rfl ?_
      refine r_iconst (v := 0) dX12_node_18 (by decide) ?_
      refine r_iconst (v := 5) dX12_node_19 (by decide) ?_
      refine x_callS (Y := mX12_in) (d' := 1) dX12_node_20 ml_X12_156 ys_X12_in (by omega) rfl rfl (by simp [Value.category]) (lc_X12_in x3 0 5 σ1) ?_
      refine r_if_ne (t := 32) dX12_node_23 (by decide) (fun c12 => ?_) (fun c12 => ?_)
      · replace h := ifn h c12
        refine r_aload_n dX12_node_32 0 rfl ?_
        refine r_iload_n dX12_node_33 1 rfl ?_
        refine r_iload_n dX12_node_34 2 rfl ?_
        obtain ⟨r14, σ15, g13, h⟩ := bd2_at h
        refine x_callV (Y := mX12_whyNot) (d' := 5) dX12_node_35 ml_X12_378 yv_X12_whyNot (by omega) rfl rfl (by simp [Value.category]) (sR_is rfl rfl) (lc_X12_whyNot g13) ?_
        refine r_istore (lo' := [(4, .int r14), (0, .ref (ad 90)), (1, .int x1), (2, .int x2), (3, .int x3)]) dX12_node_38 (by decide) rfl ?_
        refine r_iload dX12_node_40 0 rfl ?_
        refine r_if_le (t := 52) dX12_node_42 (by decide) (fun c16 => ?_) (fun c16 => ?_)
        · replace h := ifp h c16
          refine r_iload_n dX12_node_52 4 rfl ?_
          by_cases w17_0 : x3 = 0
          · replace h := ifp h w17_0
            refine r_tableIn (t := 88) (off := 35) dX12_node_53 (by rw [w17_0]; decide) (by rw [w17_0]; decide) (by rw [w17_0]; rfl) (by decide) ?_
            refine r_aload_n dX12_node_88 1 rfl ?_
            refine r_aload_n dX12_node_89 1 rfl ?_
            refine s_getR (b := 124) ok_X12 dX12_node_90 (k := 24) (by decide) fl_X12_36 rfl rfl rfl ?_
            refine r_iload_n dX12_node_93 3 rfl ?_
            obtain ⟨g18, h⟩ := grd_at h
            refine s_iald dX12_node_94 rfl (inb_of g18) ?_
            obtain ⟨r20, σ21, g19, h⟩ := bd2_at h
            refine x_callV (Y := mX12_good) (d' := 1) dX12_node_95 ml_X12_288 yv_X12_good (by omega) rfl rfl (by simp [Value.category]) (sR_is rfl rfl) (lc_X12_good g19) ?_
            refine r_iret rfl dX12_node_98 ?_
            exact lfI h
          replace h := ifn h w17_0
          by_cases w17_1 : x3 = 1
          · replace h := ifp h w17_1
            refine r_tableIn (t := 99) (off := 46) dX12_node_53 (by rw [w17_1]; decide) (by rw [w17_1]; decide) (by rw [w17_1]; rfl) (by decide) ?_
            refine r_aload_n dX12_node_99 1 rfl ?_
            refine r_aload_n dX12_node_100 1 rfl ?_
            refine s_getR (b := 125) ok_X12 dX12_node_101 (k := 25) (by decide) fl_X12_39 rfl rfl rfl ?_
            refine r_iload_n dX12_node_104 3 rfl ?_
            obtain ⟨g22, h⟩ := grd_at h
            refine s_iald dX12_node_105 rfl (inb_of g22) ?_
            obtain ⟨r24, σ25, g23, h⟩ := bd2_at h
            refine x_callV (Y := mX12_good) (d' := 1) dX12_node_106 ml_X12_288 yv_X12_good (by omega) rfl rfl (by simp [Value.category]) (sR_is rfl rfl) (lc_X12_good g23) ?_
            refine r_iret rfl dX12_node_109 ?_
            exact lfI h
          replace h := ifn h w17_1
          by_cases w17_2 : x3 = 2
          · replace h := ifp h w17_2
            refine r_tableIn (t := 110) (off := 57) dX12_node_53 (by rw [w17_2]; decide) (by rw [w17_2]; decide) (by rw [w17_2]; rfl) (by decide) ?_
            refine r_aload_n dX12_node_110 1 rfl ?_
            refine r_aload_n dX12_node_111 1 rfl ?_
            refine s_getR (b := 127) ok_X12 dX12_node_112 (k := 27) (by decide) fl_X12_45 rfl rfl rfl ?_
            refine r_iload_n dX12_node_115 3 rfl ?_
            obtain ⟨g26, h⟩ := grd_at h
            refine s_iald dX12_node_116 rfl (inb_of g26) ?_
            obtain ⟨r28, σ29, g27, h⟩ := bd2_at h
            refine x_callV (Y := mX12_good) (d' := 1) dX12_node_117 ml_X12_288 yv_X12_good (by omega) rfl rfl (by simp [Value.category]) (sR_is rfl rfl) (lc_X12_good g27) ?_
            refine r_iret rfl dX12_node_120 ?_
            exact lfI h
          replace h := ifn h w17_2
          by_cases w17_3 : x3 = 3
          · replace h := ifp h w17_3
            refine r_tableIn (t := 121) (off := 68) dX12_node_53 (by rw [w17_3]; decide) (by rw [w17_3]; decide) (by rw [w17_3]; rfl) (by decide) ?_
            refine r_aload_n dX12_node_121 1 rfl ?_
            refine r_aload_n dX12_node_122 1 rfl ?_
            refine r_iload_n dX12_node_123 3 rfl ?_
            obtain ⟨r31, g30, h⟩ := bd_at h
            refine x_callV (Y := mX12_isFinalNode) (d' := 1) dX12_node_124 ml_X12_381 yv_X12_isFinalNode (by omega) rfl rfl (by simp [Value.category]) (sR_is rfl rfl) (lc_X12_isFinalNode g30) ?_
            refine r_if_eq (t := 134) dX12_node_127 (by decide) (fun c32 => ?_) (fun c32 => ?_)
            · replace h := ifp h c32
              refine r_iconst (v := 0) dX12_node_134 (by decide) ?_
              obtain ⟨r34, σ35, g33, h⟩ := bd2_at h
              refine x_callV (Y := mX12_good) (d' := 1) dX12_node_135 ml_X12_288 yv_X12_good (by omega) rfl rfl (by simp [Value.category]) (sR_is rfl rfl) (lc_X12_good g33) ?_
              refine r_iret rfl dX12_node_138 ?_
              exact lfI h
            · replace h := ifn h c32
              refine r_iconst (v := 1) dX12_node_130 (by decide) ?_
              refine r_goto (t := 135) dX12_node_131 (by decide) ?_
              obtain ⟨r37, σ38, g36, h⟩ := bd2_at h
              refine x_callV (Y := mX12_good) (d' := 1) dX12_node_135 ml_X12_288 yv_X12_good (by omega) rfl rfl (by simp [Value.category]) (sR_is rfl rfl) (lc_X12_good g36) ?_
              refine r_iret rfl dX12_node_138 ?_
              exact lfI h
          replace h := ifn h w17_3
          by_cases w17_4 : x3 = 4
          · replace h := ifp h w17_4
            refine r_tableIn (t := 139) (off := 86) dX12_node_53 (by rw [w17_4]; decide) (by rw [w17_4]; decide) (by rw [w17_4]; rfl) (by decide) ?_
            refine r_aload_n dX12_node_139 1 rfl ?_
            refine r_aload_n dX12_node_140 1 rfl ?_
            refine s_getR (b := 130) ok_X12 dX12_node_141 (k := 30) (by decide) fl_X12_54 rfl rfl rfl ?_
            refine r_iconst (v := 3) dX12_node_144 (by decide) ?_
            refine r_iload_n dX12_node_145 3 rfl ?_
            refine r_iconst (v := 1) dX12_node_146 (by decide) ?_
            refine r_iadd dX12_node_147 ?_
            refine r_imul dX12_node_148 ?_
            obtain ⟨g39, h⟩ := grd_at h
            refine s_iald dX12_node_149 rfl (inb_of g39) ?_
            refine r_aload_n dX12_node_150 1 rfl ?_
            refine s_getR (b := 130) ok_X12 dX12_node_151 (k := 30) (by decide) fl_X12_54 rfl rfl rfl ?_
            refine r_iconst (v := 3) dX12_node_154 (by decide) ?_
            refine r_iload_n dX12_node_155 3 rfl ?_
            refine r_imul dX12_node_156 ?_
            obtain ⟨g40, h⟩ := grd_at h
            refine s_iald dX12_node_157 rfl (inb_of g40) ?_
            refine r_isub dX12_node_158 ?_
            obtain ⟨r42, σ43, g41, h⟩ := bd2_at h
            refine x_callV (Y := mX12_good) (d' := 1) dX12_node_159 ml_X12_288 yv_X12_good (by omega) rfl rfl (by simp [Value.category]) (sR_is rfl rfl) (lc_X12_good g41) ?_
            refine r_iret rfl dX12_node_162 ?_
            exact lfI h
          replace h := ifn h w17_4
          refine r_tableOut (t := 163) dX12_node_53 (tb_o5 w17_0 w17_1 w17_2 w17_3 w17_4) (by decide) ?_
          refine r_aload_n dX12_node_163 1 rfl ?_
          refine r_aload_n dX12_node_164 1 rfl ?_
          refine r_iload_n dX12_node_165 3 rfl ?_
          obtain ⟨r45, g44, h⟩ := bd_at h
          refine x_callV (Y := mX12_below) (d' := 3) dX12_node_166 ml_X12_384 yv_X12_below (by omega) rfl rfl (by simp [Value.category]) (sR_is rfl rfl) (lc_X12_below g44) ?_
          obtain ⟨r47, σ48, g46, h⟩ := bd2_at h
          refine x_callV (Y := mX12_good) (d' := 1) dX12_node_169 ml_X12_288 yv_X12_good (by omega) rfl rfl (by simp [Value.category]) (sR_is rfl rfl) (lc_X12_good g46) ?_
          refine r_iret rfl dX12_node_172 ?_
          exact lfI h
        · replace h := ifn h c16
          refine r_aload_n dX12_node_45 1 rfl ?_
          refine r_iload dX12_node_46 0 rfl ?_
          obtain ⟨r50, σ51, g49, h⟩ := bd2_at h
          refine x_callV (Y := mX12_refused) (d' := 1) dX12_node_48 ml_X12_270 yv_X12_refused (by omega) rfl rfl (by simp [Value.category]) (sR_is rfl rfl) (lc_X12_refused g49) ?_
          refine r_iret rfl dX12_node_51 ?_
          exact lfI h
      · replace h := ifp h c12
        refine r_aload_n dX12_node_26 0 rfl ?_
        refine r_iconst (v := 1) dX12_node_27 (by decide) ?_
        obtain ⟨r53, σ54, g52, h⟩ := bd2_at h
        refine x_callV (Y := mX12_refused) (d' := 1) dX12_node_28 ml_X12_270 yv_X12_refused (by omega) rfl rfl (by simp [Value.category]) (sR_is rfl rfl) (lc_X12_refused g52) ?_
        refine r_iret rfl dX12_node_31 ?_
        exact lfI h
set_option maxRecDepth 8000 in
theorem lc_X12_node {ad : Nat → Nat} {F : Nat} {x1 : Int32} {x2 : Int32} {x3 : Int32} {σ τ : sS} {r : Int32} (h : L_X12_node F x1 x2 x3 σ = some (r, τ)) : ab_X (sR ad) 6 mX12_node [.ref (ad 90), .int x1, .int x2, .int x3] σ (some (.int r)) τ := ab_X.of (by decide) (Nat.le_of_ble_eq_true rfl) (e_X12_node h)
set_option maxRecDepth 8000 in
def L_X12_rank (F : Nat) (x1 : Int32) (x2 : Int32) (x3 : Int32) (σ : sS) : Option (Int32 × sS) := bnd (uI σ 90 0 0) (fun σ1 => bd (L_X12_isState x1 x3 σ1) (fun r3 => if r3 = 0 then (bd2 (L_X12_refused 1 σ1) (fun r6 σ7 => some ((r6, σ7)))) else (if 0 ≤ x2 then (bd2 (L_X12_whyNot F x1 x2 σ1) (fun r10 σ11 => if r10 ≤ 0 then (grd (inb x2 300) (if (vI σ11 125 x2.toNatClampNeg) = ((-2)) then (bd2 (L_X12_good (-2) σ11) (fun r16 σ17 => some ((r16, σ17)))) else (grd (inb x2 300) (if (((vI σ11 124 x2.toNatClampNeg) >>> (x3 &&& 31)) &&& 1) = 0 then (bd2 (L_X12_good (-2) σ11) (fun r25 σ26 => some ((r25, σ26)))) else (grd (inb x2 300) (bd2 (L_X12_good (L_X12_rankIn (vI σ11 126 x2.toNatClampNeg) x3) σ11) (fun r22 σ23 => some ((r22, σ23))))))))) else (bd2 (L_X12_refused r10 σ11) (fun r28 σ29 => some ((r28, σ29)))))) else (bd2 (L_X12_refused 1 σ1) (fun r31 σ32 => some ((r31, σ32)))))))
set_option maxRecDepth 8000 in
theorem e_X12_rank {ad : Nat → Nat} {F : Nat} {x1 : Int32} {x2 : Int32} {x3 : Int32} {σ : sS} {z : (Int32 × sS)} (h : L_X12_rank F x1 x2 x3 σ = some z) : ab_E (sR ad) mX12_rank 6 0 [(0, .ref (ad 90)), (1, .int x1), (2, .int x2), (3, .int x3)] [] σ (fun r9 σ9 => r9 = some (.int z.1) ∧ σ9 = z.2) := by
  unfold L_X12_rank at h
  refine r_aload_n dX12_rank_0 0 rfl ?_
  refine r_iconst (v := 0) dX12_rank_1 (by decide) ?_
  refine s_putI ok_X12 dX12_rank_2 (k := 0) (by decide) fl_X12_131 rfl rfl rfl rfl rfl ?_
  refine r_st (fun σ1 eσ1 => ?_)
  replace h := bnd_at h eσ1
  refine r_aload_n dX12_rank_5 0 rfl ?_
  refine r_iload_n dX12_rank_6 1 rfl ?_
  refine r_iload_n dX12_rank_7 3 rfl ?_
  obtain ⟨r3, g2, h⟩ := bd_at h
  refine x_callV (Y := mX12_isState) (d' := 3) dX12_rank_8 ml_X12_302 yv_X12_isState (by omega) rfl rfl (by simp [Value.category]) (sR_is rfl rfl) (lc_X12_isState g2) ?_
  refine r_if_eq (t := 18) dX12_rank_11 (by decide) (fun c4 => ?_) (fun c4 => ?_)
  · replace h := ifp h c4
    refine r_aload_n dX12_rank_18 0 rfl ?_
    refine r_iconst (v := 1) dX12_rank_19 (by decide) ?_
    obtain ⟨r6, σ7, g5, h⟩ := bd2_at h
    refine x_callV (Y := mX12_refused) (d' := 1) dX12_rank_20 ml_X12_270 yv_X12_refused (by omega) rfl rfl (by simp [Value.category]) (sR_is rfl rfl) (lc_X12_refused g5) ?_
    refine r_iret rfl dX12_rank_23 ?_
    exact lfI h
  · replace h := ifn h c4
    refine r_iload_n dX12_rank_14 2 rfl ?_
    refine r_if_ge (t := 24) dX12_rank_15 (by decide) (fun c8 => ?_) (fun c8 => ?_)
    · replace h := ifp h c8
      refine r_aload_n dX12_rank_24 0 rfl ?_
      refine r_iload_n dX12_rank_25 1 rfl ?_
      refine r_iload_n dX12_rank_26 2 rfl ?_
      obtain ⟨r10, σ11, g9, h⟩ := bd2_at h
      refine x_callV (Y := mX12_whyNot) (d' := 5) dX12_rank_27 ml_X12_378 yv_X12_whyNot (by omega) rfl rfl (by simp [Value.category]) (sR_is rfl rfl) (lc_X12_whyNot g9) ?_
      refine r_istore (lo' := [(4, .int r10), (0, .ref (ad 90)), (1, .int x1), (2, .int x2), (3, .int x3)]) dX12_rank_30 (by decide) rfl ?_
      refine r_iload dX12_rank_32 0 rfl ?_
      refine r_if_le (t := 44) dX12_rank_34 (by decide) (fun c12 => ?_) (fun c12 => ?_)
      · replace h := ifp h c12
        refine r_aload_n dX12_rank_44 1 rfl ?_
        refine r_aload_n dX12_rank_45 1 rfl ?_
        refine s_getR (b := 125) ok_X12 dX12_rank_46 (k := 25) (by decide) fl_X12_39 rfl rfl rfl ?_
        refine r_iload_n dX12_rank_49 3 rfl ?_
        obtain ⟨g13, h⟩ := grd_at h
        refine s_iald dX12_rank_50 rfl (inb_of g13) ?_
        refine r_bipush (v := (-2)) dX12_rank_51 (by decide) ?_
        refine r_icmp_eq (t := 69) dX12_rank_53 (by decide) (fun c14 => ?_) (fun c14 => ?_)
        · replace h := ifp h c14
          refine r_bipush (v := (-2)) dX12_rank_69 (by decide) ?_
          refine r_goto (t := 84) dX12_rank_71 (by decide) ?_
          obtain ⟨r16, σ17, g15, h⟩ := bd2_at h
          refine x_callV (Y := mX12_good) (d' := 1) dX12_rank_84 ml_X12_288 yv_X12_good (by omega) rfl rfl (by simp [Value.category]) (sR_is rfl rfl) (lc_X12_good g15) ?_
          refine r_iret rfl dX12_rank_87 ?_
          exact lfI h
        · replace h := ifn h c14
          refine r_aload_n dX12_rank_56 1 rfl ?_
          refine s_getR (b := 124) ok_X12 dX12_rank_57 (k := 24) (by decide) fl_X12_36 rfl rfl rfl ?_
          refine r_iload_n dX12_rank_60 3 rfl ?_
          obtain ⟨g18, h⟩ := grd_at h
          refine s_iald dX12_rank_61 rfl (inb_of g18) ?_
          refine r_iload_n dX12_rank_62 4 rfl ?_
          refine r_ishr dX12_rank_63 ?_
          refine r_iconst (v := 1) dX12_rank_64 (by decide) ?_
          refine r_iand dX12_rank_65 ?_
          refine r_if_ne (t := 74) dX12_rank_66 (by decide) (fun c19 => ?_) (fun c19 => ?_)
          · replace h := ifn h c19
            refine r_aload_n dX12_rank_74 1 rfl ?_
            refine s_getR (b := 126) ok_X12 dX12_rank_75 (k := 26) (by decide) fl_X12_42 rfl rfl rfl ?_
            refine r_iload_n dX12_rank_78 3 rfl ?_
            obtain ⟨g20, h⟩ := grd_at h
            refine s_iald dX12_rank_79 rfl (inb_of g20) ?_
            refine r_iload_n dX12_rank_80 4 rfl ?_
            refine x_callS (Y := mX12_rankIn) (d' := 1) dX12_rank_81 ml_X12_353 ys_X12_rankIn (by omega) rfl rfl (by simp [Value.category]) (lc_X12_rankIn (vI σ11 126 x2.toNatClampNeg) x3 σ11) ?_
            obtain ⟨r22, σ23, g21, h⟩ := bd2_at h
            refine x_callV (Y := mX12_good) (d' := 1) dX12_rank_84 ml_X12_288 yv_X12_good (by omega) rfl rfl (by simp [Value.category]) (sR_is rfl rfl) (lc_X12_good g21) ?_
            refine r_iret rfl dX12_rank_87 ?_
            exact lfI h
          · replace h := ifp h c19
            refine r_bipush (v := (-2)) dX12_rank_69 (by decide) ?_
            refine r_goto (t := 84) dX12_rank_71 (by decide) ?_
            obtain ⟨r25, σ26, g24, h⟩ := bd2_at h
            refine x_callV (Y := mX12_good) (d' := 1) dX12_rank_84 ml_X12_288 yv_X12_good (by omega) rfl rfl (by simp [Value.category]) (sR_is rfl rfl) (lc_X12_good g24) ?_
            refine r_iret rfl dX12_rank_87 ?_
            exact lfI h
      · replace h := ifn h c12
        refine r_aload_n dX12_rank_37 1 rfl ?_
        refine r_iload dX12_rank_38 0 rfl ?_
        obtain ⟨r28, σ29, g27, h⟩ := bd2_at h
        refine x_callV (Y := mX12_refused) (d' := 1) dX12_rank_40 ml_X12_270 yv_X12_refused (by omega) rfl rfl (by simp [Value.category]) (sR_is rfl rfl) (lc_X12_refused g27) ?_
        refine r_iret rfl dX12_rank_43 ?_
        exact lfI h
    · replace h := ifn h c8
      refine r_aload_n dX12_rank_18 0 rfl ?_
      refine r_iconst (v := 1) dX12_rank_19 (by decide) ?_
      obtain ⟨r31, σ32, g30, h⟩ := bd2_at h
      refine x_callV (Y := mX12_refused) (d' := 1) dX12_rank_20 ml_X12_270 yv_X12_refused (by omega) rfl rfl (by simp [Value.category]) (sR_is rfl rfl) (lc_X12_refused g30) ?_
      refine r_iret rfl dX12_rank_23 ?_
      exact lfI h
set_option maxRecDepth 8000 in
theorem lc_X12_rank {ad : Nat → Nat} {F : Nat} {x1 : Int32} {x2 : Int32} {x3 : Int32} {σ τ : sS} {r : Int32} (h : L_X12_rank F x1 x2 x3 σ = some (r, τ)) : ab_X (sR ad) 6 mX12_rank [.ref (ad 90), .int x1, .int x2, .int x3] σ (some (.int r)) τ := ab_X.of (by decide) (Nat.le_of_ble_eq_true rfl) (e_X12_rank h)
set_option maxRecDepth 8000 in
def L_X12_next (F : Nat) (x1 : Int32) (x2 : Int32) (x3 : Int32) (x4 : Int32) (σ : sS) : Option (Int32 × sS) := bnd (uI σ 90 0 0) (fun σ1 => bd (L_X12_isAuto x1 σ1) (fun r3 => if r3 = 0 then (bd2 (L_X12_refused 1 σ1) (fun r6 σ7 => some ((r6, σ7)))) else (if x2 < 0 then (bd2 (L_X12_refused 1 σ1) (fun r10 σ11 => some ((r10, σ11)))) else (bd (L_X12_isLetter x3 σ1) (fun r13 => if r13 = 0 then (bd2 (L_X12_refused 1 σ1) (fun r16 σ17 => some ((r16, σ17)))) else (if 0 ≤ x4 then (bd2 (L_X12_whyNot F x1 x2 σ1) (fun r20 σ21 => if r20 ≤ 0 then (bd (L_X12_edgesFrom x2 x3 σ21) (fun r24 => if r24 ≤ x4 then (bd2 (L_X12_good (-2) σ21) (fun r27 σ28 => some ((r27, σ28)))) else (grd (inb (((3 : Int32) * x2) + x3) 901) (grd (inb ((vI σ21 130 (((3 : Int32) * x2) + x3).toNatClampNeg) + x4) 270300) (bd2 (L_X12_good (vI σ21 131 ((vI σ21 130 (((3 : Int32) * x2) + x3).toNatClampNeg) + x4).toNatClampNeg) σ21) (fun r32 σ33 => some ((r32, σ33)))))))) else (bd2 (L_X12_refused r20 σ21) (fun r35 σ36 => some ((r35, σ36)))))) else (bd2 (L_X12_refused 1 σ1) (fun r38 σ39 => some ((r38, σ39))))))))))
set_option maxRecDepth 8000 in
theorem e_X12_next {ad : Nat → Nat} {F : Nat} {x1 : Int32} {x2 : Int32} {x3 : Int32} {x4 : Int32} {σ : sS} {z : (Int32 × sS)} (h : L_X12_next F x1 x2 x3 x4 σ = some z) : ab_E (sR ad) mX12_next 6 0 [(0, .ref (ad 90)), (1, .int x1), (2, .int x2), (3, .int x3), (4, .int x4)] [] σ (fun r9 σ9 => r9 = some (.int z.1) ∧ σ9 = z.2) := by
  unfold L_X12_next at h
  refine r_aload_n dX12_next_0 0 rfl ?_
  refine r_iconst (v := 0) dX12_next_1 (by decide) ?_
  refine s_putI ok_X12 dX12_next_2 (k := 0) (by decide) fl_X12_131 rfl rfl rfl rfl rfl ?_
  refine r_st (fun σ1 eσ1 => ?_)
  replace h := bnd_at h eσ1
  refine r_aload_n dX12_next_5 0 rfl ?_
  refine r_iload_n dX12_next_6 1 rfl ?_
  obtain ⟨r3, g2, h⟩ := bd_at h
  refine x_callV (Y := mX12_isAuto) (d' := 2) dX12_next_7 ml_X12_291 yv_X12_isAuto (by omega) rfl rfl (by simp [Value.category]) (sR_is rfl rfl) (lc_X12_isAuto g2) ?_
  refine r_if_eq (t := 30) dX12_next_10 (by decide) (fun c4 => ?_) (fun c4 => ?_)
  · replace h := ifp h c4
    refine r_aload_n dX12_next_30 0 rfl ?_
    refine r_iconst (v := 1) dX12_next_31 (by decide) ?_
    obtain ⟨r6, σ7, g5, h⟩ := bd2_at h
    refine x_callV (Y := mX12_refused) (d' := 1) dX12_next_32 ml_X12_270 yv_X12_refused (by omega) rfl rfl (by simp [Value.category]) (sR_is rfl rfl) (lc_X12_refused g5) ?_
    refine r_iret rfl dX12_next_35 ?_
    exact lfI h
  · replace h := ifn h c4
    refine r_iload_n dX12_next_13 2 rfl ?_
    refine r_if_lt (t := 30) dX12_next_14 (by decide) (fun c8 => ?_) (fun c8 => ?_)
    · replace h := ifp h c8
      refine r_aload_n dX12_next_30 0 rfl ?_
      refine r_iconst (v := 1) dX12_next_31 (by decide) ?_
      obtain ⟨r10, σ11, g9, h⟩ := bd2_at h
      refine x_callV (Y := mX12_refused) (d' := 1) dX12_next_32 ml_X12_270 yv_X12_refused (by omega) rfl rfl (by simp [Value.category]) (sR_is rfl rfl) (lc_X12_refused g9) ?_
      refine r_iret rfl dX12_next_35 ?_
      exact lfI h
    · replace h := ifn h c8
      refine r_aload_n dX12_next_17 0 rfl ?_
      refine r_iload_n dX12_next_18 3 rfl ?_
      obtain ⟨r13, g12, h⟩ := bd_at h
      refine x_callV (Y := mX12_isLetter) (d' := 2) dX12_next_19 ml_X12_306 yv_X12_isLetter (by omega) rfl rfl (by simp [Value.category]) (sR_is rfl rfl) (lc_X12_isLetter g12) ?_
      refine r_if_eq (t := 30) dX12_next_22 (by decide) (fun c14 => ?_) (fun c14 => ?_)
      · replace h := ifp h c14
        refine r_aload_n dX12_next_30 0 rfl ?_
        refine r_iconst (v := 1) dX12_next_31 (by decide) ?_
        obtain ⟨r16, σ17, g15, h⟩ := bd2_at h
        refine x_callV (Y := mX12_refused) (d' := 1) dX12_next_32 ml_X12_270 yv_X12_refused (by omega) rfl rfl (by simp [Value.category]) (sR_is rfl rfl) (lc_X12_refused g15) ?_
        refine r_iret rfl dX12_next_35 ?_
        exact lfI h
      · replace h := ifn h c14
        refine r_iload dX12_next_25 4 rfl ?_
        refine r_if_ge (t := 36) dX12_next_27 (by decide) (fun c18 => ?_) (fun c18 => ?_)
        · replace h := ifp h c18
          refine r_aload_n dX12_next_36 0 rfl ?_
          refine r_iload_n dX12_next_37 1 rfl ?_
          refine r_iload_n dX12_next_38 2 rfl ?_
          obtain ⟨r20, σ21, g19, h⟩ := bd2_at h
          refine x_callV (Y := mX12_whyNot) (d' := 5) dX12_next_39 ml_X12_378 yv_X12_whyNot (by omega) rfl rfl (by simp [Value.category]) (sR_is rfl rfl) (lc_X12_whyNot g19) ?_
          refine r_istore (lo' := [(5, .int r20), (0, .ref (ad 90)), (1, .int x1), (2, .int x2), (3, .int x3), (4, .int x4)]) dX12_next_42 (by decide) rfl ?_
          refine r_iload dX12_next_44 0 rfl ?_
          refine r_if_le (t := 56) dX12_next_46 (by decide) (fun c22 => ?_) (fun c22 => ?_)
          · replace h := ifp h c22
            refine r_aload_n dX12_next_56 1 rfl ?_
            refine r_iload dX12_next_57 5 rfl ?_
            refine r_aload_n dX12_next_59 1 rfl ?_
            refine r_iload_n dX12_next_60 3 rfl ?_
            refine r_iload_n dX12_next_61 4 rfl ?_
            obtain ⟨r24, g23, h⟩ := bd_at h
            refine x_callV (Y := mX12_edgesFrom) (d' := 1) dX12_next_62 ml_X12_387 yv_X12_edgesFrom (by omega) rfl rfl (by simp [Value.category]) (sR_is rfl rfl) (lc_X12_edgesFrom g23) ?_
            refine r_icmp_ge (t := 89) dX12_next_65 (by decide) (fun c25 => ?_) (fun c25 => ?_)
            · replace h := ifp h c25
              refine r_bipush (v := (-2)) dX12_next_89 (by decide) ?_
              obtain ⟨r27, σ28, g26, h⟩ := bd2_at h
              refine x_callV (Y := mX12_good) (d' := 1) dX12_next_91 ml_X12_288 yv_X12_good (by omega) rfl rfl (by simp [Value.category]) (sR_is rfl rfl) (lc_X12_good g26) ?_
              refine r_iret rfl dX12_next_94 ?_
              exact lfI h
            · replace h := ifn h c25
              refine r_aload_n dX12_next_68 1 rfl ?_
              refine s_getR (b := 131) ok_X12 dX12_next_69 (k := 31) (by decide) fl_X12_58 rfl rfl rfl ?_
              refine r_aload_n dX12_next_72 1 rfl ?_
              refine s_getR (b := 130) ok_X12 dX12_next_73 (k := 30) (by decide) fl_X12_54 rfl rfl rfl ?_
              refine r_iconst (v := 3) dX12_next_76 (by decide) ?_
              refine r_iload_n dX12_next_77 3 rfl ?_
              refine r_imul dX12_next_78 ?_
              refine r_iload_n dX12_next_79 4 rfl ?_
              refine r_iadd dX12_next_80 ?_
              obtain ⟨g29, h⟩ := grd_at h
              refine s_iald dX12_next_81 rfl (inb_of g29) ?_
              refine r_iload dX12_next_82 5 rfl ?_
              refine r_iadd dX12_next_84 ?_
              obtain ⟨g30, h⟩ := grd_at h
              refine s_iald dX12_next_85 rfl (inb_of g30) ?_
              refine r_goto (t := 91) dX12_next_86 (by decide) ?_
              obtain ⟨r32, σ33, g31, h⟩ := bd2_at h
              refine x_callV (Y := mX12_good) (d' := 1) dX12_next_91 ml_X12_288 yv_X12_good (by omega) rfl rfl (by simp [Value.category]) (sR_is rfl rfl) (lc_X12_good g31) ?_
              refine r_iret rfl dX12_next_94 ?_
              exact lfI h
          · replace h := ifn h c22
            refine r_aload_n dX12_next_49 1 rfl ?_
            refine r_iload dX12_next_50 0 rfl ?_
            obtain ⟨r35, σ36, g34, h⟩ := bd2_at h
            refine x_callV (Y := mX12_refused) (d' := 1) dX12_next_52 ml_X12_270 yv_X12_refused (by omega) rfl rfl (by simp [Value.category]) (sR_is rfl rfl) (lc_X12_refused g34) ?_
            refine r_iret rfl dX12_next_55 ?_
            exact lfI h
        · replace h := ifn h c18
          refine r_aload_n dX12_next_30 0 rfl ?_
          refine r_iconst (v := 1) dX12_next_31 (by decide) ?_
          obtain ⟨r38, σ39, g37, h⟩ := bd2_at h
          refine x_callV (Y := mX12_refused) (d' := 1) dX12_next_32 ml_X12_270 yv_X12_refused (by omega) rfl rfl (by simp [Value.category]) (sR_is rfl rfl) (lc_X12_refused g37) ?_
          refine r_iret rfl dX12_next_35 ?_
          exact lfI h
set_option maxRecDepth 8000 in
theorem lc_X12_next {ad : Nat → Nat} {F : Nat} {x1 : Int32} {x2 : Int32} {x3 : Int32} {x4 : Int32} {σ τ : sS} {r : Int32} (h : L_X12_next F x1 x2 x3 x4 σ = some (r, τ)) : ab_X (sR ad) 6 mX12_next [.ref (ad 90), .int x1, .int x2, .int x3, .int x4] σ (some (.int r)) τ := ab_X.of (by decide) (Nat.le_of_ble_eq_true rfl) (e_X12_next h)
set_option maxRecDepth 8000 in
def L_X12_nodes_47 (F : Nat) (x2 : Int32) (σ : sS) (kx : Int32 → Option (Int32 × sS)) : Nat → Int32 → Int32 → Option (Int32 × sS)
  | 0, _, _ => none
  | n + 1, x3, x4 => if (vI σ 90 33) ≤ x4 then (kx x3) else (grd (inb x4 300) (if (vI σ 125 x4.toNatClampNeg) = ((-2)) then (if x2 = 0 then (bnd (x3 + 1) (fun y37 => L_X12_nodes_47 F x2 σ kx n y37 (x4 + 1))) else (if x2 = 1 then (bd (L_X12_isFinalNode x4 σ) (fun r33 => if r33 = 0 then (bnd (x3 + 0) (fun y35 => L_X12_nodes_47 F x2 σ kx n y35 (x4 + 1))) else (bnd (x3 + 1) (fun y36 => L_X12_nodes_47 F x2 σ kx n y36 (x4 + 1))))) else (bnd (x3 + 0) (fun y31 => L_X12_nodes_47 F x2 σ kx n y31 (x4 + 1))))) else (if x2 = 0 then (bnd (x3 + 0) (fun y28 => L_X12_nodes_47 F x2 σ kx n y28 (x4 + 1))) else (if x2 = 1 then (bd (L_X12_isFinalNode x4 σ) (fun r24 => if r24 = 0 then (bnd (x3 + 0) (fun y26 => L_X12_nodes_47 F x2 σ kx n y26 (x4 + 1))) else (bnd (x3 + 1) (fun y27 => L_X12_nodes_47 F x2 σ kx n y27 (x4 + 1))))) else (bd (L_X12_below F x4 σ) (fun r19 => if r19 = 0 then (bnd (x3 + 1) (fun y22 => L_X12_nodes_47 F x2 σ kx n y22 (x4 + 1))) else (bnd (x3 + 0) (fun y21 => L_X12_nodes_47 F x2 σ kx n y21 (x4 + 1)))))))))
set_option maxRecDepth 8000 in
theorem l_X12_nodes_47 {ad : Nat → Nat} {F : Nat} {x2 : Int32} {σ : sS} {z : (Int32 × sS)} {kx : Int32 → Option (Int32 × sS)} (hx : ∀ (x3 : Int32), kx x3 = some z → ab_E (sR ad) mX12_nodes 5 132 [(3, .int x3), (0, .ref (ad 90))] [] σ (fun r9 σ9 => r9 = some (.int z.1) ∧ σ9 = z.2)) : ∀ (n : Nat) (x3 : Int32) (x4 : Int32), L_X12_nodes_47 F x2 σ kx n x3 x4 = some z → ab_E (sR ad) mX12_nodes 5 47 [(3, .int x3), (4, .int x4), (2, .int x2), (0, .ref (ad 90))] [] σ (fun r9 σ9 => r9 = some (.int z.1) ∧ σ9 = z.2) := by
  intro n
  induction n with
  | zero =>
    intro x3 x4 h
    rw [L_X12_nodes_47] at h
    cases h
  | succ n ih =>
    intro x3 x4 h
    rw [L_X12_nodes_47] at h
    refine r_iload dX12_nodes_47 1 rfl ?_
    refine r_aload_n dX12_nodes_49 3 rfl ?_
    refine s_getI ok_X12 dX12_nodes_50 (k := 33) (by decide) fl_X12_334 rfl rfl ?_
    refine r_icmp_ge (t := 132) dX12_nodes_53 (by decide) (fun c13 => ?_) (fun c13 => ?_)
    · replace h := ifp h c13
      exact ab_E.lo [0, 3] rfl (hx _ h)
    · replace h := ifn h c13
      refine r_aload_n dX12_nodes_56 3 rfl ?_
      refine s_getR (b := 125) ok_X12 dX12_nodes_57 (k := 25) (by decide) fl_X12_39 rfl rfl rfl ?_
      refine r_iload dX12_nodes_60 1 rfl ?_
      obtain ⟨g14, h⟩ := grd_at h
      refine s_iald dX12_nodes_62 rfl (inb_of g14) ?_
      refine r_bipush (v := (-2)) dX12_nodes_63 (by decide) ?_
      refine r_icmp_ne (t := 72) dX12_nodes_65 (by decide) (fun c15 => ?_) (fun c15 => ?_)
      · replace h := ifn h c15
        refine r_iconst (v := 0) dX12_nodes_72 (by decide) ?_
        refine r_istore (lo' := [(5, .int 0), (3, .int x3), (4, .int x4), (2, .int x2), (0, .ref (ad 90))]) dX12_nodes_73 (by decide) rfl ?_
        refine r_iload_n dX12_nodes_75 1 rfl ?_
        refine r_iload_n dX12_nodes_76 3 rfl ?_
        refine r_if_ne (t := 88) dX12_nodes_77 (by decide) (fun c16 => ?_) (fun c16 => ?_)
        · replace h := ifn h c16
          refine r_iload_n dX12_nodes_88 3 rfl ?_
          refine r_iconst (v := 1) dX12_nodes_89 (by decide) ?_
          refine r_icmp_ne (t := 105) dX12_nodes_90 (by decide) (fun c17 => ?_) (fun c17 => ?_)
          · replace h := ifn h c17
            refine r_iload dX12_nodes_105 0 rfl ?_
            refine r_if_ne (t := 123) dX12_nodes_107 (by decide) (fun hh9 => absurd (by decide) hh9) (fun _ => ?_)
            refine r_aload_n dX12_nodes_110 4 rfl ?_
            refine r_iload dX12_nodes_111 2 rfl ?_
            obtain ⟨r19, g18, h⟩ := bd_at h
            refine x_callV (Y := mX12_below) (d' := 3) dX12_nodes_113 ml_X12_384 yv_X12_below (by omega) rfl rfl (by simp [Value.category]) (sR_is rfl rfl) (lc_X12_below g18) ?_
            refine r_if_ne (t := 123) dX12_nodes_116 (by decide) (fun c20 => ?_) (fun c20 => ?_)
            · replace h := ifn h c20
              refine r_iconst (v := 0) dX12_nodes_123 (by decide) ?_
              refine r_iadd dX12_nodes_124 ?_
              refine r_topi (fun y21 ey21 => ?_)
              replace h := bnd_at h ey21
              refine r_istore_n (lo' := [(3, .int y21), (5, .int 0), (4, .int x4), (2, .int x2), (0, .ref (ad 90))]) dX12_nodes_125 (by decide) rfl ?_
              refine r_iinc (v := x4 + 1) (lo' := [(4, .int (x4 + 1)), (3, .int y21), (5, .int 0), (2, .int x2), (0, .ref (ad 90))]) dX12_nodes_126 2 rfl rfl (by decide) rfl ?_
              refine r_goto (t := 47) dX12_nodes_129 (by decide) ?_
              exact ab_E.lo [1, 0, 3, 4] rfl (ih _ _ h)
            · replace h := ifp h c20
              refine r_iconst (v := 1) dX12_nodes_119 (by decide) ?_
              refine r_goto (t := 124) dX12_nodes_120 (by decide) ?_
              refine r_iadd dX12_nodes_124 ?_
              refine r_topi (fun y22 ey22 => ?_)
              replace h := bnd_at h ey22
              refine r_istore_n (lo' := [(3, .int y22), (5, .int 0), (4, .int x4), (2, .int x2), (0, .ref (ad 90))]) dX12_nodes_125 (by decide) rfl ?_
              refine r_iinc (v := x4 + 1) (lo' := [(4, .int (x4 + 1)), (3, .int y22), (5, .int 0), (2, .int x2), (0, .ref (ad 90))]) dX12_nodes_126 2 rfl rfl (by decide) rfl ?_
              refine r_goto (t := 47) dX12_nodes_129 (by decide) ?_
              exact ab_E.lo [1, 0, 3, 4] rfl (ih _ _ h)
          · replace h := ifp h c17
            refine r_aload_n dX12_nodes_93 4 rfl ?_
            refine r_iload dX12_nodes_94 2 rfl ?_
            obtain ⟨r24, g23, h⟩ := bd_at h
            refine x_callV (Y := mX12_isFinalNode) (d' := 1) dX12_nodes_96 ml_X12_381 yv_X12_isFinalNode (by omega) rfl rfl (by simp [Value.category]) (sR_is rfl rfl) (lc_X12_isFinalNode g23) ?_
            refine r_if_eq (t := 123) dX12_nodes_99 (by decide) (fun c25 => ?_) (fun c25 => ?_)
            · replace h := ifp h c25
              refine r_iconst (v := 0) dX12_nodes_123 (by decide) ?_
              refine r_iadd dX12_nodes_124 ?_
              refine r_topi (fun y26 ey26 => ?_)
              replace h := bnd_at h ey26
              refine r_istore_n (lo' := [(3, .int y26), (5, .int 0), (4, .int x4), (2, .int x2), (0, .ref (ad 90))]) dX12_nodes_125 (by decide) rfl ?_
              refine r_iinc (v := x4 + 1) (lo' := [(4, .int (x4 + 1)), (3, .int y26), (5, .int 0), (2, .int x2), (0, .ref (ad 90))]) dX12_nodes_126 2 rfl rfl (by decide) rfl ?_
              refine r_goto (t := 47) dX12_nodes_129 (by decide) ?_
              exact ab_E.lo [1, 0, 3, 4] rfl (ih _ _ h)
            · replace h := ifn h c25
              refine r_goto (t := 119) dX12_nodes_102 (by decide) ?_
              refine r_iconst (v := 1) dX12_nodes_119 (by decide) ?_
              refine r_goto (t := 124) dX12_nodes_120 (by decide) ?_
              refine r_iadd dX12_nodes_124 ?_
              refine r_topi (fun y27 ey27 => ?_)
              replace h := bnd_at h ey27
              refine r_istore_n (lo' := [(3, .int y27), (5, .int 0), (4, .int x4), (2, .int x2), (0, .ref (ad 90))]) dX12_nodes_125 (by decide) rfl ?_
              refine r_iinc (v := x4 + 1) (lo' := [(4, .int (x4 + 1)), (3, .int y27), (5, .int 0), (2, .int x2), (0, .ref (ad 90))]) dX12_nodes_126 2 rfl rfl (by decide) rfl ?_
              refine r_goto (t := 47) dX12_nodes_129 (by decide) ?_
              exact ab_E.lo [1, 0, 3, 4] rfl (ih _ _ h)
        · replace h := ifp h c16
          refine r_iload dX12_nodes_80 0 rfl ?_
          refine r_if_eq (t := 123) dX12_nodes_82 (by decide) (fun _ => ?_) (fun hh9 => absurd (by decide) hh9)
          refine r_iconst (v := 0) dX12_nodes_123 (by decide) ?_
          refine r_iadd dX12_nodes_124 ?_
          refine r_topi (fun y28 ey28 => ?_)
          replace h := bnd_at h ey28
          refine r_istore_n (lo' := [(3, .int y28), (5, .int 0), (4, .int x4), (2, .int x2), (0, .ref (ad 90))]) dX12_nodes_125 (by decide) rfl ?_
          refine r_iinc (v := x4 + 1) (lo' := [(4, .int (x4 + 1)), (3, .int y28), (5, .int 0), (2, .int x2), (0, .ref (ad 90))]) dX12_nodes_126 2 rfl rfl (by decide) rfl ?_
          refine r_goto (t := 47) dX12_nodes_129 (by decide) ?_
          exact ab_E.lo [1, 0, 3, 4] rfl (ih _ _ h)
      · replace h := ifp h c15
        refine r_iconst (v := 1) dX12_nodes_68 (by decide) ?_
        refine r_goto (t := 73) dX12_nodes_69 (by decide) ?_
        refine r_istore (lo' := [(5, .int 1), (3, .int x3), (4, .int x4), (2, .int x2), (0, .ref (ad 90))]) dX12_nodes_73 (by decide) rfl ?_
        refine r_iload_n dX12_nodes_75 1 rfl ?_
        refine r_iload_n dX12_nodes_76 3 rfl ?_
        refine r_if_ne (t := 88) dX12_nodes_77 (by decide) (fun c29 => ?_) (fun c29 => ?_)
        · replace h := ifn h c29
          refine r_iload_n dX12_nodes_88 3 rfl ?_
          refine r_iconst (v := 1) dX12_nodes_89 (by decide) ?_
          refine r_icmp_ne (t := 105) dX12_nodes_90 (by decide) (fun c30 => ?_) (fun c30 => ?_)
          · replace h := ifn h c30
            refine r_iload dX12_nodes_105 0 rfl ?_
            refine r_if_ne (t := 123) dX12_nodes_107 (by decide) (fun _ => ?_) (fun hh9 => absurd hh9 (by decide))
            refine r_iconst (v := 0) dX12_nodes_123 (by decide) ?_
            refine r_iadd dX12_nodes_124 ?_
            refine r_topi (fun y31 ey31 => ?_)
            replace h := bnd_at h ey31
            refine r_istore_n (lo' := [(3, .int y31), (5, .int 1), (4, .int x4), (2, .int x2), (0, .ref (ad 90))]) dX12_nodes_125 (by decide) rfl ?_
            refine r_iinc (v := x4 + 1) (lo' := [(4, .int (x4 + 1)), (3, .int y31), (5, .int 1), (2, .int x2), (0, .ref (ad 90))]) dX12_nodes_126 2 rfl rfl (by decide) rfl ?_
            refine r_goto (t := 47) dX12_nodes_129 (by decide) ?_
            exact ab_E.lo [1, 0, 3, 4] rfl (ih _ _ h)
          · replace h := ifp h c30
            refine r_aload_n dX12_nodes_93 4 rfl ?_
            refine r_iload dX12_nodes_94 2 rfl ?_
            obtain ⟨r33, g32, h⟩ := bd_at h
            refine x_callV (Y := mX12_isFinalNode) (d' := 1) dX12_nodes_96 ml_X12_381 yv_X12_isFinalNode (by omega) rfl rfl (by simp [Value.category]) (sR_is rfl rfl) (lc_X12_isFinalNode g32) ?_
            refine r_if_eq (t := 123) dX12_nodes_99 (by decide) (fun c34 => ?_) (fun c34 => ?_)
            · replace h := ifp h c34
              refine r_iconst (v := 0) dX12_nodes_123 (by decide) ?_
              refine r_iadd dX12_nodes_124 ?_
              refine r_topi (fun y35 ey35 => ?_)
              replace h := bnd_at h ey35
              refine r_istore_n (lo' := [(3, .int y35), (5, .int 1), (4, .int x4), (2, .int x2), (0, .ref (ad 90))]) dX12_nodes_125 (by decide) rfl ?_
              refine r_iinc (v := x4 + 1) (lo' := [(4, .int (x4 + 1)), (3, .int y35), (5, .int 1), (2, .int x2), (0, .ref (ad 90))]) dX12_nodes_126 2 rfl rfl (by decide) rfl ?_
              refine r_goto (t := 47) dX12_nodes_129 (by decide) ?_
              exact ab_E.lo [1, 0, 3, 4] rfl (ih _ _ h)
            · replace h := ifn h c34
              refine r_goto (t := 119) dX12_nodes_102 (by decide) ?_
              refine r_iconst (v := 1) dX12_nodes_119 (by decide) ?_
              refine r_goto (t := 124) dX12_nodes_120 (by decide) ?_
              refine r_iadd dX12_nodes_124 ?_
              refine r_topi (fun y36 ey36 => ?_)
              replace h := bnd_at h ey36
              refine r_istore_n (lo' := [(3, .int y36), (5, .int 1), (4, .int x4), (2, .int x2), (0, .ref (ad 90))]) dX12_nodes_125 (by decide) rfl ?_
              refine r_iinc (v := x4 + 1) (lo' := [(4, .int (x4 + 1)), (3, .int y36), (5, .int 1), (2, .int x2), (0, .ref (ad 90))]) dX12_nodes_126 2 rfl rfl (by decide) rfl ?_
              refine r_goto (t := 47) dX12_nodes_129 (by decide) ?_
              exact ab_E.lo [1, 0, 3, 4] rfl (ih _ _ h)
        · replace h := ifp h c29
          refine r_iload dX12_nodes_80 0 rfl ?_
          refine r_if_eq (t := 123) dX12_nodes_82 (by decide) (fun hh9 => absurd hh9 (by decide)) (fun _ => ?_)
          refine r_goto (t := 119) dX12_nodes_85 (by decide) ?_
          refine r_iconst (v := 1) dX12_nodes_119 (by decide) ?_
          refine r_goto (t := 124) dX12_nodes_120 (by decide) ?_
          refine r_iadd dX12_nodes_124 ?_
          refine r_topi (fun y37 ey37 => ?_)
          replace h := bnd_at h ey37
          refine r_istore_n (lo' := [(3, .int y37), (5, .int 1), (4, .int x4), (2, .int x2), (0, .ref (ad 90))]) dX12_nodes_125 (by decide) rfl ?_
          refine r_iinc (v := x4 + 1) (lo' := [(4, .int (x4 + 1)), (3, .int y37), (5, .int 1), (2, .int x2), (0, .ref (ad 90))]) dX12_nodes_126 2 rfl rfl (by decide) rfl ?_
          refine r_goto (t := 47) dX12_nodes_129 (by decide) ?_
          exact ab_E.lo [1, 0, 3, 4] rfl (ih _ _ h)
set_option maxRecDepth 8000 in
def L_X12_nodes (F : Nat) (x1 : Int32) (x2 : Int32) (σ : sS) : Option (Int32 × sS) := bnd (uI σ 90 0 0) (fun σ1 => bd (L_X12_isAuto x1 σ1) (fun r3 => if r3 = 0 then (bd2 (L_X12_refused 1 σ1) (fun r6 σ7 => some ((r6, σ7)))) else (if (L_X12_in x2 0 2) = 0 then (bd2 (L_X12_refused 1 σ1) (fun r21 σ22 => some ((r21, σ22)))) else (bd2 (L_X12_lays F x1 σ1) (fun r10 σ11 => if r10 = 0 then (bd2 (L_X12_refused 3 σ11) (fun r18 σ19 => some ((r18, σ19)))) else (L_X12_nodes_47 F x2 σ11 (fun y13 => bd2 (L_X12_good y13 σ11) (fun r15 σ16 => some ((r15, σ16)))) F 0 0))))))
set_option maxRecDepth 8000 in
theorem e_X12_nodes {ad : Nat → Nat} {F : Nat} {x1 : Int32} {x2 : Int32} {σ : sS} {z : (Int32 × sS)} (h : L_X12_nodes F x1 x2 σ = some z) : ab_E (sR ad) mX12_nodes 5 0 [(0, .ref (ad 90)), (1, .int x1), (2, .int x2)] [] σ (fun r9 σ9 => r9 = some (.int z.1) ∧ σ9 = z.2) := by
  unfold L_X12_nodes at h
  refine r_aload_n dX12_nodes_0 0 rfl ?_
  refine r_iconst (v := 0) dX12_nodes_1 (by decide) ?_
  refine s_putI ok_X12 dX12_nodes_2 (k := 0) (by decide) fl_X12_131 rfl rfl rfl rfl rfl ?_
  refine r_st (fun σ1 eσ1 => ?_)
  replace h := bnd_at h eσ1
  refine r_aload_n dX12_nodes_5 0 rfl ?_
  refine r_iload_n dX12_nodes_6 1 rfl ?_
  obtain ⟨r3, g2, h⟩ := bd_at h
  refine x_callV (Y := mX12_isAuto) (d' := 2) dX12_nodes_7 ml_X12_291 yv_X12_isAuto (by omega) rfl rfl (by simp [Value.category]) (sR_is rfl rfl) (lc_X12_isAuto g2) ?_
  refine r_if_eq (t := 22) dX12_nodes_10 (by decide) (fun c4 => ?_) (fun c4 => ?_)
  · replace h := ifp h c4
    refine r_aload_n dX12_nodes_22 0 rfl ?_
    refine r_iconst (v := 1) dX12_nodes_23 (by decide) ?_
    obtain ⟨r6, σ7, g5, h⟩ := bd2_at h
    refine x_callV (Y := mX12_refused) (d' := 1) dX12_nodes_24 ml_X12_270 yv_X12_refused (by omega) rfl rfl (by simp [Value.category]) (sR_is rfl rfl) (lc_X12_refused g5) ?_
    refine r_iret rfl dX12_nodes_27 ?_
    exact lfI h
  · replace h := ifn h c4
    refine r_iload_n dX12_nodes_13 2 rfl ?_
    refine r_iconst (v := 0) dX12_nodes_14 (by decide) ?_
    refine r_iconst (v := 2) dX12_nodes_15 (by decide) ?_
    refine x_callS (Y := mX12_in) (d' := 1) dX12_nodes_16 ml_X12_156 ys_X12_in (by omega) rfl rfl (by simp [Value.category]) (lc_X12_in x2 0 2 σ1) ?_
    refine r_if_ne (t := 28) dX12_nodes_19 (by decide) (fun c8 => ?_) (fun c8 => ?_)
    · replace h := ifn h c8
      refine r_aload_n dX12_nodes_28 0 rfl ?_
      refine r_iload_n dX12_nodes_29 1 rfl ?_
      obtain ⟨r10, σ11, g9, h⟩ := bd2_at h
      refine x_callV (Y := mX12_lays) (d' := 4) dX12_nodes_30 ml_X12_372 yv_X12_lays (by omega) rfl rfl (by simp [Value.category]) (sR_is rfl rfl) (lc_X12_lays g9) ?_
      refine r_if_ne (t := 42) dX12_nodes_33 (by decide) (fun c12 => ?_) (fun c12 => ?_)
      · replace h := ifn h c12
        refine r_iconst (v := 0) dX12_nodes_42 (by decide) ?_
        refine r_istore_n (lo' := [(3, .int 0), (0, .ref (ad 90)), (1, .int x1), (2, .int x2)]) dX12_nodes_43 (by decide) rfl ?_
        refine r_iconst (v := 0) dX12_nodes_44 (by decide) ?_
        refine r_istore (lo' := [(4, .int 0), (3, .int 0), (0, .ref (ad 90)), (1, .int x1), (2, .int x2)]) dX12_nodes_45 (by decide) rfl ?_
        refine ab_E.lo [1, 0, 4, 2] rfl (l_X12_nodes_47 (fun y13 h => ?_) _ _ _ h)
        refine r_aload_n dX12_nodes_132 1 rfl ?_
        refine r_iload_n dX12_nodes_133 0 rfl ?_
        obtain ⟨r15, σ16, g14, h⟩ := bd2_at h
        refine x_callV (Y := mX12_good) (d' := 1) dX12_nodes_134 ml_X12_288 yv_X12_good (by omega) rfl rfl (by simp [Value.category]) (sR_is rfl rfl) (lc_X12_good g14) ?_
        refine r_iret rfl dX12_nodes_137 ?_
        exact lfI h
      · replace h := ifp h c12
        refine r_aload_n dX12_nodes_36 0 rfl ?_
        refine r_iconst (v := 3) dX12_nodes_37 (by decide) ?_
        obtain ⟨r18, σ19, g17, h⟩ := bd2_at h
        refine x_callV (Y := mX12_refused) (d' := 1) dX12_nodes_38 ml_X12_270 yv_X12_refused (by omega) rfl rfl (by simp [Value.category]) (sR_is rfl rfl) (lc_X12_refused g17) ?_
        refine r_iret rfl dX12_nodes_41 ?_
        exact lfI h
    · replace h := ifp h c8
      refine r_aload_n dX12_nodes_22 0 rfl ?_
      refine r_iconst (v := 1) dX12_nodes_23 (by decide) ?_
      obtain ⟨r21, σ22, g20, h⟩ := bd2_at h
      refine x_callV (Y := mX12_refused) (d' := 1) dX12_nodes_24 ml_X12_270 yv_X12_refused (by omega) rfl rfl (by simp [Value.category]) (sR_is rfl rfl) (lc_X12_refused g20) ?_
      refine r_iret rfl dX12_nodes_27 ?_
      exact lfI h
set_option maxRecDepth 8000 in
theorem lc_X12_nodes {ad : Nat → Nat} {F : Nat} {x1 : Int32} {x2 : Int32} {σ τ : sS} {r : Int32} (h : L_X12_nodes F x1 x2 σ = some (r, τ)) : ab_X (sR ad) 5 mX12_nodes [.ref (ad 90), .int x1, .int x2] σ (some (.int r)) τ := ab_X.of (by decide) (Nat.le_of_ble_eq_true rfl) (e_X12_nodes h)
