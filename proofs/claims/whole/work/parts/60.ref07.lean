/-! the reference, lifted, 7 -/
set_option maxRecDepth 8000 in
def L_X12_isBelow_68 (F : Nat) (x1 : Int32) (x2 : Int32) (σ : sS) (kx : Option Int32) : Nat → Int32 → Option Int32
  | 0, _ => none
  | n + 1, x3 => if 4 ≤ x3 then (kx) else (grd (inb x1 300) (grd (inb x2 300) (if (L_X12_rankIn (vI σ 126 x1.toNatClampNeg) x3) ≤ (L_X12_rankIn (vI σ 126 x2.toNatClampNeg) x3) then (L_X12_isBelow_68 F x1 x2 σ kx n (x3 + 1)) else (some ((0 : Int32))))))
set_option maxRecDepth 8000 in
theorem l_X12_isBelow_68 {ad : Nat → Nat} {F : Nat} {x1 : Int32} {x2 : Int32} {σ : sS} {z : Int32} {kx : Option Int32} (hx : kx  = some z → ab_E (sR ad) mX12_isBelow 2 104 [] [] σ (fun r9 σ9 => r9 = some (.int z) ∧ σ9 = σ)) : ∀ (n : Nat) (x3 : Int32), L_X12_isBelow_68 F x1 x2 σ kx n x3 = some z → ab_E (sR ad) mX12_isBelow 2 68 [(3, .int x3), (1, .int x1), (2, .int x2), (0, .ref (ad 90))] [] σ (fun r9 σ9 => r9 = some (.int z) ∧ σ9 = σ) := by
  intro n
  induction n with
  | zero =>
    intro x3 h
    rw [L_X12_isBelow_68] at h
    cases h
  | succ n ih =>
    intro x3 h
    rw [L_X12_isBelow_68] at h
    refine r_iload_n dX12_isBelow_68 0 rfl ?_
    refine r_iconst (v := 4) dX12_isBelow_69 (by decide) ?_
    refine r_icmp_ge (t := 104) dX12_isBelow_70 (by decide) (fun qc13 => ?_) (fun qc13 => ?_)
    · replace h := ifp h qc13
      exact ab_E.lo [] rfl (hx  h)
    · replace h := ifn h qc13
      refine r_aload_n dX12_isBelow_73 3 rfl ?_
      refine s_getR (b := 126) ok_X12 dX12_isBelow_74 (k := 26) (by decide) fl_X12_42 rfl rfl rfl ?_
      refine r_iload_n dX12_isBelow_77 1 rfl ?_
      obtain ⟨qg14, h⟩ := grd_at h
      refine s_iald dX12_isBelow_78 rfl (inb_of qg14) ?_
      refine r_iload_n dX12_isBelow_79 0 rfl ?_
      refine x_callS (Y := mX12_rankIn) (d' := 1) dX12_isBelow_80 ml_X12_353 ys_X12_rankIn (by omega) rfl rfl (by simp [Value.category]) (lc_X12_rankIn (vI σ 126 x1.toNatClampNeg) x3 σ) ?_
      refine r_aload_n dX12_isBelow_83 3 rfl ?_
      refine s_getR (b := 126) ok_X12 dX12_isBelow_84 (k := 26) (by decide) fl_X12_42 rfl rfl rfl ?_
      refine r_iload_n dX12_isBelow_87 2 rfl ?_
      obtain ⟨qg15, h⟩ := grd_at h
      refine s_iald dX12_isBelow_88 rfl (inb_of qg15) ?_
      refine r_iload_n dX12_isBelow_89 0 rfl ?_
      refine x_callS (Y := mX12_rankIn) (d' := 1) dX12_isBelow_90 ml_X12_353 ys_X12_rankIn (by omega) rfl rfl (by simp [Value.category]) (lc_X12_rankIn (vI σ 126 x2.toNatClampNeg) x3 σ) ?_
      refine r_icmp_le (t := 98) dX12_isBelow_93 (by decide) (fun qc16 => ?_) (fun qc16 => ?_)
      · replace h := ifp h qc16
        refine r_iinc (v := x3 + 1) (lo' := [(3, .int (x3 + 1)), (1, .int x1), (2, .int x2), (0, .ref (ad 90))]) dX12_isBelow_98 0 rfl rfl (by decide) rfl ?_
        refine r_goto (t := 68) dX12_isBelow_101 (by decide) ?_
        exact ab_E.lo [0, 1, 2, 3] rfl (ih _ h)
      · replace h := ifn h qc16
        refine r_iconst (v := 0) dX12_isBelow_96 (by decide) ?_
        refine r_zret rfl (by decide) dX12_isBelow_97 ?_
        exact lfP h
set_option maxRecDepth 8000 in
def L_X12_isBelow (F : Nat) (x1 : Int32) (x2 : Int32) (σ : sS) : Option Int32 := if x1 = x2 then (some ((0 : Int32))) else (grd (inb x1 300) (if (vI σ 125 x1.toNatClampNeg) = ((-2)) then (some ((0 : Int32))) else (grd (inb x1 300) (grd (inb x2 300) (if (vI σ 124 x1.toNatClampNeg) = (vI σ 124 x2.toNatClampNeg) then (grd (inb x1 300) (grd (inb x2 300) (if (vI σ 125 x1.toNatClampNeg) = (vI σ 125 x2.toNatClampNeg) then (grd (inb x2 300) (grd (inb x1 300) (if ((vI σ 127 x2.toNatClampNeg) &&& ((vI σ 127 x1.toNatClampNeg) ^^^ ((-1)))) = 0 then (L_X12_isBelow_68 F x1 x2 σ (some ((1 : Int32))) F 0) else (some ((0 : Int32)))))) else (some ((0 : Int32)))))) else (some ((0 : Int32))))))))
set_option maxRecDepth 8000 in
theorem e_X12_isBelow {ad : Nat → Nat} {F : Nat} {x1 : Int32} {x2 : Int32} {σ : sS} {z : Int32} (h : L_X12_isBelow F x1 x2 σ = some z) : ab_E (sR ad) mX12_isBelow 2 0 [(0, .ref (ad 90)), (1, .int x1), (2, .int x2)] [] σ (fun r9 σ9 => r9 = some (.int z) ∧ σ9 = σ) := by
  unfold L_X12_isBelow at h
  refine r_iload_n dX12_isBelow_0 1 rfl ?_
  refine r_iload_n dX12_isBelow_1 2 rfl ?_
  refine r_icmp_eq (t := 64) dX12_isBelow_2 (by decide) (fun qc1 => ?_) (fun qc1 => ?_)
  · replace h := ifp h qc1
    refine r_iconst (v := 0) dX12_isBelow_64 (by decide) ?_
    refine r_zret rfl (by decide) dX12_isBelow_65 ?_
    exact lfP h
  · replace h := ifn h qc1
    refine r_aload_n dX12_isBelow_5 0 rfl ?_
    refine s_getR (b := 125) ok_X12 dX12_isBelow_6 (k := 25) (by decide) fl_X12_39 rfl rfl rfl ?_
    refine r_iload_n dX12_isBelow_9 1 rfl ?_
    obtain ⟨qg2, h⟩ := grd_at h
    refine s_iald dX12_isBelow_10 rfl (inb_of qg2) ?_
    refine r_bipush (v := (-2)) dX12_isBelow_11 (by decide) ?_
    refine r_icmp_eq (t := 64) dX12_isBelow_13 (by decide) (fun qc3 => ?_) (fun qc3 => ?_)
    · replace h := ifp h qc3
      refine r_iconst (v := 0) dX12_isBelow_64 (by decide) ?_
      refine r_zret rfl (by decide) dX12_isBelow_65 ?_
      exact lfP h
    · replace h := ifn h qc3
      refine r_aload_n dX12_isBelow_16 0 rfl ?_
      refine s_getR (b := 124) ok_X12 dX12_isBelow_17 (k := 24) (by decide) fl_X12_36 rfl rfl rfl ?_
      refine r_iload_n dX12_isBelow_20 1 rfl ?_
      obtain ⟨qg4, h⟩ := grd_at h
      refine s_iald dX12_isBelow_21 rfl (inb_of qg4) ?_
      refine r_aload_n dX12_isBelow_22 0 rfl ?_
      refine s_getR (b := 124) ok_X12 dX12_isBelow_23 (k := 24) (by decide) fl_X12_36 rfl rfl rfl ?_
      refine r_iload_n dX12_isBelow_26 2 rfl ?_
      obtain ⟨qg5, h⟩ := grd_at h
      refine s_iald dX12_isBelow_27 rfl (inb_of qg5) ?_
      refine r_icmp_ne (t := 64) dX12_isBelow_28 (by decide) (fun qc6 => ?_) (fun qc6 => ?_)
      · replace h := ifn h qc6
        refine r_iconst (v := 0) dX12_isBelow_64 (by decide) ?_
        refine r_zret rfl (by decide) dX12_isBelow_65 ?_
        exact lfP h
      · replace h := ifp h qc6
        refine r_aload_n dX12_isBelow_31 0 rfl ?_
        refine s_getR (b := 125) ok_X12 dX12_isBelow_32 (k := 25) (by decide) fl_X12_39 rfl rfl rfl ?_
        refine r_iload_n dX12_isBelow_35 1 rfl ?_
        obtain ⟨qg7, h⟩ := grd_at h
        refine s_iald dX12_isBelow_36 rfl (inb_of qg7) ?_
        refine r_aload_n dX12_isBelow_37 0 rfl ?_
        refine s_getR (b := 125) ok_X12 dX12_isBelow_38 (k := 25) (by decide) fl_X12_39 rfl rfl rfl ?_
        refine r_iload_n dX12_isBelow_41 2 rfl ?_
        obtain ⟨qg8, h⟩ := grd_at h
        refine s_iald dX12_isBelow_42 rfl (inb_of qg8) ?_
        refine r_icmp_ne (t := 64) dX12_isBelow_43 (by decide) (fun qc9 => ?_) (fun qc9 => ?_)
        · replace h := ifn h qc9
          refine r_iconst (v := 0) dX12_isBelow_64 (by decide) ?_
          refine r_zret rfl (by decide) dX12_isBelow_65 ?_
          exact lfP h
        · replace h := ifp h qc9
          refine r_aload_n dX12_isBelow_46 0 rfl ?_
          refine s_getR (b := 127) ok_X12 dX12_isBelow_47 (k := 27) (by decide) fl_X12_45 rfl rfl rfl ?_
          refine r_iload_n dX12_isBelow_50 2 rfl ?_
          obtain ⟨qg10, h⟩ := grd_at h
          refine s_iald dX12_isBelow_51 rfl (inb_of qg10) ?_
          refine r_aload_n dX12_isBelow_52 0 rfl ?_
          refine s_getR (b := 127) ok_X12 dX12_isBelow_53 (k := 27) (by decide) fl_X12_45 rfl rfl rfl ?_
          refine r_iload_n dX12_isBelow_56 1 rfl ?_
          obtain ⟨qg11, h⟩ := grd_at h
          refine s_iald dX12_isBelow_57 rfl (inb_of qg11) ?_
          refine r_iconst (v := (-1)) dX12_isBelow_58 (by decide) ?_
          refine r_ixor dX12_isBelow_59 ?_
          refine r_iand dX12_isBelow_60 ?_
          refine r_if_eq (t := 66) dX12_isBelow_61 (by decide) (fun qc12 => ?_) (fun qc12 => ?_)
          · replace h := ifp h qc12
            refine r_iconst (v := 0) dX12_isBelow_66 (by decide) ?_
            refine r_istore_n (lo' := [(3, .int 0), (0, .ref (ad 90)), (1, .int x1), (2, .int x2)]) dX12_isBelow_67 (by decide) rfl ?_
            refine ab_E.lo [0, 2, 3, 1] rfl (l_X12_isBelow_68 (fun h => ?_) _ _ h)
            refine r_iconst (v := 1) dX12_isBelow_104 (by decide) ?_
            refine r_zret rfl (by decide) dX12_isBelow_105 ?_
            exact lfP h
          · replace h := ifn h qc12
            refine r_iconst (v := 0) dX12_isBelow_64 (by decide) ?_
            refine r_zret rfl (by decide) dX12_isBelow_65 ?_
            exact lfP h
set_option maxRecDepth 8000 in
theorem lc_X12_isBelow {ad : Nat → Nat} {F : Nat} {x1 : Int32} {x2 : Int32} {σ : sS} {r : Int32} (h : L_X12_isBelow F x1 x2 σ = some r) : ab_X (sR ad) 2 mX12_isBelow [.ref (ad 90), .int x1, .int x2] σ (some (.int r)) σ := ab_X.of (by decide) (Nat.le_of_ble_eq_true rfl) (e_X12_isBelow h)
set_option maxRecDepth 8000 in
def L_X12_below_4 (F : Nat) (x1 : Int32) (σ : sS) (kx : Int32 → Option Int32) : Nat → Int32 → Int32 → Option Int32
  | 0, _, _ => none
  | n + 1, x2, x3 => if (vI σ 90 33) ≤ x3 then (kx x2) else (bd (L_X12_isBelow F x1 x3 σ) (fun rq3 => if rq3 = 0 then (bnd (x2 + 0) (fun yq5 => L_X12_below_4 F x1 σ kx n yq5 (x3 + 1))) else (bnd (x2 + 1) (fun yq6 => L_X12_below_4 F x1 σ kx n yq6 (x3 + 1)))))
set_option maxRecDepth 8000 in
theorem l_X12_below_4 {ad : Nat → Nat} {F : Nat} {x1 : Int32} {σ : sS} {z : Int32} {kx : Int32 → Option Int32} (hx : ∀ (x2 : Int32), kx x2 = some z → ab_E (sR ad) mX12_below 3 35 [(2, .int x2)] [] σ (fun r9 σ9 => r9 = some (.int z) ∧ σ9 = σ)) : ∀ (n : Nat) (x2 : Int32) (x3 : Int32), L_X12_below_4 F x1 σ kx n x2 x3 = some z → ab_E (sR ad) mX12_below 3 4 [(2, .int x2), (3, .int x3), (1, .int x1), (0, .ref (ad 90))] [] σ (fun r9 σ9 => r9 = some (.int z) ∧ σ9 = σ) := by
  intro n
  induction n with
  | zero =>
    intro x2 x3 h
    rw [L_X12_below_4] at h
    cases h
  | succ n ih =>
    intro x2 x3 h
    rw [L_X12_below_4] at h
    refine r_iload_n dX12_below_4 1 rfl ?_
    refine r_aload_n dX12_below_5 3 rfl ?_
    refine s_getI ok_X12 dX12_below_6 (k := 33) (by decide) fl_X12_334 rfl rfl ?_
    refine r_icmp_ge (t := 35) dX12_below_9 (by decide) (fun qc1 => ?_) (fun qc1 => ?_)
    · replace h := ifp h qc1
      exact ab_E.lo [0] rfl (hx _ h)
    · replace h := ifn h qc1
      refine r_iload_n dX12_below_12 0 rfl ?_
      refine r_aload_n dX12_below_13 3 rfl ?_
      refine r_iload_n dX12_below_14 2 rfl ?_
      refine r_iload_n dX12_below_15 1 rfl ?_
      obtain ⟨rq3, qg2, h⟩ := bd_at h
      refine x_callV (Y := mX12_isBelow) (d' := 2) dX12_below_16 ml_X12_375 yv_X12_isBelow (by omega) rfl rfl (by simp [Value.category]) (sR_is rfl rfl) (lc_X12_isBelow qg2) ?_
      refine r_if_eq (t := 26) dX12_below_19 (by decide) (fun qc4 => ?_) (fun qc4 => ?_)
      · replace h := ifp h qc4
        refine r_iconst (v := 0) dX12_below_26 (by decide) ?_
        refine r_iadd dX12_below_27 ?_
        refine r_topi (fun yq5 eyq5 => ?_)
        replace h := bnd_at h eyq5
        refine r_istore_n (lo' := [(2, .int yq5), (3, .int x3), (1, .int x1), (0, .ref (ad 90))]) dX12_below_28 (by decide) rfl ?_
        refine r_iinc (v := x3 + 1) (lo' := [(3, .int (x3 + 1)), (2, .int yq5), (1, .int x1), (0, .ref (ad 90))]) dX12_below_29 1 rfl rfl (by decide) rfl ?_
        refine r_goto (t := 4) dX12_below_32 (by decide) ?_
        exact ab_E.lo [1, 0, 2, 3] rfl (ih _ _ h)
      · replace h := ifn h qc4
        refine r_iconst (v := 1) dX12_below_22 (by decide) ?_
        refine r_goto (t := 27) dX12_below_23 (by decide) ?_
        refine r_iadd dX12_below_27 ?_
        refine r_topi (fun yq6 eyq6 => ?_)
        replace h := bnd_at h eyq6
        refine r_istore_n (lo' := [(2, .int yq6), (3, .int x3), (1, .int x1), (0, .ref (ad 90))]) dX12_below_28 (by decide) rfl ?_
        refine r_iinc (v := x3 + 1) (lo' := [(3, .int (x3 + 1)), (2, .int yq6), (1, .int x1), (0, .ref (ad 90))]) dX12_below_29 1 rfl rfl (by decide) rfl ?_
        refine r_goto (t := 4) dX12_below_32 (by decide) ?_
        exact ab_E.lo [1, 0, 2, 3] rfl (ih _ _ h)
set_option maxRecDepth 8000 in
def L_X12_below (F : Nat) (x1 : Int32) (σ : sS) : Option Int32 := L_X12_below_4 F x1 σ (fun yq1 => some yq1) F 0 0
set_option maxRecDepth 8000 in
theorem e_X12_below {ad : Nat → Nat} {F : Nat} {x1 : Int32} {σ : sS} {z : Int32} (h : L_X12_below F x1 σ = some z) : ab_E (sR ad) mX12_below 3 0 [(0, .ref (ad 90)), (1, .int x1)] [] σ (fun r9 σ9 => r9 = some (.int z) ∧ σ9 = σ) := by
  unfold L_X12_below at h
  refine r_iconst (v := 0) dX12_below_0 (by decide) ?_
  refine r_istore_n (lo' := [(2, .int 0), (0, .ref (ad 90)), (1, .int x1)]) dX12_below_1 (by decide) rfl ?_
  refine r_iconst (v := 0) dX12_below_2 (by decide) ?_
  refine r_istore_n (lo' := [(3, .int 0), (2, .int 0), (0, .ref (ad 90)), (1, .int x1)]) dX12_below_3 (by decide) rfl ?_
  refine ab_E.lo [1, 0, 3, 2] rfl (l_X12_below_4 (fun yq1 h => ?_) _ _ _ h)
  refine r_iload_n dX12_below_35 0 rfl ?_
  refine r_iret rfl dX12_below_36 ?_
  exact lfP h
set_option maxRecDepth 8000 in
theorem lc_X12_below {ad : Nat → Nat} {F : Nat} {x1 : Int32} {σ : sS} {r : Int32} (h : L_X12_below F x1 σ = some r) : ab_X (sR ad) 3 mX12_below [.ref (ad 90), .int x1] σ (some (.int r)) σ := ab_X.of (by decide) (Nat.le_of_ble_eq_true rfl) (e_X12_below h)
set_option maxRecDepth 8000 in
def L_X12_whyNot (F : Nat) (x1 : Int32) (x2 : Int32) (σ : sS) : Option (Int32 × sS) := bd2 (L_X12_lays F x1 σ) (fun rq2 σ3 => if rq2 = 0 then (some ((3, σ3))) else (if x2 < (vI σ3 90 33) then (some ((0, σ3))) else (some ((1, σ3)))))
set_option maxRecDepth 8000 in
theorem e_X12_whyNot {ad : Nat → Nat} {F : Nat} {x1 : Int32} {x2 : Int32} {σ : sS} {z : (Int32 × sS)} (h : L_X12_whyNot F x1 x2 σ = some z) : ab_E (sR ad) mX12_whyNot 5 0 [(0, .ref (ad 90)), (1, .int x1), (2, .int x2)] [] σ (fun r9 σ9 => r9 = some (.int z.1) ∧ σ9 = z.2) := by
  unfold L_X12_whyNot at h
  refine r_aload_n dX12_whyNot_0 0 rfl ?_
  refine r_iload_n dX12_whyNot_1 1 rfl ?_
  obtain ⟨rq2, σ3, qg1, h⟩ := bd2_at h
  refine x_callV (Y := mX12_lays) (d' := 4) dX12_whyNot_2 ml_X12_372 yv_X12_lays (by omega) rfl rfl (by simp [Value.category]) (sR_is rfl rfl) (lc_X12_lays qg1) ?_
  refine r_if_ne (t := 12) dX12_whyNot_5 (by decide) (fun qc4 => ?_) (fun qc4 => ?_)
  · replace h := ifn h qc4
    refine r_iload_n dX12_whyNot_12 2 rfl ?_
    refine r_aload_n dX12_whyNot_13 0 rfl ?_
    refine s_getI ok_X12 dX12_whyNot_14 (k := 33) (by decide) fl_X12_334 rfl rfl ?_
    refine r_icmp_lt (t := 24) dX12_whyNot_17 (by decide) (fun qc5 => ?_) (fun qc5 => ?_)
    · replace h := ifp h qc5
      refine r_iconst (v := 0) dX12_whyNot_24 (by decide) ?_
      refine r_iret rfl dX12_whyNot_25 ?_
      exact lfI h
    · replace h := ifn h qc5
      refine r_iconst (v := 1) dX12_whyNot_20 (by decide) ?_
      refine r_goto (t := 25) dX12_whyNot_21 (by decide) ?_
      refine r_iret rfl dX12_whyNot_25 ?_
      exact lfI h
  · replace h := ifp h qc4
    refine r_iconst (v := 3) dX12_whyNot_8 (by decide) ?_
    refine r_goto (t := 25) dX12_whyNot_9 (by decide) ?_
    refine r_iret rfl dX12_whyNot_25 ?_
    exact lfI h
set_option maxRecDepth 8000 in
theorem lc_X12_whyNot {ad : Nat → Nat} {F : Nat} {x1 : Int32} {x2 : Int32} {σ τ : sS} {r : Int32} (h : L_X12_whyNot F x1 x2 σ = some (r, τ)) : ab_X (sR ad) 5 mX12_whyNot [.ref (ad 90), .int x1, .int x2] σ (some (.int r)) τ := ab_X.of (by decide) (Nat.le_of_ble_eq_true rfl) (e_X12_whyNot h)
set_option maxRecDepth 8000 in
def L_X12_node (F : Nat) (x1 : Int32) (x2 : Int32) (x3 : Int32) (σ : sS) : Option (Int32 × sS) := bnd (uI σ 90 0 0) (fun σ1 => bd (L_X12_isAuto x1 σ1) (fun rq3 => if rq3 = 0 then (bd2 (L_X12_refused 1 σ1) (fun rq6 σ7 => some ((rq6, σ7)))) else (if x2 < 0 then (bd2 (L_X12_refused 1 σ1) (fun rq10 σ11 => some ((rq10, σ11)))) else (if (L_X12_in x3 0 5) = 0 then (bd2 (L_X12_refused 1 σ1) (fun rq53 σ54 => some ((rq53, σ54)))) else (bd2 (L_X12_whyNot F x1 x2 σ1) (fun rq14 σ15 => if rq14 ≤ 0 then (if x3 = 0 then (grd (inb x2 300) (bd2 (L_X12_good (vI σ15 124 x2.toNatClampNeg) σ15) (fun rq20 σ21 => some ((rq20, σ21))))) else (if x3 = 1 then (grd (inb x2 300) (bd2 (L_X12_good (vI σ15 125 x2.toNatClampNeg) σ15) (fun rq24 σ25 => some ((rq24, σ25))))) else (if x3 = 2 then (grd (inb x2 300) (bd2 (L_X12_good (vI σ15 127 x2.toNatClampNeg) σ15) (fun rq28 σ29 => some ((rq28, σ29))))) else (if x3 = 3 then (bd (L_X12_isFinalNode x2 σ15) (fun rq31 => if rq31 = 0 then (bd2 (L_X12_good 0 σ15) (fun rq34 σ35 => some ((rq34, σ35)))) else (bd2 (L_X12_good 1 σ15) (fun rq37 σ38 => some ((rq37, σ38)))))) else (if x3 = 4 then (grd (inb ((3 : Int32) * (x2 + 1)) 901) (grd (inb ((3 : Int32) * x2) 901) (bd2 (L_X12_good ((vI σ15 130 ((3 : Int32) * (x2 + 1)).toNatClampNeg) - (vI σ15 130 ((3 : Int32) * x2).toNatClampNeg)) σ15) (fun rq42 σ43 => some ((rq42, σ43)))))) else (bd (L_X12_below F x2 σ15) (fun rq45 => bd2 (L_X12_good rq45 σ15) (fun rq47 σ48 => some ((rq47, σ48)))))))))) else (bd2 (L_X12_refused rq14 σ15) (fun rq50 σ51 => some ((rq50, σ51))))))))))
set_option maxRecDepth 8000 in
theorem e_X12_node {ad : Nat → Nat} {F : Nat} {x1 : Int32} {x2 : Int32} {x3 : Int32} {σ : sS} {z : (Int32 × sS)} (h : L_X12_node F x1 x2 x3 σ = some z) : ab_E (sR ad) mX12_node 6 0 [(0, .ref (ad 90)), (1, .int x1), (2, .int x2), (3, .int x3)] [] σ (fun r9 σ9 => r9 = some (.int z.1) ∧ σ9 = z.2) := by
  unfold L_X12_node at h
  refine r_aload_n dX12_node_0 0 rfl ?_
  refine r_iconst (v := 0) dX12_node_1 (by decide) ?_
  refine s_putI ok_X12 dX12_node_2 (k := 0) (by decide) fl_X12_131 rfl rfl rfl rfl rfl ?_
  refine r_st (fun σ1 eσ1 => ?_)
  replace h := bnd_at h eσ1
  refine r_aload_n dX12_node_5 0 rfl ?_
  refine r_iload_n dX12_node_6 1 rfl ?_
  obtain ⟨rq3, qg2, h⟩ := bd_at h
  refine x_callV (Y := mX12_isAuto) (d' := 2) dX12_node_7 ml_X12_291 yv_X12_isAuto (by omega) rfl rfl (by simp [Value.category]) (sR_is rfl rfl) (lc_X12_isAuto qg2) ?_
  refine r_if_eq (t := 26) dX12_node_10 (by decide) (fun qc4 => ?_) (fun qc4 => ?_)
  · replace h := ifp h qc4
    refine r_aload_n dX12_node_26 0 rfl ?_
    refine r_iconst (v := 1) dX12_node_27 (by decide) ?_
    obtain ⟨rq6, σ7, qg5, h⟩ := bd2_at h
    refine x_callV (Y := mX12_refused) (d' := 1) dX12_node_28 ml_X12_270 yv_X12_refused (by omega) rfl rfl (by simp [Value.category]) (sR_is rfl rfl) (lc_X12_refused qg5) ?_
    refine r_iret rfl dX12_node_31 ?_
    exact lfI h
  · replace h := ifn h qc4
    refine r_iload_n dX12_node_13 2 rfl ?_
    refine r_if_lt (t := 26) dX12_node_14 (by decide) (fun qc8 => ?_) (fun qc8 => ?_)
    · replace h := ifp h qc8
      refine r_aload_n dX12_node_26 0 rfl ?_
      refine r_iconst (v := 1) dX12_node_27 (by decide) ?_
      obtain ⟨rq10, σ11, qg9, h⟩ := bd2_at h
      refine x_callV (Y := mX12_refused) (d' := 1) dX12_node_28 ml_X12_270 yv_X12_refused (by omega) rfl rfl (by simp [Value.category]) (sR_is rfl rfl) (lc_X12_refused qg9) ?_
      refine r_iret rfl dX12_node_31 ?_
      exact lfI h
    · replace h := ifn h qc8
      refine r_iload_n dX12_node_17 3 rfl ?_
      refine r_iconst (v := 0) dX12_node_18 (by decide) ?_
      refine r_iconst (v := 5) dX12_node_19 (by decide) ?_
      refine x_callS (Y := mX12_in) (d' := 1) dX12_node_20 ml_X12_156 ys_X12_in (by omega) rfl rfl (by simp [Value.category]) (lc_X12_in x3 0 5 σ1) ?_
      refine r_if_ne (t := 32) dX12_node_23 (by decide) (fun qc12 => ?_) (fun qc12 => ?_)
      · replace h := ifn h qc12
        refine r_aload_n dX12_node_32 0 rfl ?_
        refine r_iload_n dX12_node_33 1 rfl ?_
        refine r_iload_n dX12_node_34 2 rfl ?_
        obtain ⟨rq14, σ15, qg13, h⟩ := bd2_at h
        refine x_callV (Y := mX12_whyNot) (d' := 5) dX12_node_35 ml_X12_378 yv_X12_whyNot (by omega) rfl rfl (by simp [Value.category]) (sR_is rfl rfl) (lc_X12_whyNot qg13) ?_
        refine r_istore (lo' := [(4, .int rq14), (0, .ref (ad 90)), (1, .int x1), (2, .int x2), (3, .int x3)]) dX12_node_38 (by decide) rfl ?_
        refine r_iload dX12_node_40 0 rfl ?_
        refine r_if_le (t := 52) dX12_node_42 (by decide) (fun qc16 => ?_) (fun qc16 => ?_)
        · replace h := ifp h qc16
          refine r_iload_n dX12_node_52 4 rfl ?_
          by_cases qw17_0 : x3 = 0
          · replace h := ifp h qw17_0
            refine r_tableIn (t := 88) (off := 35) dX12_node_53 (by rw [qw17_0]; decide) (by rw [qw17_0]; decide) (by rw [qw17_0]; rfl) (by decide) ?_
            refine r_aload_n dX12_node_88 1 rfl ?_
            refine r_aload_n dX12_node_89 1 rfl ?_
            refine s_getR (b := 124) ok_X12 dX12_node_90 (k := 24) (by decide) fl_X12_36 rfl rfl rfl ?_
            refine r_iload_n dX12_node_93 3 rfl ?_
            obtain ⟨qg18, h⟩ := grd_at h
            refine s_iald dX12_node_94 rfl (inb_of qg18) ?_
            obtain ⟨rq20, σ21, qg19, h⟩ := bd2_at h
            refine x_callV (Y := mX12_good) (d' := 1) dX12_node_95 ml_X12_288 yv_X12_good (by omega) rfl rfl (by simp [Value.category]) (sR_is rfl rfl) (lc_X12_good qg19) ?_
            refine r_iret rfl dX12_node_98 ?_
            exact lfI h
          replace h := ifn h qw17_0
          by_cases qw17_1 : x3 = 1
          · replace h := ifp h qw17_1
            refine r_tableIn (t := 99) (off := 46) dX12_node_53 (by rw [qw17_1]; decide) (by rw [qw17_1]; decide) (by rw [qw17_1]; rfl) (by decide) ?_
            refine r_aload_n dX12_node_99 1 rfl ?_
            refine r_aload_n dX12_node_100 1 rfl ?_
            refine s_getR (b := 125) ok_X12 dX12_node_101 (k := 25) (by decide) fl_X12_39 rfl rfl rfl ?_
            refine r_iload_n dX12_node_104 3 rfl ?_
            obtain ⟨qg22, h⟩ := grd_at h
            refine s_iald dX12_node_105 rfl (inb_of qg22) ?_
            obtain ⟨rq24, σ25, qg23, h⟩ := bd2_at h
            refine x_callV (Y := mX12_good) (d' := 1) dX12_node_106 ml_X12_288 yv_X12_good (by omega) rfl rfl (by simp [Value.category]) (sR_is rfl rfl) (lc_X12_good qg23) ?_
            refine r_iret rfl dX12_node_109 ?_
            exact lfI h
          replace h := ifn h qw17_1
          by_cases qw17_2 : x3 = 2
          · replace h := ifp h qw17_2
            refine r_tableIn (t := 110) (off := 57) dX12_node_53 (by rw [qw17_2]; decide) (by rw [qw17_2]; decide) (by rw [qw17_2]; rfl) (by decide) ?_
            refine r_aload_n dX12_node_110 1 rfl ?_
            refine r_aload_n dX12_node_111 1 rfl ?_
            refine s_getR (b := 127) ok_X12 dX12_node_112 (k := 27) (by decide) fl_X12_45 rfl rfl rfl ?_
            refine r_iload_n dX12_node_115 3 rfl ?_
            obtain ⟨qg26, h⟩ := grd_at h
            refine s_iald dX12_node_116 rfl (inb_of qg26) ?_
            obtain ⟨rq28, σ29, qg27, h⟩ := bd2_at h
            refine x_callV (Y := mX12_good) (d' := 1) dX12_node_117 ml_X12_288 yv_X12_good (by omega) rfl rfl (by simp [Value.category]) (sR_is rfl rfl) (lc_X12_good qg27) ?_
            refine r_iret rfl dX12_node_120 ?_
            exact lfI h
          replace h := ifn h qw17_2
          by_cases qw17_3 : x3 = 3
          · replace h := ifp h qw17_3
            refine r_tableIn (t := 121) (off := 68) dX12_node_53 (by rw [qw17_3]; decide) (by rw [qw17_3]; decide) (by rw [qw17_3]; rfl) (by decide) ?_
            refine r_aload_n dX12_node_121 1 rfl ?_
            refine r_aload_n dX12_node_122 1 rfl ?_
            refine r_iload_n dX12_node_123 3 rfl ?_
            obtain ⟨rq31, qg30, h⟩ := bd_at h
            refine x_callV (Y := mX12_isFinalNode) (d' := 1) dX12_node_124 ml_X12_381 yv_X12_isFinalNode (by omega) rfl rfl (by simp [Value.category]) (sR_is rfl rfl) (lc_X12_isFinalNode qg30) ?_
            refine r_if_eq (t := 134) dX12_node_127 (by decide) (fun qc32 => ?_) (fun qc32 => ?_)
            · replace h := ifp h qc32
              refine r_iconst (v := 0) dX12_node_134 (by decide) ?_
              obtain ⟨rq34, σ35, qg33, h⟩ := bd2_at h
              refine x_callV (Y := mX12_good) (d' := 1) dX12_node_135 ml_X12_288 yv_X12_good (by omega) rfl rfl (by simp [Value.category]) (sR_is rfl rfl) (lc_X12_good qg33) ?_
              refine r_iret rfl dX12_node_138 ?_
              exact lfI h
            · replace h := ifn h qc32
              refine r_iconst (v := 1) dX12_node_130 (by decide) ?_
              refine r_goto (t := 135) dX12_node_131 (by decide) ?_
              obtain ⟨rq37, σ38, qg36, h⟩ := bd2_at h
              refine x_callV (Y := mX12_good) (d' := 1) dX12_node_135 ml_X12_288 yv_X12_good (by omega) rfl rfl (by simp [Value.category]) (sR_is rfl rfl) (lc_X12_good qg36) ?_
              refine r_iret rfl dX12_node_138 ?_
              exact lfI h
          replace h := ifn h qw17_3
          by_cases qw17_4 : x3 = 4
          · replace h := ifp h qw17_4
            refine r_tableIn (t := 139) (off := 86) dX12_node_53 (by rw [qw17_4]; decide) (by rw [qw17_4]; decide) (by rw [qw17_4]; rfl) (by decide) ?_
            refine r_aload_n dX12_node_139 1 rfl ?_
            refine r_aload_n dX12_node_140 1 rfl ?_
            refine s_getR (b := 130) ok_X12 dX12_node_141 (k := 30) (by decide) fl_X12_54 rfl rfl rfl ?_
            refine r_iconst (v := 3) dX12_node_144 (by decide) ?_
            refine r_iload_n dX12_node_145 3 rfl ?_
            refine r_iconst (v := 1) dX12_node_146 (by decide) ?_
            refine r_iadd dX12_node_147 ?_
            refine r_imul dX12_node_148 ?_
            obtain ⟨qg39, h⟩ := grd_at h
            refine s_iald dX12_node_149 rfl (inb_of qg39) ?_
            refine r_aload_n dX12_node_150 1 rfl ?_
            refine s_getR (b := 130) ok_X12 dX12_node_151 (k := 30) (by decide) fl_X12_54 rfl rfl rfl ?_
            refine r_iconst (v := 3) dX12_node_154 (by decide) ?_
            refine r_iload_n dX12_node_155 3 rfl ?_
            refine r_imul dX12_node_156 ?_
            obtain ⟨qg40, h⟩ := grd_at h
            refine s_iald dX12_node_157 rfl (inb_of qg40) ?_
            refine r_isub dX12_node_158 ?_
            obtain ⟨rq42, σ43, qg41, h⟩ := bd2_at h
            refine x_callV (Y := mX12_good) (d' := 1) dX12_node_159 ml_X12_288 yv_X12_good (by omega) rfl rfl (by simp [Value.category]) (sR_is rfl rfl) (lc_X12_good qg41) ?_
            refine r_iret rfl dX12_node_162 ?_
            exact lfI h
          replace h := ifn h qw17_4
          refine r_tableOut (t := 163) dX12_node_53 (tb_o5 qw17_0 qw17_1 qw17_2 qw17_3 qw17_4) (by decide) ?_
          refine r_aload_n dX12_node_163 1 rfl ?_
          refine r_aload_n dX12_node_164 1 rfl ?_
          refine r_iload_n dX12_node_165 3 rfl ?_
          obtain ⟨rq45, qg44, h⟩ := bd_at h
          refine x_callV (Y := mX12_below) (d' := 3) dX12_node_166 ml_X12_384 yv_X12_below (by omega) rfl rfl (by simp [Value.category]) (sR_is rfl rfl) (lc_X12_below qg44) ?_
          obtain ⟨rq47, σ48, qg46, h⟩ := bd2_at h
          refine x_callV (Y := mX12_good) (d' := 1) dX12_node_169 ml_X12_288 yv_X12_good (by omega) rfl rfl (by simp [Value.category]) (sR_is rfl rfl) (lc_X12_good qg46) ?_
          refine r_iret rfl dX12_node_172 ?_
          exact lfI h
        · replace h := ifn h qc16
          refine r_aload_n dX12_node_45 1 rfl ?_
          refine r_iload dX12_node_46 0 rfl ?_
          obtain ⟨rq50, σ51, qg49, h⟩ := bd2_at h
          refine x_callV (Y := mX12_refused) (d' := 1) dX12_node_48 ml_X12_270 yv_X12_refused (by omega) rfl rfl (by simp [Value.category]) (sR_is rfl rfl) (lc_X12_refused qg49) ?_
          refine r_iret rfl dX12_node_51 ?_
          exact lfI h
      · replace h := ifp h qc12
        refine r_aload_n dX12_node_26 0 rfl ?_
        refine r_iconst (v := 1) dX12_node_27 (by decide) ?_
        obtain ⟨rq53, σ54, qg52, h⟩ := bd2_at h
        refine x_callV (Y := mX12_refused) (d' := 1) dX12_node_28 ml_X12_270 yv_X12_refused (by omega) rfl rfl (by simp [Value.category]) (sR_is rfl rfl) (lc_X12_refused qg52) ?_
        refine r_iret rfl dX12_node_31 ?_
        exact lfI h
set_option maxRecDepth 8000 in
theorem lc_X12_node {ad : Nat → Nat} {F : Nat} {x1 : Int32} {x2 : Int32} {x3 : Int32} {σ τ : sS} {r : Int32} (h : L_X12_node F x1 x2 x3 σ = some (r, τ)) : ab_X (sR ad) 6 mX12_node [.ref (ad 90), .int x1, .int x2, .int x3] σ (some (.int r)) τ := ab_X.of (by decide) (Nat.le_of_ble_eq_true rfl) (e_X12_node h)
set_option maxRecDepth 8000 in
def L_X12_rank (F : Nat) (x1 : Int32) (x2 : Int32) (x3 : Int32) (σ : sS) : Option (Int32 × sS) := bnd (uI σ 90 0 0) (fun σ1 => bd (L_X12_isState x1 x3 σ1) (fun rq3 => if rq3 = 0 then (bd2 (L_X12_refused 1 σ1) (fun rq6 σ7 => some ((rq6, σ7)))) else (if 0 ≤ x2 then (bd2 (L_X12_whyNot F x1 x2 σ1) (fun rq10 σ11 => if rq10 ≤ 0 then (grd (inb x2 300) (if (vI σ11 125 x2.toNatClampNeg) = ((-2)) then (bd2 (L_X12_good (-2) σ11) (fun rq16 σ17 => some ((rq16, σ17)))) else (grd (inb x2 300) (if (((vI σ11 124 x2.toNatClampNeg) >>> (x3 &&& 31)) &&& 1) = 0 then (bd2 (L_X12_good (-2) σ11) (fun rq25 σ26 => some ((rq25, σ26)))) else (grd (inb x2 300) (bd2 (L_X12_good (L_X12_rankIn (vI σ11 126 x2.toNatClampNeg) x3) σ11) (fun rq22 σ23 => some ((rq22, σ23))))))))) else (bd2 (L_X12_refused rq10 σ11) (fun rq28 σ29 => some ((rq28, σ29)))))) else (bd2 (L_X12_refused 1 σ1) (fun rq31 σ32 => some ((rq31, σ32)))))))
set_option maxRecDepth 8000 in
theorem e_X12_rank {ad : Nat → Nat} {F : Nat} {x1 : Int32} {x2 : Int32} {x3 : Int32} {σ : sS} {z : (Int32 × sS)} (h : L_X12_rank F x1 x2 x3 σ = some z) : ab_E (sR ad) mX12_rank 6 0 [(0, .ref (ad 90)), (1, .int x1), (2, .int x2), (3, .int x3)] [] σ (fun r9 σ9 => r9 = some (.int z.1) ∧ σ9 = z.2) := by
  unfold L_X12_rank at h
  refine r_aload_n dX12_rank_0 0 rfl ?_
  refine r_iconst (v := 0) dX12_rank_1 (by decide) ?_
  refine s_putI ok_X12 dX12_rank_2 (k := 0) (by decide) fl_X12_131 rfl rfl rfl rfl rfl ?_
  refine r_st (fun σ1 eσ1 => ?_)
  replace h := bnd_at h eσ1
  refine r_aload_n dX12_rank_5 0 rfl ?_
  refine r_iload_n dX12_rank_6 1 rfl ?_
  refine r_iload_n dX12_rank_7 3 rfl ?_
  obtain ⟨rq3, qg2, h⟩ := bd_at h
  refine x_callV (Y := mX12_isState) (d' := 3) dX12_rank_8 ml_X12_302 yv_X12_isState (by omega) rfl rfl (by simp [Value.category]) (sR_is rfl rfl) (lc_X12_isState qg2) ?_
  refine r_if_eq (t := 18) dX12_rank_11 (by decide) (fun qc4 => ?_) (fun qc4 => ?_)
  · replace h := ifp h qc4
    refine r_aload_n dX12_rank_18 0 rfl ?_
    refine r_iconst (v := 1) dX12_rank_19 (by decide) ?_
    obtain ⟨rq6, σ7, qg5, h⟩ := bd2_at h
    refine x_callV (Y := mX12_refused) (d' := 1) dX12_rank_20 ml_X12_270 yv_X12_refused (by omega) rfl rfl (by simp [Value.category]) (sR_is rfl rfl) (lc_X12_refused qg5) ?_
    refine r_iret rfl dX12_rank_23 ?_
    exact lfI h
  · replace h := ifn h qc4
    refine r_iload_n dX12_rank_14 2 rfl ?_
    refine r_if_ge (t := 24) dX12_rank_15 (by decide) (fun qc8 => ?_) (fun qc8 => ?_)
    · replace h := ifp h qc8
      refine r_aload_n dX12_rank_24 0 rfl ?_
      refine r_iload_n dX12_rank_25 1 rfl ?_
      refine r_iload_n dX12_rank_26 2 rfl ?_
      obtain ⟨rq10, σ11, qg9, h⟩ := bd2_at h
      refine x_callV (Y := mX12_whyNot) (d' := 5) dX12_rank_27 ml_X12_378 yv_X12_whyNot (by omega) rfl rfl (by simp [Value.category]) (sR_is rfl rfl) (lc_X12_whyNot qg9) ?_
      refine r_istore (lo' := [(4, .int rq10), (0, .ref (ad 90)), (1, .int x1), (2, .int x2), (3, .int x3)]) dX12_rank_30 (by decide) rfl ?_
      refine r_iload dX12_rank_32 0 rfl ?_
      refine r_if_le (t := 44) dX12_rank_34 (by decide) (fun qc12 => ?_) (fun qc12 => ?_)
      · replace h := ifp h qc12
        refine r_aload_n dX12_rank_44 1 rfl ?_
        refine r_aload_n dX12_rank_45 1 rfl ?_
        refine s_getR (b := 125) ok_X12 dX12_rank_46 (k := 25) (by decide) fl_X12_39 rfl rfl rfl ?_
        refine r_iload_n dX12_rank_49 3 rfl ?_
        obtain ⟨qg13, h⟩ := grd_at h
        refine s_iald dX12_rank_50 rfl (inb_of qg13) ?_
        refine r_bipush (v := (-2)) dX12_rank_51 (by decide) ?_
        refine r_icmp_eq (t := 69) dX12_rank_53 (by decide) (fun qc14 => ?_) (fun qc14 => ?_)
        · replace h := ifp h qc14
          refine r_bipush (v := (-2)) dX12_rank_69 (by decide) ?_
          refine r_goto (t := 84) dX12_rank_71 (by decide) ?_
          obtain ⟨rq16, σ17, qg15, h⟩ := bd2_at h
          refine x_callV (Y := mX12_good) (d' := 1) dX12_rank_84 ml_X12_288 yv_X12_good (by omega) rfl rfl (by simp [Value.category]) (sR_is rfl rfl) (lc_X12_good qg15) ?_
          refine r_iret rfl dX12_rank_87 ?_
          exact lfI h
        · replace h := ifn h qc14
          refine r_aload_n dX12_rank_56 1 rfl ?_
          refine s_getR (b := 124) ok_X12 dX12_rank_57 (k := 24) (by decide) fl_X12_36 rfl rfl rfl ?_
          refine r_iload_n dX12_rank_60 3 rfl ?_
          obtain ⟨qg18, h⟩ := grd_at h
          refine s_iald dX12_rank_61 rfl (inb_of qg18) ?_
          refine r_iload_n dX12_rank_62 4 rfl ?_
          refine r_ishr dX12_rank_63 ?_
          refine r_iconst (v := 1) dX12_rank_64 (by decide) ?_
          refine r_iand dX12_rank_65 ?_
          refine r_if_ne (t := 74) dX12_rank_66 (by decide) (fun qc19 => ?_) (fun qc19 => ?_)
          · replace h := ifn h qc19
            refine r_aload_n dX12_rank_74 1 rfl ?_
            refine s_getR (b := 126) ok_X12 dX12_rank_75 (k := 26) (by decide) fl_X12_42 rfl rfl rfl ?_
            refine r_iload_n dX12_rank_78 3 rfl ?_
            obtain ⟨qg20, h⟩ := grd_at h
            refine s_iald dX12_rank_79 rfl (inb_of qg20) ?_
            refine r_iload_n dX12_rank_80 4 rfl ?_
            refine x_callS (Y := mX12_rankIn) (d' := 1) dX12_rank_81 ml_X12_353 ys_X12_rankIn (by omega) rfl rfl (by simp [Value.category]) (lc_X12_rankIn (vI σ11 126 x2.toNatClampNeg) x3 σ11) ?_
            obtain ⟨rq22, σ23, qg21, h⟩ := bd2_at h
            refine x_callV (Y := mX12_good) (d' := 1) dX12_rank_84 ml_X12_288 yv_X12_good (by omega) rfl rfl (by simp [Value.category]) (sR_is rfl rfl) (lc_X12_good qg21) ?_
            refine r_iret rfl dX12_rank_87 ?_
            exact lfI h
          · replace h := ifp h qc19
            refine r_bipush (v := (-2)) dX12_rank_69 (by decide) ?_
            refine r_goto (t := 84) dX12_rank_71 (by decide) ?_
            obtain ⟨rq25, σ26, qg24, h⟩ := bd2_at h
            refine x_callV (Y := mX12_good) (d' := 1) dX12_rank_84 ml_X12_288 yv_X12_good (by omega) rfl rfl (by simp [Value.category]) (sR_is rfl rfl) (lc_X12_good qg24) ?_
            refine r_iret rfl dX12_rank_87 ?_
            exact lfI h
      · replace h := ifn h qc12
        refine r_aload_n dX12_rank_37 1 rfl ?_
        refine r_iload dX12_rank_38 0 rfl ?_
        obtain ⟨rq28, σ29, qg27, h⟩ := bd2_at h
        refine x_callV (Y := mX12_refused) (d' := 1) dX12_rank_40 ml_X12_270 yv_X12_refused (by omega) rfl rfl (by simp [Value.category]) (sR_is rfl rfl) (lc_X12_refused qg27) ?_
        refine r_iret rfl dX12_rank_43 ?_
        exact lfI h
    · replace h := ifn h qc8
      refine r_aload_n dX12_rank_18 0 rfl ?_
      refine r_iconst (v := 1) dX12_rank_19 (by decide) ?_
      obtain ⟨rq31, σ32, qg30, h⟩ := bd2_at h
      refine x_callV (Y := mX12_refused) (d' := 1) dX12_rank_20 ml_X12_270 yv_X12_refused (by omega) rfl rfl (by simp [Value.category]) (sR_is rfl rfl) (lc_X12_refused qg30) ?_
      refine r_iret rfl dX12_rank_23 ?_
      exact lfI h
set_option maxRecDepth 8000 in
theorem lc_X12_rank {ad : Nat → Nat} {F : Nat} {x1 : Int32} {x2 : Int32} {x3 : Int32} {σ τ : sS} {r : Int32} (h : L_X12_rank F x1 x2 x3 σ = some (r, τ)) : ab_X (sR ad) 6 mX12_rank [.ref (ad 90), .int x1, .int x2, .int x3] σ (some (.int r)) τ := ab_X.of (by decide) (Nat.le_of_ble_eq_true rfl) (e_X12_rank h)
set_option maxRecDepth 8000 in
def L_X12_next (F : Nat) (x1 : Int32) (x2 : Int32) (x3 : Int32) (x4 : Int32) (σ : sS) : Option (Int32 × sS) := bnd (uI σ 90 0 0) (fun σ1 => bd (L_X12_isAuto x1 σ1) (fun rq3 => if rq3 = 0 then (bd2 (L_X12_refused 1 σ1) (fun rq6 σ7 => some ((rq6, σ7)))) else (if x2 < 0 then (bd2 (L_X12_refused 1 σ1) (fun rq10 σ11 => some ((rq10, σ11)))) else (bd (L_X12_isLetter x3 σ1) (fun rq13 => if rq13 = 0 then (bd2 (L_X12_refused 1 σ1) (fun rq16 σ17 => some ((rq16, σ17)))) else (if 0 ≤ x4 then (bd2 (L_X12_whyNot F x1 x2 σ1) (fun rq20 σ21 => if rq20 ≤ 0 then (bd (L_X12_edgesFrom x2 x3 σ21) (fun rq24 => if rq24 ≤ x4 then (bd2 (L_X12_good (-2) σ21) (fun rq27 σ28 => some ((rq27, σ28)))) else (grd (inb (((3 : Int32) * x2) + x3) 901) (grd (inb ((vI σ21 130 (((3 : Int32) * x2) + x3).toNatClampNeg) + x4) 270300) (bd2 (L_X12_good (vI σ21 131 ((vI σ21 130 (((3 : Int32) * x2) + x3).toNatClampNeg) + x4).toNatClampNeg) σ21) (fun rq32 σ33 => some ((rq32, σ33)))))))) else (bd2 (L_X12_refused rq20 σ21) (fun rq35 σ36 => some ((rq35, σ36)))))) else (bd2 (L_X12_refused 1 σ1) (fun rq38 σ39 => some ((rq38, σ39))))))))))
set_option maxRecDepth 8000 in
theorem e_X12_next {ad : Nat → Nat} {F : Nat} {x1 : Int32} {x2 : Int32} {x3 : Int32} {x4 : Int32} {σ : sS} {z : (Int32 × sS)} (h : L_X12_next F x1 x2 x3 x4 σ = some z) : ab_E (sR ad) mX12_next 6 0 [(0, .ref (ad 90)), (1, .int x1), (2, .int x2), (3, .int x3), (4, .int x4)] [] σ (fun r9 σ9 => r9 = some (.int z.1) ∧ σ9 = z.2) := by
  unfold L_X12_next at h
  refine r_aload_n dX12_next_0 0 rfl ?_
  refine r_iconst (v := 0) dX12_next_1 (by decide) ?_
  refine s_putI ok_X12 dX12_next_2 (k := 0) (by decide) fl_X12_131 rfl rfl rfl rfl rfl ?_
  refine r_st (fun σ1 eσ1 => ?_)
  replace h := bnd_at h eσ1
  refine r_aload_n dX12_next_5 0 rfl ?_
  refine r_iload_n dX12_next_6 1 rfl ?_
  obtain ⟨rq3, qg2, h⟩ := bd_at h
  refine x_callV (Y := mX12_isAuto) (d' := 2) dX12_next_7 ml_X12_291 yv_X12_isAuto (by omega) rfl rfl (by simp [Value.category]) (sR_is rfl rfl) (lc_X12_isAuto qg2) ?_
  refine r_if_eq (t := 30) dX12_next_10 (by decide) (fun qc4 => ?_) (fun qc4 => ?_)
  · replace h := ifp h qc4
    refine r_aload_n dX12_next_30 0 rfl ?_
    refine r_iconst (v := 1) dX12_next_31 (by decide) ?_
    obtain ⟨rq6, σ7, qg5, h⟩ := bd2_at h
    refine x_callV (Y := mX12_refused) (d' := 1) dX12_next_32 ml_X12_270 yv_X12_refused (by omega) rfl rfl (by simp [Value.category]) (sR_is rfl rfl) (lc_X12_refused qg5) ?_
    refine r_iret rfl dX12_next_35 ?_
    exact lfI h
  · replace h := ifn h qc4
    refine r_iload_n dX12_next_13 2 rfl ?_
    refine r_if_lt (t := 30) dX12_next_14 (by decide) (fun qc8 => ?_) (fun qc8 => ?_)
    · replace h := ifp h qc8
      refine r_aload_n dX12_next_30 0 rfl ?_
      refine r_iconst (v := 1) dX12_next_31 (by decide) ?_
      obtain ⟨rq10, σ11, qg9, h⟩ := bd2_at h
      refine x_callV (Y := mX12_refused) (d' := 1) dX12_next_32 ml_X12_270 yv_X12_refused (by omega) rfl rfl (by simp [Value.category]) (sR_is rfl rfl) (lc_X12_refused qg9) ?_
      refine r_iret rfl dX12_next_35 ?_
      exact lfI h
    · replace h := ifn h qc8
      refine r_aload_n dX12_next_17 0 rfl ?_
      refine r_iload_n dX12_next_18 3 rfl ?_
      obtain ⟨rq13, qg12, h⟩ := bd_at h
      refine x_callV (Y := mX12_isLetter) (d' := 2) dX12_next_19 ml_X12_306 yv_X12_isLetter (by omega) rfl rfl (by simp [Value.category]) (sR_is rfl rfl) (lc_X12_isLetter qg12) ?_
      refine r_if_eq (t := 30) dX12_next_22 (by decide) (fun qc14 => ?_) (fun qc14 => ?_)
      · replace h := ifp h qc14
        refine r_aload_n dX12_next_30 0 rfl ?_
        refine r_iconst (v := 1) dX12_next_31 (by decide) ?_
        obtain ⟨rq16, σ17, qg15, h⟩ := bd2_at h
        refine x_callV (Y := mX12_refused) (d' := 1) dX12_next_32 ml_X12_270 yv_X12_refused (by omega) rfl rfl (by simp [Value.category]) (sR_is rfl rfl) (lc_X12_refused qg15) ?_
        refine r_iret rfl dX12_next_35 ?_
        exact lfI h
      · replace h := ifn h qc14
        refine r_iload dX12_next_25 4 rfl ?_
        refine r_if_ge (t := 36) dX12_next_27 (by decide) (fun qc18 => ?_) (fun qc18 => ?_)
        · replace h := ifp h qc18
          refine r_aload_n dX12_next_36 0 rfl ?_
          refine r_iload_n dX12_next_37 1 rfl ?_
          refine r_iload_n dX12_next_38 2 rfl ?_
          obtain ⟨rq20, σ21, qg19, h⟩ := bd2_at h
          refine x_callV (Y := mX12_whyNot) (d' := 5) dX12_next_39 ml_X12_378 yv_X12_whyNot (by omega) rfl rfl (by simp [Value.category]) (sR_is rfl rfl) (lc_X12_whyNot qg19) ?_
          refine r_istore (lo' := [(5, .int rq20), (0, .ref (ad 90)), (1, .int x1), (2, .int x2), (3, .int x3), (4, .int x4)]) dX12_next_42 (by decide) rfl ?_
          refine r_iload dX12_next_44 0 rfl ?_
          refine r_if_le (t := 56) dX12_next_46 (by decide) (fun qc22 => ?_) (fun qc22 => ?_)
          · replace h := ifp h qc22
            refine r_aload_n dX12_next_56 1 rfl ?_
            refine r_iload dX12_next_57 5 rfl ?_
            refine r_aload_n dX12_next_59 1 rfl ?_
            refine r_iload_n dX12_next_60 3 rfl ?_
            refine r_iload_n dX12_next_61 4 rfl ?_
            obtain ⟨rq24, qg23, h⟩ := bd_at h
            refine x_callV (Y := mX12_edgesFrom) (d' := 1) dX12_next_62 ml_X12_387 yv_X12_edgesFrom (by omega) rfl rfl (by simp [Value.category]) (sR_is rfl rfl) (lc_X12_edgesFrom qg23) ?_
            refine r_icmp_ge (t := 89) dX12_next_65 (by decide) (fun qc25 => ?_) (fun qc25 => ?_)
            · replace h := ifp h qc25
              refine r_bipush (v := (-2)) dX12_next_89 (by decide) ?_
              obtain ⟨rq27, σ28, qg26, h⟩ := bd2_at h
              refine x_callV (Y := mX12_good) (d' := 1) dX12_next_91 ml_X12_288 yv_X12_good (by omega) rfl rfl (by simp [Value.category]) (sR_is rfl rfl) (lc_X12_good qg26) ?_
              refine r_iret rfl dX12_next_94 ?_
              exact lfI h
            · replace h := ifn h qc25
              refine r_aload_n dX12_next_68 1 rfl ?_
              refine s_getR (b := 131) ok_X12 dX12_next_69 (k := 31) (by decide) fl_X12_58 rfl rfl rfl ?_
              refine r_aload_n dX12_next_72 1 rfl ?_
              refine s_getR (b := 130) ok_X12 dX12_next_73 (k := 30) (by decide) fl_X12_54 rfl rfl rfl ?_
              refine r_iconst (v := 3) dX12_next_76 (by decide) ?_
              refine r_iload_n dX12_next_77 3 rfl ?_
              refine r_imul dX12_next_78 ?_
              refine r_iload_n dX12_next_79 4 rfl ?_
              refine r_iadd dX12_next_80 ?_
              obtain ⟨qg29, h⟩ := grd_at h
              refine s_iald dX12_next_81 rfl (inb_of qg29) ?_
              refine r_iload dX12_next_82 5 rfl ?_
              refine r_iadd dX12_next_84 ?_
              obtain ⟨qg30, h⟩ := grd_at h
              refine s_iald dX12_next_85 rfl (inb_of qg30) ?_
              refine r_goto (t := 91) dX12_next_86 (by decide) ?_
              obtain ⟨rq32, σ33, qg31, h⟩ := bd2_at h
              refine x_callV (Y := mX12_good) (d' := 1) dX12_next_91 ml_X12_288 yv_X12_good (by omega) rfl rfl (by simp [Value.category]) (sR_is rfl rfl) (lc_X12_good qg31) ?_
              refine r_iret rfl dX12_next_94 ?_
              exact lfI h
          · replace h := ifn h qc22
            refine r_aload_n dX12_next_49 1 rfl ?_
            refine r_iload dX12_next_50 0 rfl ?_
            obtain ⟨rq35, σ36, qg34, h⟩ := bd2_at h
            refine x_callV (Y := mX12_refused) (d' := 1) dX12_next_52 ml_X12_270 yv_X12_refused (by omega) rfl rfl (by simp [Value.category]) (sR_is rfl rfl) (lc_X12_refused qg34) ?_
            refine r_iret rfl dX12_next_55 ?_
            exact lfI h
        · replace h := ifn h qc18
          refine r_aload_n dX12_next_30 0 rfl ?_
          refine r_iconst (v := 1) dX12_next_31 (by decide) ?_
          obtain ⟨rq38, σ39, qg37, h⟩ := bd2_at h
          refine x_callV (Y := mX12_refused) (d' := 1) dX12_next_32 ml_X12_270 yv_X12_refused (by omega) rfl rfl (by simp [Value.category]) (sR_is rfl rfl) (lc_X12_refused qg37) ?_
          refine r_iret rfl dX12_next_35 ?_
          exact lfI h
set_option maxRecDepth 8000 in
theorem lc_X12_next {ad : Nat → Nat} {F : Nat} {x1 : Int32} {x2 : Int32} {x3 : Int32} {x4 : Int32} {σ τ : sS} {r : Int32} (h : L_X12_next F x1 x2 x3 x4 σ = some (r, τ)) : ab_X (sR ad) 6 mX12_next [.ref (ad 90), .int x1, .int x2, .int x3, .int x4] σ (some (.int r)) τ := ab_X.of (by decide) (Nat.le_of_ble_eq_true rfl) (e_X12_next h)
set_option maxRecDepth 8000 in
def L_X12_nodes_47 (F : Nat) (x2 : Int32) (σ : sS) (kx : Int32 → Option (Int32 × sS)) : Nat → Int32 → Int32 → Option (Int32 × sS)
  | 0, _, _ => none
  | n + 1, x3, x4 => if (vI σ 90 33) ≤ x4 then (kx x3) else (grd (inb x4 300) (if (vI σ 125 x4.toNatClampNeg) = ((-2)) then (if x2 = 0 then (bnd (x3 + 1) (fun yq37 => L_X12_nodes_47 F x2 σ kx n yq37 (x4 + 1))) else (if x2 = 1 then (bd (L_X12_isFinalNode x4 σ) (fun rq33 => if rq33 = 0 then (bnd (x3 + 0) (fun yq35 => L_X12_nodes_47 F x2 σ kx n yq35 (x4 + 1))) else (bnd (x3 + 1) (fun yq36 => L_X12_nodes_47 F x2 σ kx n yq36 (x4 + 1))))) else (bnd (x3 + 0) (fun yq31 => L_X12_nodes_47 F x2 σ kx n yq31 (x4 + 1))))) else (if x2 = 0 then (bnd (x3 + 0) (fun yq28 => L_X12_nodes_47 F x2 σ kx n yq28 (x4 + 1))) else (if x2 = 1 then (bd (L_X12_isFinalNode x4 σ) (fun rq24 => if rq24 = 0 then (bnd (x3 + 0) (fun yq26 => L_X12_nodes_47 F x2 σ kx n yq26 (x4 + 1))) else (bnd (x3 + 1) (fun yq27 => L_X12_nodes_47 F x2 σ kx n yq27 (x4 + 1))))) else (bd (L_X12_below F x4 σ) (fun rq19 => if rq19 = 0 then (bnd (x3 + 1) (fun yq22 => L_X12_nodes_47 F x2 σ kx n yq22 (x4 + 1))) else (bnd (x3 + 0) (fun yq21 => L_X12_nodes_47 F x2 σ kx n yq21 (x4 + 1)))))))))
set_option maxRecDepth 8000 in
theorem l_X12_nodes_47 {ad : Nat → Nat} {F : Nat} {x2 : Int32} {σ : sS} {z : (Int32 × sS)} {kx : Int32 → Option (Int32 × sS)} (hx : ∀ (x3 : Int32), kx x3 = some z → ab_E (sR ad) mX12_nodes 5 132 [(3, .int x3), (0, .ref (ad 90))] [] σ (fun r9 σ9 => r9 = some (.int z.1) ∧ σ9 = z.2)) : ∀ (n : Nat) (x3 : Int32) (x4 : Int32), L_X12_nodes_47 F x2 σ kx n x3 x4 = some z → ab_E (sR ad) mX12_nodes 5 47 [(3, .int x3), (4, .int x4), (2, .int x2), (0, .ref (ad 90))] [] σ (fun r9 σ9 => r9 = some (.int z.1) ∧ σ9 = z.2) := by
  intro n
  induction n with
  | zero =>
    intro x3 x4 h
    rw [L_X12_nodes_47] at h
    cases h
  | succ n ih =>
    intro x3 x4 h
    rw [L_X12_nodes_47] at h
    refine r_iload dX12_nodes_47 1 rfl ?_
    refine r_aload_n dX12_nodes_49 3 rfl ?_
    refine s_getI ok_X12 dX12_nodes_50 (k := 33) (by decide) fl_X12_334 rfl rfl ?_
    refine r_icmp_ge (t := 132) dX12_nodes_53 (by decide) (fun qc13 => ?_) (fun qc13 => ?_)
    · replace h := ifp h qc13
      exact ab_E.lo [0, 3] rfl (hx _ h)
    · replace h := ifn h qc13
      refine r_aload_n dX12_nodes_56 3 rfl ?_
      refine s_getR (b := 125) ok_X12 dX12_nodes_57 (k := 25) (by decide) fl_X12_39 rfl rfl rfl ?_
      refine r_iload dX12_nodes_60 1 rfl ?_
      obtain ⟨qg14, h⟩ := grd_at h
      refine s_iald dX12_nodes_62 rfl (inb_of qg14) ?_
      refine r_bipush (v := (-2)) dX12_nodes_63 (by decide) ?_
      refine r_icmp_ne (t := 72) dX12_nodes_65 (by decide) (fun qc15 => ?_) (fun qc15 => ?_)
      · replace h := ifn h qc15
        refine r_iconst (v := 0) dX12_nodes_72 (by decide) ?_
        refine r_istore (lo' := [(5, .int 0), (3, .int x3), (4, .int x4), (2, .int x2), (0, .ref (ad 90))]) dX12_nodes_73 (by decide) rfl ?_
        refine r_iload_n dX12_nodes_75 1 rfl ?_
        refine r_iload_n dX12_nodes_76 3 rfl ?_
        refine r_if_ne (t := 88) dX12_nodes_77 (by decide) (fun qc16 => ?_) (fun qc16 => ?_)
        · replace h := ifn h qc16
          refine r_iload_n dX12_nodes_88 3 rfl ?_
          refine r_iconst (v := 1) dX12_nodes_89 (by decide) ?_
          refine r_icmp_ne (t := 105) dX12_nodes_90 (by decide) (fun qc17 => ?_) (fun qc17 => ?_)
          · replace h := ifn h qc17
            refine r_iload dX12_nodes_105 0 rfl ?_
            refine r_if_ne (t := 123) dX12_nodes_107 (by decide) (fun hh9 => absurd (by decide) hh9) (fun _ => ?_)
            refine r_aload_n dX12_nodes_110 4 rfl ?_
            refine r_iload dX12_nodes_111 2 rfl ?_
            obtain ⟨rq19, qg18, h⟩ := bd_at h
            refine x_callV (Y := mX12_below) (d' := 3) dX12_nodes_113 ml_X12_384 yv_X12_below (by omega) rfl rfl (by simp [Value.category]) (sR_is rfl rfl) (lc_X12_below qg18) ?_
            refine r_if_ne (t := 123) dX12_nodes_116 (by decide) (fun qc20 => ?_) (fun qc20 => ?_)
            · replace h := ifn h qc20
              refine r_iconst (v := 0) dX12_nodes_123 (by decide) ?_
              refine r_iadd dX12_nodes_124 ?_
              refine r_topi (fun yq21 eyq21 => ?_)
              replace h := bnd_at h eyq21
              refine r_istore_n (lo' := [(3, .int yq21), (5, .int 0), (4, .int x4), (2, .int x2), (0, .ref (ad 90))]) dX12_nodes_125 (by decide) rfl ?_
              refine r_iinc (v := x4 + 1) (lo' := [(4, .int (x4 + 1)), (3, .int yq21), (5, .int 0), (2, .int x2), (0, .ref (ad 90))]) dX12_nodes_126 2 rfl rfl (by decide) rfl ?_
              refine r_goto (t := 47) dX12_nodes_129 (by decide) ?_
              exact ab_E.lo [1, 0, 3, 4] rfl (ih _ _ h)
            · replace h := ifp h qc20
              refine r_iconst (v := 1) dX12_nodes_119 (by decide) ?_
              refine r_goto (t := 124) dX12_nodes_120 (by decide) ?_
              refine r_iadd dX12_nodes_124 ?_
              refine r_topi (fun yq22 eyq22 => ?_)
              replace h := bnd_at h eyq22
              refine r_istore_n (lo' := [(3, .int yq22), (5, .int 0), (4, .int x4), (2, .int x2), (0, .ref (ad 90))]) dX12_nodes_125 (by decide) rfl ?_
              refine r_iinc (v := x4 + 1) (lo' := [(4, .int (x4 + 1)), (3, .int yq22), (5, .int 0), (2, .int x2), (0, .ref (ad 90))]) dX12_nodes_126 2 rfl rfl (by decide) rfl ?_
              refine r_goto (t := 47) dX12_nodes_129 (by decide) ?_
              exact ab_E.lo [1, 0, 3, 4] rfl (ih _ _ h)
          · replace h := ifp h qc17
            refine r_aload_n dX12_nodes_93 4 rfl ?_
            refine r_iload dX12_nodes_94 2 rfl ?_
            obtain ⟨rq24, qg23, h⟩ := bd_at h
            refine x_callV (Y := mX12_isFinalNode) (d' := 1) dX12_nodes_96 ml_X12_381 yv_X12_isFinalNode (by omega) rfl rfl (by simp [Value.category]) (sR_is rfl rfl) (lc_X12_isFinalNode qg23) ?_
            refine r_if_eq (t := 123) dX12_nodes_99 (by decide) (fun qc25 => ?_) (fun qc25 => ?_)
            · replace h := ifp h qc25
              refine r_iconst (v := 0) dX12_nodes_123 (by decide) ?_
              refine r_iadd dX12_nodes_124 ?_
              refine r_topi (fun yq26 eyq26 => ?_)
              replace h := bnd_at h eyq26
              refine r_istore_n (lo' := [(3, .int yq26), (5, .int 0), (4, .int x4), (2, .int x2), (0, .ref (ad 90))]) dX12_nodes_125 (by decide) rfl ?_
              refine r_iinc (v := x4 + 1) (lo' := [(4, .int (x4 + 1)), (3, .int yq26), (5, .int 0), (2, .int x2), (0, .ref (ad 90))]) dX12_nodes_126 2 rfl rfl (by decide) rfl ?_
              refine r_goto (t := 47) dX12_nodes_129 (by decide) ?_
              exact ab_E.lo [1, 0, 3, 4] rfl (ih _ _ h)
            · replace h := ifn h qc25
              refine r_goto (t := 119) dX12_nodes_102 (by decide) ?_
              refine r_iconst (v := 1) dX12_nodes_119 (by decide) ?_
              refine r_goto (t := 124) dX12_nodes_120 (by decide) ?_
              refine r_iadd dX12_nodes_124 ?_
              refine r_topi (fun yq27 eyq27 => ?_)
              replace h := bnd_at h eyq27
              refine r_istore_n (lo' := [(3, .int yq27), (5, .int 0), (4, .int x4), (2, .int x2), (0, .ref (ad 90))]) dX12_nodes_125 (by decide) rfl ?_
              refine r_iinc (v := x4 + 1) (lo' := [(4, .int (x4 + 1)), (3, .int yq27), (5, .int 0), (2, .int x2), (0, .ref (ad 90))]) dX12_nodes_126 2 rfl rfl (by decide) rfl ?_
              refine r_goto (t := 47) dX12_nodes_129 (by decide) ?_
              exact ab_E.lo [1, 0, 3, 4] rfl (ih _ _ h)
        · replace h := ifp h qc16
          refine r_iload dX12_nodes_80 0 rfl ?_
          refine r_if_eq (t := 123) dX12_nodes_82 (by decide) (fun _ => ?_) (fun hh9 => absurd (by decide) hh9)
          refine r_iconst (v := 0) dX12_nodes_123 (by decide) ?_
          refine r_iadd dX12_nodes_124 ?_
          refine r_topi (fun yq28 eyq28 => ?_)
          replace h := bnd_at h eyq28
          refine r_istore_n (lo' := [(3, .int yq28), (5, .int 0), (4, .int x4), (2, .int x2), (0, .ref (ad 90))]) dX12_nodes_125 (by decide) rfl ?_
          refine r_iinc (v := x4 + 1) (lo' := [(4, .int (x4 + 1)), (3, .int yq28), (5, .int 0), (2, .int x2), (0, .ref (ad 90))]) dX12_nodes_126 2 rfl rfl (by decide) rfl ?_
          refine r_goto (t := 47) dX12_nodes_129 (by decide) ?_
          exact ab_E.lo [1, 0, 3, 4] rfl (ih _ _ h)
      · replace h := ifp h qc15
        refine r_iconst (v := 1) dX12_nodes_68 (by decide) ?_
        refine r_goto (t := 73) dX12_nodes_69 (by decide) ?_
        refine r_istore (lo' := [(5, .int 1), (3, .int x3), (4, .int x4), (2, .int x2), (0, .ref (ad 90))]) dX12_nodes_73 (by decide) rfl ?_
        refine r_iload_n dX12_nodes_75 1 rfl ?_
        refine r_iload_n dX12_nodes_76 3 rfl ?_
        refine r_if_ne (t := 88) dX12_nodes_77 (by decide) (fun qc29 => ?_) (fun qc29 => ?_)
        · replace h := ifn h qc29
          refine r_iload_n dX12_nodes_88 3 rfl ?_
          refine r_iconst (v := 1) dX12_nodes_89 (by decide) ?_
          refine r_icmp_ne (t := 105) dX12_nodes_90 (by decide) (fun qc30 => ?_) (fun qc30 => ?_)
          · replace h := ifn h qc30
            refine r_iload dX12_nodes_105 0 rfl ?_
            refine r_if_ne (t := 123) dX12_nodes_107 (by decide) (fun _ => ?_) (fun hh9 => absurd hh9 (by decide))
            refine r_iconst (v := 0) dX12_nodes_123 (by decide) ?_
            refine r_iadd dX12_nodes_124 ?_
            refine r_topi (fun yq31 eyq31 => ?_)
            replace h := bnd_at h eyq31
            refine r_istore_n (lo' := [(3, .int yq31), (5, .int 1), (4, .int x4), (2, .int x2), (0, .ref (ad 90))]) dX12_nodes_125 (by decide) rfl ?_
            refine r_iinc (v := x4 + 1) (lo' := [(4, .int (x4 + 1)), (3, .int yq31), (5, .int 1), (2, .int x2), (0, .ref (ad 90))]) dX12_nodes_126 2 rfl rfl (by decide) rfl ?_
            refine r_goto (t := 47) dX12_nodes_129 (by decide) ?_
            exact ab_E.lo [1, 0, 3, 4] rfl (ih _ _ h)
          · replace h := ifp h qc30
            refine r_aload_n dX12_nodes_93 4 rfl ?_
            refine r_iload dX12_nodes_94 2 rfl ?_
            obtain ⟨rq33, qg32, h⟩ := bd_at h
            refine x_callV (Y := mX12_isFinalNode) (d' := 1) dX12_nodes_96 ml_X12_381 yv_X12_isFinalNode (by omega) rfl rfl (by simp [Value.category]) (sR_is rfl rfl) (lc_X12_isFinalNode qg32) ?_
            refine r_if_eq (t := 123) dX12_nodes_99 (by decide) (fun qc34 => ?_) (fun qc34 => ?_)
            · replace h := ifp h qc34
              refine r_iconst (v := 0) dX12_nodes_123 (by decide) ?_
              refine r_iadd dX12_nodes_124 ?_
              refine r_topi (fun yq35 eyq35 => ?_)
              replace h := bnd_at h eyq35
              refine r_istore_n (lo' := [(3, .int yq35), (5, .int 1), (4, .int x4), (2, .int x2), (0, .ref (ad 90))]) dX12_nodes_125 (by decide) rfl ?_
              refine r_iinc (v := x4 + 1) (lo' := [(4, .int (x4 + 1)), (3, .int yq35), (5, .int 1), (2, .int x2), (0, .ref (ad 90))]) dX12_nodes_126 2 rfl rfl (by decide) rfl ?_
              refine r_goto (t := 47) dX12_nodes_129 (by decide) ?_
              exact ab_E.lo [1, 0, 3, 4] rfl (ih _ _ h)
            · replace h := ifn h qc34
              refine r_goto (t := 119) dX12_nodes_102 (by decide) ?_
              refine r_iconst (v := 1) dX12_nodes_119 (by decide) ?_
              refine r_goto (t := 124) dX12_nodes_120 (by decide) ?_
              refine r_iadd dX12_nodes_124 ?_
              refine r_topi (fun yq36 eyq36 => ?_)
              replace h := bnd_at h eyq36
              refine r_istore_n (lo' := [(3, .int yq36), (5, .int 1), (4, .int x4), (2, .int x2), (0, .ref (ad 90))]) dX12_nodes_125 (by decide) rfl ?_
              refine r_iinc (v := x4 + 1) (lo' := [(4, .int (x4 + 1)), (3, .int yq36), (5, .int 1), (2, .int x2), (0, .ref (ad 90))]) dX12_nodes_126 2 rfl rfl (by decide) rfl ?_
              refine r_goto (t := 47) dX12_nodes_129 (by decide) ?_
              exact ab_E.lo [1, 0, 3, 4] rfl (ih _ _ h)
        · replace h := ifp h qc29
          refine r_iload dX12_nodes_80 0 rfl ?_
          refine r_if_eq (t := 123) dX12_nodes_82 (by decide) (fun hh9 => absurd hh9 (by decide)) (fun _ => ?_)
          refine r_goto (t := 119) dX12_nodes_85 (by decide) ?_
          refine r_iconst (v := 1) dX12_nodes_119 (by decide) ?_
          refine r_goto (t := 124) dX12_nodes_120 (by decide) ?_
          refine r_iadd dX12_nodes_124 ?_
          refine r_topi (fun yq37 eyq37 => ?_)
          replace h := bnd_at h eyq37
          refine r_istore_n (lo' := [(3, .int yq37), (5, .int 1), (4, .int x4), (2, .int x2), (0, .ref (ad 90))]) dX12_nodes_125 (by decide) rfl ?_
          refine r_iinc (v := x4 + 1) (lo' := [(4, .int (x4 + 1)), (3, .int yq37), (5, .int 1), (2, .int x2), (0, .ref (ad 90))]) dX12_nodes_126 2 rfl rfl (by decide) rfl ?_
          refine r_goto (t := 47) dX12_nodes_129 (by decide) ?_
          exact ab_E.lo [1, 0, 3, 4] rfl (ih _ _ h)
set_option maxRecDepth 8000 in
def L_X12_nodes (F : Nat) (x1 : Int32) (x2 : Int32) (σ : sS) : Option (Int32 × sS) := bnd (uI σ 90 0 0) (fun σ1 => bd (L_X12_isAuto x1 σ1) (fun rq3 => if rq3 = 0 then (bd2 (L_X12_refused 1 σ1) (fun rq6 σ7 => some ((rq6, σ7)))) else (if (L_X12_in x2 0 2) = 0 then (bd2 (L_X12_refused 1 σ1) (fun rq21 σ22 => some ((rq21, σ22)))) else (bd2 (L_X12_lays F x1 σ1) (fun rq10 σ11 => if rq10 = 0 then (bd2 (L_X12_refused 3 σ11) (fun rq18 σ19 => some ((rq18, σ19)))) else (L_X12_nodes_47 F x2 σ11 (fun yq13 => bd2 (L_X12_good yq13 σ11) (fun rq15 σ16 => some ((rq15, σ16)))) F 0 0))))))
set_option maxRecDepth 8000 in
theorem e_X12_nodes {ad : Nat → Nat} {F : Nat} {x1 : Int32} {x2 : Int32} {σ : sS} {z : (Int32 × sS)} (h : L_X12_nodes F x1 x2 σ = some z) : ab_E (sR ad) mX12_nodes 5 0 [(0, .ref (ad 90)), (1, .int x1), (2, .int x2)] [] σ (fun r9 σ9 => r9 = some (.int z.1) ∧ σ9 = z.2) := by
  unfold L_X12_nodes at h
  refine r_aload_n dX12_nodes_0 0 rfl ?_
  refine r_iconst (v := 0) dX12_nodes_1 (by decide) ?_
  refine s_putI ok_X12 dX12_nodes_2 (k := 0) (by decide) fl_X12_131 rfl rfl rfl rfl rfl ?_
  refine r_st (fun σ1 eσ1 => ?_)
  replace h := bnd_at h eσ1
  refine r_aload_n dX12_nodes_5 0 rfl ?_
  refine r_iload_n dX12_nodes_6 1 rfl ?_
  obtain ⟨rq3, qg2, h⟩ := bd_at h
  refine x_callV (Y := mX12_isAuto) (d' := 2) dX12_nodes_7 ml_X12_291 yv_X12_isAuto (by omega) rfl rfl (by simp [Value.category]) (sR_is rfl rfl) (lc_X12_isAuto qg2) ?_
  refine r_if_eq (t := 22) dX12_nodes_10 (by decide) (fun qc4 => ?_) (fun qc4 => ?_)
  · replace h := ifp h qc4
    refine r_aload_n dX12_nodes_22 0 rfl ?_
    refine r_iconst (v := 1) dX12_nodes_23 (by decide) ?_
    obtain ⟨rq6, σ7, qg5, h⟩ := bd2_at h
    refine x_callV (Y := mX12_refused) (d' := 1) dX12_nodes_24 ml_X12_270 yv_X12_refused (by omega) rfl rfl (by simp [Value.category]) (sR_is rfl rfl) (lc_X12_refused qg5) ?_
    refine r_iret rfl dX12_nodes_27 ?_
    exact lfI h
  · replace h := ifn h qc4
    refine r_iload_n dX12_nodes_13 2 rfl ?_
    refine r_iconst (v := 0) dX12_nodes_14 (by decide) ?_
    refine r_iconst (v := 2) dX12_nodes_15 (by decide) ?_
    refine x_callS (Y := mX12_in) (d' := 1) dX12_nodes_16 ml_X12_156 ys_X12_in (by omega) rfl rfl (by simp [Value.category]) (lc_X12_in x2 0 2 σ1) ?_
    refine r_if_ne (t := 28) dX12_nodes_19 (by decide) (fun qc8 => ?_) (fun qc8 => ?_)
    · replace h := ifn h qc8
      refine r_aload_n dX12_nodes_28 0 rfl ?_
      refine r_iload_n dX12_nodes_29 1 rfl ?_
      obtain ⟨rq10, σ11, qg9, h⟩ := bd2_at h
      refine x_callV (Y := mX12_lays) (d' := 4) dX12_nodes_30 ml_X12_372 yv_X12_lays (by omega) rfl rfl (by simp [Value.category]) (sR_is rfl rfl) (lc_X12_lays qg9) ?_
      refine r_if_ne (t := 42) dX12_nodes_33 (by decide) (fun qc12 => ?_) (fun qc12 => ?_)
      · replace h := ifn h qc12
        refine r_iconst (v := 0) dX12_nodes_42 (by decide) ?_
        refine r_istore_n (lo' := [(3, .int 0), (0, .ref (ad 90)), (1, .int x1), (2, .int x2)]) dX12_nodes_43 (by decide) rfl ?_
        refine r_iconst (v := 0) dX12_nodes_44 (by decide) ?_
        refine r_istore (lo' := [(4, .int 0), (3, .int 0), (0, .ref (ad 90)), (1, .int x1), (2, .int x2)]) dX12_nodes_45 (by decide) rfl ?_
        refine ab_E.lo [1, 0, 4, 2] rfl (l_X12_nodes_47 (fun yq13 h => ?_) _ _ _ h)
        refine r_aload_n dX12_nodes_132 1 rfl ?_
        refine r_iload_n dX12_nodes_133 0 rfl ?_
        obtain ⟨rq15, σ16, qg14, h⟩ := bd2_at h
        refine x_callV (Y := mX12_good) (d' := 1) dX12_nodes_134 ml_X12_288 yv_X12_good (by omega) rfl rfl (by simp [Value.category]) (sR_is rfl rfl) (lc_X12_good qg14) ?_
        refine r_iret rfl dX12_nodes_137 ?_
        exact lfI h
      · replace h := ifp h qc12
        refine r_aload_n dX12_nodes_36 0 rfl ?_
        refine r_iconst (v := 3) dX12_nodes_37 (by decide) ?_
        obtain ⟨rq18, σ19, qg17, h⟩ := bd2_at h
        refine x_callV (Y := mX12_refused) (d' := 1) dX12_nodes_38 ml_X12_270 yv_X12_refused (by omega) rfl rfl (by simp [Value.category]) (sR_is rfl rfl) (lc_X12_refused qg17) ?_
        refine r_iret rfl dX12_nodes_41 ?_
        exact lfI h
    · replace h := ifp h qc8
      refine r_aload_n dX12_nodes_22 0 rfl ?_
      refine r_iconst (v := 1) dX12_nodes_23 (by decide) ?_
      obtain ⟨rq21, σ22, qg20, h⟩ := bd2_at h
      refine x_callV (Y := mX12_refused) (d' := 1) dX12_nodes_24 ml_X12_270 yv_X12_refused (by omega) rfl rfl (by simp [Value.category]) (sR_is rfl rfl) (lc_X12_refused qg20) ?_
      refine r_iret rfl dX12_nodes_27 ?_
      exact lfI h
set_option maxRecDepth 8000 in
theorem lc_X12_nodes {ad : Nat → Nat} {F : Nat} {x1 : Int32} {x2 : Int32} {σ τ : sS} {r : Int32} (h : L_X12_nodes F x1 x2 σ = some (r, τ)) : ab_X (sR ad) 5 mX12_nodes [.ref (ad 90), .int x1, .int x2] σ (some (.int r)) τ := ab_X.of (by decide) (Nat.le_of_ble_eq_true rfl) (e_X12_nodes h)
