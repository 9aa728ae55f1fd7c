/-! the reference, lifted, 9 -/
set_option maxRecDepth 8000 in
def L_X12_meetsNone_7 (F : Nat) (kx : sS → Option sS) : Nat → Int32 → sS → Option sS
  | 0, _, _ => none
  | n + 1, x1, σ => if 3000 ≤ x1 then (kx σ) else (grd (inb x1 3000) (bnd (uI σ 152 x1.toNatClampNeg 0) (fun σ4 => L_X12_meetsNone_7 F kx n (x1 + 1) σ4)))
set_option maxRecDepth 8000 in
theorem l_X12_meetsNone_7 {ad : Nat → Nat} {F : Nat} {z : sS} {kx : sS → Option sS} (hx : ∀  (σ : sS), kx σ = some z → ab_E (sR ad) mX12_meetsNone 1 27 [] [] σ (fun r9 σ9 => r9 = none ∧ σ9 = z)) : ∀ (n : Nat) (x1 : Int32) (σ : sS), L_X12_meetsNone_7 F kx n x1 σ = some z → ab_E (sR ad) mX12_meetsNone 1 7 [(1, .int x1), (0, .ref (ad 90))] [] σ (fun r9 σ9 => r9 = none ∧ σ9 = z) := by
  intro n
  induction n with
  | zero =>
    intro x1 σ h
    rw [L_X12_meetsNone_7] at h
    cases h
  | succ n ih =>
    intro x1 σ h
    rw [L_X12_meetsNone_7] at h
    refine r_iload_n dX12_meetsNone_7 0 rfl ?_
    refine r_sipush (v := 3000) dX12_meetsNone_8 (by decide) ?_
    refine r_icmp_ge (t := 27) dX12_meetsNone_11 (by decide) (fun qc2 => ?_) (fun qc2 => ?_)
    · replace h := ifp h qc2
      exact ab_E.lo [] rfl (hx _ h)
    · replace h := ifn h qc2
      refine r_aload_n dX12_meetsNone_14 1 rfl ?_
      refine s_getR (b := 152) ok_X12 dX12_meetsNone_15 (k := 52) (by decide) fl_X12_94 rfl rfl rfl ?_
      refine r_iload_n dX12_meetsNone_18 0 rfl ?_
      refine r_iconst (v := 0) dX12_meetsNone_19 (by decide) ?_
      obtain ⟨qg3, h⟩ := grd_at h
      refine s_zast dX12_meetsNone_20 rfl (inb_of qg3) (by decide) ?_
      refine r_st (fun σ4 eσ4 => ?_)
      replace h := bnd_at h eσ4
      refine r_iinc (v := x1 + 1) (lo' := [(1, .int (x1 + 1)), (0, .ref (ad 90))]) dX12_meetsNone_21 0 rfl rfl (by decide) rfl ?_
      refine r_goto (t := 7) dX12_meetsNone_24 (by decide) ?_
      exact ab_E.lo [0, 1] rfl (ih _ _ h)
set_option maxRecDepth 8000 in
def L_X12_meetsNone (F : Nat) (σ : sS) : Option sS := bnd (uI σ 90 53 0) (fun σ1 => L_X12_meetsNone_7 F (fun σ2 => some σ2) F 0 σ1)
set_option maxRecDepth 8000 in
theorem e_X12_meetsNone {ad : Nat → Nat} {F : Nat}  {σ : sS} {z : sS} (h : L_X12_meetsNone F σ = some z) : ab_E (sR ad) mX12_meetsNone 1 0 [(0, .ref (ad 90))] [] σ (fun r9 σ9 => r9 = none ∧ σ9 = z) := by
  unfold L_X12_meetsNone at h
  refine r_aload_n dX12_meetsNone_0 0 rfl ?_
  refine r_iconst (v := 0) dX12_meetsNone_1 (by decide) ?_
  refine s_putI ok_X12 dX12_meetsNone_2 (k := 53) (by decide) fl_X12_414 rfl rfl rfl rfl rfl ?_
  refine r_st (fun σ1 eσ1 => ?_)
  replace h := bnd_at h eσ1
  refine r_iconst (v := 0) dX12_meetsNone_5 (by decide) ?_
  refine r_istore_n (lo' := [(1, .int 0), (0, .ref (ad 90))]) dX12_meetsNone_6 (by decide) rfl ?_
  refine ab_E.lo [0, 1] rfl (l_X12_meetsNone_7 (fun σ2 h => ?_) _ _ _ h)
  refine r_vret rfl dX12_meetsNone_27 ?_
  exact lfV h
set_option maxRecDepth 8000 in
theorem lc_X12_meetsNone {ad : Nat → Nat} {F : Nat}  {σ τ : sS} (h : L_X12_meetsNone F σ = some τ) : ab_X (sR ad) 1 mX12_meetsNone [.ref (ad 90)] σ none τ := ab_X.of (by decide) (Nat.le_of_ble_eq_true rfl) (e_X12_meetsNone h)
set_option maxRecDepth 8000 in
def L_X12_meets (x1 : Int32) (x2 : Int32) (x3 : Int32) (σ : sS) : Option sS := grd (inb x1 3000) (if (vI σ 152 x1.toNatClampNeg) = 0 then (grd (inb x1 3000) (bnd (uI σ 152 x1.toNatClampNeg 1) (fun σ4 => grd (inb x1 3000) (bnd (uI σ4 150 x1.toNatClampNeg x2) (fun σ6 => grd (inb x1 3000) (bnd (uI σ6 151 x1.toNatClampNeg x3) (fun σ8 => grd (inb (vI σ8 90 53) 3000) (bnd (uI σ8 149 (vI σ8 90 53).toNatClampNeg x1) (fun σ10 => bnd (uI σ10 90 53 ((vI σ10 90 53) + 1)) (fun σ11 => some σ11)))))))))) else (some σ))
set_option maxRecDepth 8000 in
theorem e_X12_meets {ad : Nat → Nat} {x1 : Int32} {x2 : Int32} {x3 : Int32} {σ : sS} {z : sS} (h : L_X12_meets x1 x2 x3 σ = some z) : ab_E (sR ad) mX12_meets 1 0 [(0, .ref (ad 90)), (1, .int x1), (2, .int x2), (3, .int x3)] [] σ (fun r9 σ9 => r9 = none ∧ σ9 = z) := by
  unfold L_X12_meets at h
  refine r_aload_n dX12_meets_0 0 rfl ?_
  refine s_getR (b := 152) ok_X12 dX12_meets_1 (k := 52) (by decide) fl_X12_94 rfl rfl rfl ?_
  refine r_iload_n dX12_meets_4 1 rfl ?_
  obtain ⟨qg1, h⟩ := grd_at h
  refine s_zald dX12_meets_5 rfl (inb_of qg1) ?_
  refine r_if_eq (t := 10) dX12_meets_6 (by decide) (fun qc2 => ?_) (fun qc2 => ?_)
  · replace h := ifp h qc2
    refine r_aload_n dX12_meets_10 0 rfl ?_
    refine s_getR (b := 152) ok_X12 dX12_meets_11 (k := 52) (by decide) fl_X12_94 rfl rfl rfl ?_
    refine r_iload_n dX12_meets_14 1 rfl ?_
    refine r_iconst (v := 1) dX12_meets_15 (by decide) ?_
    obtain ⟨qg3, h⟩ := grd_at h
    refine s_zast dX12_meets_16 rfl (inb_of qg3) (by decide) ?_
    refine r_st (fun σ4 eσ4 => ?_)
    replace h := bnd_at h eσ4
    refine r_aload_n dX12_meets_17 0 rfl ?_
    refine s_getR (b := 150) ok_X12 dX12_meets_18 (k := 50) (by decide) fl_X12_88 rfl rfl rfl ?_
    refine r_iload_n dX12_meets_21 1 rfl ?_
    refine r_iload_n dX12_meets_22 2 rfl ?_
    obtain ⟨qg5, h⟩ := grd_at h
    refine s_iast dX12_meets_23 rfl (inb_of qg5) ?_
    refine r_st (fun σ6 eσ6 => ?_)
    replace h := bnd_at h eσ6
    refine r_aload_n dX12_meets_24 0 rfl ?_
    refine s_getR (b := 151) ok_X12 dX12_meets_25 (k := 51) (by decide) fl_X12_91 rfl rfl rfl ?_
    refine r_iload_n dX12_meets_28 1 rfl ?_
    refine r_iload_n dX12_meets_29 3 rfl ?_
    obtain ⟨qg7, h⟩ := grd_at h
    refine s_iast dX12_meets_30 rfl (inb_of qg7) ?_
    refine r_st (fun σ8 eσ8 => ?_)
    replace h := bnd_at h eσ8
    refine r_aload_n dX12_meets_31 0 rfl ?_
    refine s_getR (b := 149) ok_X12 dX12_meets_32 (k := 49) (by decide) fl_X12_85 rfl rfl rfl ?_
    refine r_aload_n dX12_meets_35 0 rfl ?_
    refine s_getI ok_X12 dX12_meets_36 (k := 53) (by decide) fl_X12_414 rfl rfl ?_
    refine r_iload_n dX12_meets_39 1 rfl ?_
    obtain ⟨qg9, h⟩ := grd_at h
    refine s_iast dX12_meets_40 rfl (inb_of qg9) ?_
    refine r_st (fun σ10 eσ10 => ?_)
    replace h := bnd_at h eσ10
    refine r_aload_n dX12_meets_41 0 rfl ?_
    refine r_dup dX12_meets_42 rfl ?_
    refine s_getI ok_X12 dX12_meets_43 (k := 53) (by decide) fl_X12_414 rfl rfl ?_
    refine r_iconst (v := 1) dX12_meets_46 (by decide) ?_
    refine r_iadd dX12_meets_47 ?_
    refine s_putI ok_X12 dX12_meets_48 (k := 53) (by decide) fl_X12_414 rfl rfl rfl rfl rfl ?_
    refine r_st (fun σ11 eσ11 => ?_)
    replace h := bnd_at h eσ11
    refine r_vret rfl dX12_meets_51 ?_
    exact lfV h
  · replace h := ifn h qc2
    refine r_vret rfl dX12_meets_9 ?_
    exact lfV h
set_option maxRecDepth 8000 in
theorem lc_X12_meets {ad : Nat → Nat} {x1 : Int32} {x2 : Int32} {x3 : Int32} {σ τ : sS} (h : L_X12_meets x1 x2 x3 σ = some τ) : ab_X (sR ad) 1 mX12_meets [.ref (ad 90), .int x1, .int x2, .int x3] σ none τ := ab_X.of (by decide) (Nat.le_of_ble_eq_true rfl) (e_X12_meets h)
set_option maxRecDepth 8000 in
def L_X12_meetsAll_24 (F : Nat) (x1 : Int32) (x2 : Int32) (kx : sS → Option sS) : Nat → Int32 → sS → Option sS
  | 0, _, _ => none
  | n + 1, x3, σ => if x3 = ((-1)) then (kx σ) else (bd2 (L_X12_goesBy x2 x3 σ) (fun rq8 σ9 => if rq8 = ((-1)) then (some σ9) else (bd (L_X12_meets rq8 x2 (x3 / 2048) σ9) (fun σ12 => bd (L_X12_edgeFrom F x2 (x3 + 1) σ12) (fun rq14 => L_X12_meetsAll_24 F x1 x2 kx n rq14 σ12)))))
set_option maxRecDepth 8000 in
theorem l_X12_meetsAll_24 {ad : Nat → Nat} {F : Nat} {x1 : Int32} {x2 : Int32} {z : sS} {kx : sS → Option sS} (hx : ∀  (σ : sS), kx σ = some z → ab_E (sR ad) mX12_meetsAll 4 68 [(1, .int x1), (0, .ref (ad 90))] [] σ (fun r9 σ9 => r9 = none ∧ σ9 = z)) : ∀ (n : Nat) (x3 : Int32) (σ : sS), L_X12_meetsAll_24 F x1 x2 kx n x3 σ = some z → ab_E (sR ad) mX12_meetsAll 4 24 [(3, .int x3), (1, .int x1), (2, .int x2), (0, .ref (ad 90))] [] σ (fun r9 σ9 => r9 = none ∧ σ9 = z) := by
  intro n
  induction n with
  | zero =>
    intro x3 σ h
    rw [L_X12_meetsAll_24] at h
    cases h
  | succ n ih =>
    intro x3 σ h
    rw [L_X12_meetsAll_24] at h
    refine r_iload_n dX12_meetsAll_24 0 rfl ?_
    refine r_iconst (v := (-1)) dX12_meetsAll_25 (by decide) ?_
    refine r_icmp_eq (t := 68) dX12_meetsAll_26 (by decide) (fun qc6 => ?_) (fun qc6 => ?_)
    · replace h := ifp h qc6
      exact ab_E.lo [1, 3] rfl (hx _ h)
    · replace h := ifn h qc6
      refine r_aload_n dX12_meetsAll_29 3 rfl ?_
      refine r_iload_n dX12_meetsAll_30 2 rfl ?_
      refine r_iload_n dX12_meetsAll_31 0 rfl ?_
      obtain ⟨rq8, σ9, qg7, h⟩ := bd2_at h
      refine x_callV (Y := mX12_goesBy) (d' := 2) dX12_meetsAll_32 ml_X12_420 yv_X12_goesBy (by omega) rfl rfl (by simp [Value.category]) (sR_is rfl rfl) (lc_X12_goesBy qg7) ?_
      refine r_istore (lo' := [(4, .int rq8), (3, .int x3), (1, .int x1), (2, .int x2), (0, .ref (ad 90))]) dX12_meetsAll_35 (by decide) rfl ?_
      refine r_iload dX12_meetsAll_37 0 rfl ?_
      refine r_iconst (v := (-1)) dX12_meetsAll_39 (by decide) ?_
      refine r_icmp_ne (t := 44) dX12_meetsAll_40 (by decide) (fun qc10 => ?_) (fun qc10 => ?_)
      · replace h := ifn h qc10
        refine r_aload_n dX12_meetsAll_44 4 rfl ?_
        refine r_iload dX12_meetsAll_45 0 rfl ?_
        refine r_iload_n dX12_meetsAll_47 3 rfl ?_
        refine r_iload_n dX12_meetsAll_48 1 rfl ?_
        refine r_sipush (v := 2048) dX12_meetsAll_49 (by decide) ?_
        refine r_idiv dX12_meetsAll_52 (by decide) ?_
        obtain ⟨σ12, qg11, h⟩ := bd_at h
        refine x_callV0 (Y := mX12_meets) (d' := 1) dX12_meetsAll_53 ml_X12_423 yv_X12_meets (by omega) rfl rfl (by simp [Value.category]) (sR_is rfl rfl) (lc_X12_meets qg11) ?_
        refine r_aload_n dX12_meetsAll_56 4 rfl ?_
        refine r_iload_n dX12_meetsAll_57 3 rfl ?_
        refine r_iload_n dX12_meetsAll_58 1 rfl ?_
        refine r_iconst (v := 1) dX12_meetsAll_59 (by decide) ?_
        refine r_iadd dX12_meetsAll_60 ?_
        obtain ⟨rq14, qg13, h⟩ := bd_at h
        refine x_callV (Y := mX12_edgeFrom) (d' := 3) dX12_meetsAll_61 ml_X12_417 yv_X12_edgeFrom (by omega) rfl rfl (by simp [Value.category]) (sR_is rfl rfl) (lc_X12_edgeFrom qg13) ?_
        refine r_istore_n (lo' := [(3, .int rq14), (4, .int rq8), (1, .int x1), (2, .int x2), (0, .ref (ad 90))]) dX12_meetsAll_64 (by decide) rfl ?_
        refine r_goto (t := 24) dX12_meetsAll_65 (by decide) ?_
        exact ab_E.lo [0, 2, 3, 4] rfl (ih _ _ h)
      · replace h := ifp h qc10
        refine r_vret rfl dX12_meetsAll_43 ?_
        exact lfV h
set_option maxRecDepth 8000 in
def L_X12_meetsAll_2 (F : Nat) (kx : sS → Option sS) : Nat → Int32 → sS → Option sS
  | 0, _, _ => none
  | n + 1, x1, σ => if (vI σ 90 53) ≤ x1 then (kx σ) else (grd (inb x1 3000) (bnd (vI σ 149 x1.toNatClampNeg) (fun yq3 => bd (L_X12_edgeFrom F yq3 0 σ) (fun rq5 => L_X12_meetsAll_24 F x1 yq3 (fun σ6 => L_X12_meetsAll_2 F kx n (x1 + 1) σ6) F rq5 σ))))
set_option maxRecDepth 8000 in
theorem l_X12_meetsAll_2 {ad : Nat → Nat} {F : Nat} {z : sS} {kx : sS → Option sS} (hx : ∀  (σ : sS), kx σ = some z → ab_E (sR ad) mX12_meetsAll 4 74 [] [] σ (fun r9 σ9 => r9 = none ∧ σ9 = z)) : ∀ (n : Nat) (x1 : Int32) (σ : sS), L_X12_meetsAll_2 F kx n x1 σ = some z → ab_E (sR ad) mX12_meetsAll 4 2 [(1, .int x1), (0, .ref (ad 90))] [] σ (fun r9 σ9 => r9 = none ∧ σ9 = z) := by
  intro n
  induction n with
  | zero =>
    intro x1 σ h
    rw [L_X12_meetsAll_2] at h
    cases h
  | succ n ih =>
    intro x1 σ h
    rw [L_X12_meetsAll_2] at h
    refine r_iload_n dX12_meetsAll_2 0 rfl ?_
    refine r_aload_n dX12_meetsAll_3 1 rfl ?_
    refine s_getI ok_X12 dX12_meetsAll_4 (k := 53) (by decide) fl_X12_414 rfl rfl ?_
    refine r_icmp_ge (t := 74) dX12_meetsAll_7 (by decide) (fun qc1 => ?_) (fun qc1 => ?_)
    · replace h := ifp h qc1
      exact ab_E.lo [] rfl (hx _ h)
    · replace h := ifn h qc1
      refine r_aload_n dX12_meetsAll_10 1 rfl ?_
      refine s_getR (b := 149) ok_X12 dX12_meetsAll_11 (k := 49) (by decide) fl_X12_85 rfl rfl rfl ?_
      refine r_iload_n dX12_meetsAll_14 0 rfl ?_
      obtain ⟨qg2, h⟩ := grd_at h
      refine s_iald dX12_meetsAll_15 rfl (inb_of qg2) ?_
      refine r_topi (fun yq3 eyq3 => ?_)
      replace h := bnd_at h eyq3
      refine r_istore_n (lo' := [(2, .int yq3), (1, .int x1), (0, .ref (ad 90))]) dX12_meetsAll_16 (by decide) rfl ?_
      refine r_aload_n dX12_meetsAll_17 2 rfl ?_
      refine r_iload_n dX12_meetsAll_18 0 rfl ?_
      refine r_iconst (v := 0) dX12_meetsAll_19 (by decide) ?_
      obtain ⟨rq5, qg4, h⟩ := bd_at h
      refine x_callV (Y := mX12_edgeFrom) (d' := 3) dX12_meetsAll_20 ml_X12_417 yv_X12_edgeFrom (by omega) rfl rfl (by simp [Value.category]) (sR_is rfl rfl) (lc_X12_edgeFrom qg4) ?_
      refine r_istore_n (lo' := [(3, .int rq5), (2, .int yq3), (1, .int x1), (0, .ref (ad 90))]) dX12_meetsAll_23 (by decide) rfl ?_
      refine ab_E.lo [0, 2, 1, 3] rfl (l_X12_meetsAll_24 (fun σ6 h => ?_) _ _ _ h)
      refine r_iinc (v := x1 + 1) (lo' := [(1, .int (x1 + 1)), (0, .ref (ad 90))]) dX12_meetsAll_68 0 rfl rfl (by decide) rfl ?_
      refine r_goto (t := 2) dX12_meetsAll_71 (by decide) ?_
      exact ab_E.lo [0, 1] rfl (ih _ _ h)
set_option maxRecDepth 8000 in
def L_X12_meetsAll (F : Nat) (σ : sS) : Option sS := L_X12_meetsAll_2 F (fun σ1 => some σ1) F 0 σ
set_option maxRecDepth 8000 in
theorem e_X12_meetsAll {ad : Nat → Nat} {F : Nat}  {σ : sS} {z : sS} (h : L_X12_meetsAll F σ = some z) : ab_E (sR ad) mX12_meetsAll 4 0 [(0, .ref (ad 90))] [] σ (fun r9 σ9 => r9 = none ∧ σ9 = z) := by
  unfold L_X12_meetsAll at h
  refine r_iconst (v := 0) dX12_meetsAll_0 (by decide) ?_
  refine r_istore_n (lo' := [(1, .int 0), (0, .ref (ad 90))]) dX12_meetsAll_1 (by decide) rfl ?_
  refine ab_E.lo [0, 1] rfl (l_X12_meetsAll_2 (fun σ1 h => ?_) _ _ _ h)
  refine r_vret rfl dX12_meetsAll_74 ?_
  exact lfV h
set_option maxRecDepth 8000 in
theorem lc_X12_meetsAll {ad : Nat → Nat} {F : Nat}  {σ τ : sS} (h : L_X12_meetsAll F σ = some τ) : ab_X (sR ad) 4 mX12_meetsAll [.ref (ad 90)] σ none τ := ab_X.of (by decide) (Nat.le_of_ble_eq_true rfl) (e_X12_meetsAll h)
set_option maxRecDepth 8000 in
def L_X12_enters (x1 : Int32) (σ : sS) : Option sS := grd (inb x1 3000) (bnd (uI σ 154 x1.toNatClampNeg (vI σ 90 61)) (fun σ2 => grd (inb x1 3000) (bnd (uI σ2 155 x1.toNatClampNeg (vI σ2 90 61)) (fun σ4 => bnd (uI σ4 90 61 ((vI σ4 90 61) + 1)) (fun σ5 => grd (inb (vI σ5 90 62) 3000) (bnd (uI σ5 156 (vI σ5 90 62).toNatClampNeg x1) (fun σ7 => bnd (uI σ7 90 62 ((vI σ7 90 62) + 1)) (fun σ8 => grd (inb x1 3000) (bnd (uI σ8 159 x1.toNatClampNeg 1) (fun σ10 => grd (inb (vI σ10 90 63) 3000) (bnd (uI σ10 157 (vI σ10 90 63).toNatClampNeg x1) (fun σ12 => grd (inb (vI σ12 90 63) 3000) (bnd (uI σ12 158 (vI σ12 90 63).toNatClampNeg 0) (fun σ14 => bnd (uI σ14 90 63 ((vI σ14 90 63) + 1)) (fun σ15 => some σ15)))))))))))))))
set_option maxRecDepth 8000 in
theorem e_X12_enters {ad : Nat → Nat} {x1 : Int32} {σ : sS} {z : sS} (h : L_X12_enters x1 σ = some z) : ab_E (sR ad) mX12_enters 1 0 [(0, .ref (ad 90)), (1, .int x1)] [] σ (fun r9 σ9 => r9 = none ∧ σ9 = z) := by
  unfold L_X12_enters at h
  refine r_aload_n dX12_enters_0 0 rfl ?_
  refine s_getR (b := 154) ok_X12 dX12_enters_1 (k := 54) (by decide) fl_X12_98 rfl rfl rfl ?_
  refine r_iload_n dX12_enters_4 1 rfl ?_
  refine r_aload_n dX12_enters_5 0 rfl ?_
  refine s_getI ok_X12 dX12_enters_6 (k := 61) (by decide) fl_X12_427 rfl rfl ?_
  obtain ⟨qg1, h⟩ := grd_at h
  refine s_iast dX12_enters_9 rfl (inb_of qg1) ?_
  refine r_st (fun σ2 eσ2 => ?_)
  replace h := bnd_at h eσ2
  refine r_aload_n dX12_enters_10 0 rfl ?_
  refine s_getR (b := 155) ok_X12 dX12_enters_11 (k := 55) (by decide) fl_X12_101 rfl rfl rfl ?_
  refine r_iload_n dX12_enters_14 1 rfl ?_
  refine r_aload_n dX12_enters_15 0 rfl ?_
  refine s_getI ok_X12 dX12_enters_16 (k := 61) (by decide) fl_X12_427 rfl rfl ?_
  obtain ⟨qg3, h⟩ := grd_at h
  refine s_iast dX12_enters_19 rfl (inb_of qg3) ?_
  refine r_st (fun σ4 eσ4 => ?_)
  replace h := bnd_at h eσ4
  refine r_aload_n dX12_enters_20 0 rfl ?_
  refine r_dup dX12_enters_21 rfl ?_
  refine s_getI ok_X12 dX12_enters_22 (k := 61) (by decide) fl_X12_427 rfl rfl ?_
  refine r_iconst (v := 1) dX12_enters_25 (by decide) ?_
  refine r_iadd dX12_enters_26 ?_
  refine s_putI ok_X12 dX12_enters_27 (k := 61) (by decide) fl_X12_427 rfl rfl rfl rfl rfl ?_
  refine r_st (fun σ5 eσ5 => ?_)
  replace h := bnd_at h eσ5
  refine r_aload_n dX12_enters_30 0 rfl ?_
  refine s_getR (b := 156) ok_X12 dX12_enters_31 (k := 56) (by decide) fl_X12_104 rfl rfl rfl ?_
  refine r_aload_n dX12_enters_34 0 rfl ?_
  refine s_getI ok_X12 dX12_enters_35 (k := 62) (by decide) fl_X12_430 rfl rfl ?_
  refine r_iload_n dX12_enters_38 1 rfl ?_
  obtain ⟨qg6, h⟩ := grd_at h
  refine s_iast dX12_enters_39 rfl (inb_of qg6) ?_
  refine r_st (fun σ7 eσ7 => ?_)
  replace h := bnd_at h eσ7
  refine r_aload_n dX12_enters_40 0 rfl ?_
  refine r_dup dX12_enters_41 rfl ?_
  refine s_getI ok_X12 dX12_enters_42 (k := 62) (by decide) fl_X12_430 rfl rfl ?_
  refine r_iconst (v := 1) dX12_enters_45 (by decide) ?_
  refine r_iadd dX12_enters_46 ?_
  refine s_putI ok_X12 dX12_enters_47 (k := 62) (by decide) fl_X12_430 rfl rfl rfl rfl rfl ?_
  refine r_st (fun σ8 eσ8 => ?_)
  replace h := bnd_at h eσ8
  refine r_aload_n dX12_enters_50 0 rfl ?_
  refine s_getR (b := 159) ok_X12 dX12_enters_51 (k := 59) (by decide) fl_X12_113 rfl rfl rfl ?_
  refine r_iload_n dX12_enters_54 1 rfl ?_
  refine r_iconst (v := 1) dX12_enters_55 (by decide) ?_
  obtain ⟨qg9, h⟩ := grd_at h
  refine s_zast dX12_enters_56 rfl (inb_of qg9) (by decide) ?_
  refine r_st (fun σ10 eσ10 => ?_)
  replace h := bnd_at h eσ10
  refine r_aload_n dX12_enters_57 0 rfl ?_
  refine s_getR (b := 157) ok_X12 dX12_enters_58 (k := 57) (by decide) fl_X12_107 rfl rfl rfl ?_
  refine r_aload_n dX12_enters_61 0 rfl ?_
  refine s_getI ok_X12 dX12_enters_62 (k := 63) (by decide) fl_X12_433 rfl rfl ?_
  refine r_iload_n dX12_enters_65 1 rfl ?_
  obtain ⟨qg11, h⟩ := grd_at h
  refine s_iast dX12_enters_66 rfl (inb_of qg11) ?_
  refine r_st (fun σ12 eσ12 => ?_)
  replace h := bnd_at h eσ12
  refine r_aload_n dX12_enters_67 0 rfl ?_
  refine s_getR (b := 158) ok_X12 dX12_enters_68 (k := 58) (by decide) fl_X12_110 rfl rfl rfl ?_
  refine r_aload_n dX12_enters_71 0 rfl ?_
  refine s_getI ok_X12 dX12_enters_72 (k := 63) (by decide) fl_X12_433 rfl rfl ?_
  refine r_iconst (v := 0) dX12_enters_75 (by decide) ?_
  obtain ⟨qg13, h⟩ := grd_at h
  refine s_iast dX12_enters_76 rfl (inb_of qg13) ?_
  refine r_st (fun σ14 eσ14 => ?_)
  replace h := bnd_at h eσ14
  refine r_aload_n dX12_enters_77 0 rfl ?_
  refine r_dup dX12_enters_78 rfl ?_
  refine s_getI ok_X12 dX12_enters_79 (k := 63) (by decide) fl_X12_433 rfl rfl ?_
  refine r_iconst (v := 1) dX12_enters_82 (by decide) ?_
  refine r_iadd dX12_enters_83 ?_
  refine s_putI ok_X12 dX12_enters_84 (k := 63) (by decide) fl_X12_433 rfl rfl rfl rfl rfl ?_
  refine r_st (fun σ15 eσ15 => ?_)
  replace h := bnd_at h eσ15
  refine r_vret rfl dX12_enters_87 ?_
  exact lfV h
set_option maxRecDepth 8000 in
theorem lc_X12_enters {ad : Nat → Nat} {x1 : Int32} {σ τ : sS} (h : L_X12_enters x1 σ = some τ) : ab_X (sR ad) 1 mX12_enters [.ref (ad 90), .int x1] σ none τ := ab_X.of (by decide) (Nat.le_of_ble_eq_true rfl) (e_X12_enters h)
set_option maxRecDepth 8000 in
def L_X12_leaves_39 (F : Nat) (x1 : Int32) (kx : Int32 → sS → Option sS) : Nat → Int32 → Int32 → sS → Option sS
  | 0, _, _, _ => none
  | n + 1, x3, x4, σ => if x4 = ((-1)) then (kx x3 σ) else (if x3 = 0 then (bd2 (L_X12_goesBy x1 x4 σ) (fun rq8 σ9 => if rq8 = x1 then (bd (L_X12_edgeFrom F x1 (x4 + 1) σ9) (fun rq14 => L_X12_leaves_39 F x1 kx n 1 rq14 σ9)) else (bd (L_X12_edgeFrom F x1 (x4 + 1) σ9) (fun rq12 => L_X12_leaves_39 F x1 kx n 0 rq12 σ9)))) else (kx x3 σ))
set_option maxRecDepth 8000 in
theorem l_X12_leaves_39 {ad : Nat → Nat} {F : Nat} {x1 : Int32} {z : sS} {kx : Int32 → sS → Option sS} (hx : ∀ (x3 : Int32) (σ : sS), kx x3 σ = some z → ab_E (sR ad) mX12_leaves 4 80 [(3, .int x3), (1, .int x1), (0, .ref (ad 90))] [] σ (fun r9 σ9 => r9 = none ∧ σ9 = z)) : ∀ (n : Nat) (x3 : Int32) (x4 : Int32) (σ : sS), L_X12_leaves_39 F x1 kx n x3 x4 σ = some z → ab_E (sR ad) mX12_leaves 4 39 [(3, .int x3), (4, .int x4), (1, .int x1), (0, .ref (ad 90))] [] σ (fun r9 σ9 => r9 = none ∧ σ9 = z) := by
  intro n
  induction n with
  | zero =>
    intro x3 x4 σ h
    rw [L_X12_leaves_39] at h
    cases h
  | succ n ih =>
    intro x3 x4 σ h
    rw [L_X12_leaves_39] at h
    refine r_iload dX12_leaves_39 1 rfl ?_
    refine r_iconst (v := (-1)) dX12_leaves_41 (by decide) ?_
    refine r_icmp_eq (t := 80) dX12_leaves_42 (by decide) (fun qc5 => ?_) (fun qc5 => ?_)
    · replace h := ifp h qc5
      exact ab_E.lo [0, 2, 3] rfl (hx _ _ h)
    · replace h := ifn h qc5
      refine r_iload_n dX12_leaves_45 0 rfl ?_
      refine r_if_ne (t := 80) dX12_leaves_46 (by decide) (fun qc6 => ?_) (fun qc6 => ?_)
      · replace h := ifn h qc6
        exact ab_E.lo [0, 2, 3] rfl (hx _ _ h)
      · replace h := ifp h qc6
        refine r_aload_n dX12_leaves_49 3 rfl ?_
        refine r_iload_n dX12_leaves_50 2 rfl ?_
        refine r_iload dX12_leaves_51 1 rfl ?_
        obtain ⟨rq8, σ9, qg7, h⟩ := bd2_at h
        refine x_callV (Y := mX12_goesBy) (d' := 2) dX12_leaves_53 ml_X12_420 yv_X12_goesBy (by omega) rfl rfl (by simp [Value.category]) (sR_is rfl rfl) (lc_X12_goesBy qg7) ?_
        refine r_iload_n dX12_leaves_56 2 rfl ?_
        refine r_icmp_ne (t := 64) dX12_leaves_57 (by decide) (fun qc10 => ?_) (fun qc10 => ?_)
        · replace h := ifn h qc10
          refine r_iconst (v := 0) dX12_leaves_64 (by decide) ?_
          refine r_istore_n (lo' := [(3, .int 0), (4, .int x4), (1, .int x1), (0, .ref (ad 90))]) dX12_leaves_65 (by decide) rfl ?_
          refine r_aload_n dX12_leaves_66 3 rfl ?_
          refine r_iload_n dX12_leaves_67 2 rfl ?_
          refine r_iload dX12_leaves_68 1 rfl ?_
          refine r_iconst (v := 1) dX12_leaves_70 (by decide) ?_
          refine r_iadd dX12_leaves_71 ?_
          obtain ⟨rq12, qg11, h⟩ := bd_at h
          refine x_callV (Y := mX12_edgeFrom) (d' := 3) dX12_leaves_72 ml_X12_417 yv_X12_edgeFrom (by omega) rfl rfl (by simp [Value.category]) (sR_is rfl rfl) (lc_X12_edgeFrom qg11) ?_
          refine r_istore (lo' := [(4, .int rq12), (3, .int 0), (1, .int x1), (0, .ref (ad 90))]) dX12_leaves_75 (by decide) rfl ?_
          refine r_goto (t := 39) dX12_leaves_77 (by decide) ?_
          exact ab_E.lo [1, 0, 2, 3] rfl (ih _ _ _ h)
        · replace h := ifp h qc10
          refine r_iconst (v := 1) dX12_leaves_60 (by decide) ?_
          refine r_goto (t := 65) dX12_leaves_61 (by decide) ?_
          refine r_istore_n (lo' := [(3, .int 1), (4, .int x4), (1, .int x1), (0, .ref (ad 90))]) dX12_leaves_65 (by decide) rfl ?_
          refine r_aload_n dX12_leaves_66 3 rfl ?_
          refine r_iload_n dX12_leaves_67 2 rfl ?_
          refine r_iload dX12_leaves_68 1 rfl ?_
          refine r_iconst (v := 1) dX12_leaves_70 (by decide) ?_
          refine r_iadd dX12_leaves_71 ?_
          obtain ⟨rq14, qg13, h⟩ := bd_at h
          refine x_callV (Y := mX12_edgeFrom) (d' := 3) dX12_leaves_72 ml_X12_417 yv_X12_edgeFrom (by omega) rfl rfl (by simp [Value.category]) (sR_is rfl rfl) (lc_X12_edgeFrom qg13) ?_
          refine r_istore (lo' := [(4, .int rq14), (3, .int 1), (1, .int x1), (0, .ref (ad 90))]) dX12_leaves_75 (by decide) rfl ?_
          refine r_goto (t := 39) dX12_leaves_77 (by decide) ?_
          exact ab_E.lo [1, 0, 2, 3] rfl (ih _ _ _ h)
set_option maxRecDepth 8000 in
def L_X12_leaves_83 (F : Nat) (x1 : Int32) (x3 : Int32) (kx : sS → Option sS) : Nat → Int32 → sS → Option sS
  | 0, _, _ => none
  | n + 1, x4, σ => if x4 = 0 then (kx σ) else (bnd (uI σ 90 62 ((vI σ 90 62) - 1)) (fun σ8 => grd (inb (vI σ8 90 62) 3000) (bnd (vI σ8 156 (vI σ8 90 62).toNatClampNeg) (fun yq10 => grd (inb yq10 3000) (bnd (uI σ8 159 yq10.toNatClampNeg 0) (fun σ12 => grd (inb yq10 3000) (grd (is01 x3) (bnd (uI σ12 160 yq10.toNatClampNeg x3) (fun σ15 => if yq10 = x1 then (L_X12_leaves_83 F x1 x3 kx n 0 σ15) else (L_X12_leaves_83 F x1 x3 kx n 1 σ15))))))))))
set_option maxRecDepth 8000 in
theorem l_X12_leaves_83 {ad : Nat → Nat} {F : Nat} {x1 : Int32} {x3 : Int32} {z : sS} {kx : sS → Option sS} (hx : ∀  (σ : sS), kx σ = some z → ab_E (sR ad) mX12_leaves 4 141 [] [] σ (fun r9 σ9 => r9 = none ∧ σ9 = z)) : ∀ (n : Nat) (x4 : Int32) (σ : sS), L_X12_leaves_83 F x1 x3 kx n x4 σ = some z → ab_E (sR ad) mX12_leaves 4 83 [(4, .int x4), (1, .int x1), (3, .int x3), (0, .ref (ad 90))] [] σ (fun r9 σ9 => r9 = none ∧ σ9 = z) := by
  intro n
  induction n with
  | zero =>
    intro x4 σ h
    rw [L_X12_leaves_83] at h
    cases h
  | succ n ih =>
    intro x4 σ h
    rw [L_X12_leaves_83] at h
    refine r_iload dX12_leaves_83 0 rfl ?_
    refine r_if_eq (t := 141) dX12_leaves_85 (by decide) (fun qc7 => ?_) (fun qc7 => ?_)
    · replace h := ifp h qc7
      exact ab_E.lo [] rfl (hx _ h)
    · replace h := ifn h qc7
      refine r_aload_n dX12_leaves_88 3 rfl ?_
      refine r_dup dX12_leaves_89 rfl ?_
      refine s_getI ok_X12 dX12_leaves_90 (k := 62) (by decide) fl_X12_430 rfl rfl ?_
      refine r_iconst (v := 1) dX12_leaves_93 (by decide) ?_
      refine r_isub dX12_leaves_94 ?_
      refine s_putI ok_X12 dX12_leaves_95 (k := 62) (by decide) fl_X12_430 rfl rfl rfl rfl rfl ?_
      refine r_st (fun σ8 eσ8 => ?_)
      replace h := bnd_at h eσ8
      refine r_aload_n dX12_leaves_98 3 rfl ?_
      refine s_getR (b := 156) ok_X12 dX12_leaves_99 (k := 56) (by decide) fl_X12_104 rfl rfl rfl ?_
      refine r_aload_n dX12_leaves_102 3 rfl ?_
      refine s_getI ok_X12 dX12_leaves_103 (k := 62) (by decide) fl_X12_430 rfl rfl ?_
      obtain ⟨qg9, h⟩ := grd_at h
      refine s_iald dX12_leaves_106 rfl (inb_of qg9) ?_
      refine r_topi (fun yq10 eyq10 => ?_)
      replace h := bnd_at h eyq10
      refine r_istore (lo' := [(5, .int yq10), (4, .int x4), (1, .int x1), (3, .int x3), (0, .ref (ad 90))]) dX12_leaves_107 (by decide) rfl ?_
      refine r_aload_n dX12_leaves_109 4 rfl ?_
      refine s_getR (b := 159) ok_X12 dX12_leaves_110 (k := 59) (by decide) fl_X12_113 rfl rfl rfl ?_
      refine r_iload dX12_leaves_113 0 rfl ?_
      refine r_iconst (v := 0) dX12_leaves_115 (by decide) ?_
      obtain ⟨qg11, h⟩ := grd_at h
      refine s_zast dX12_leaves_116 rfl (inb_of qg11) (by decide) ?_
      refine r_st (fun σ12 eσ12 => ?_)
      replace h := bnd_at h eσ12
      refine r_aload_n dX12_leaves_117 4 rfl ?_
      refine s_getR (b := 160) ok_X12 dX12_leaves_118 (k := 60) (by decide) fl_X12_116 rfl rfl rfl ?_
      refine r_iload dX12_leaves_121 0 rfl ?_
      refine r_iload_n dX12_leaves_123 3 rfl ?_
      obtain ⟨qg13, h⟩ := grd_at h
      obtain ⟨qg14, h⟩ := grd_at h
      refine s_zast dX12_leaves_124 rfl (inb_of qg13) (vnar01 qg14) ?_
      refine r_st (fun σ15 eσ15 => ?_)
      replace h := bnd_at h eσ15
      refine r_iload dX12_leaves_125 0 rfl ?_
      refine r_iload_n dX12_leaves_127 2 rfl ?_
      refine r_icmp_eq (t := 135) dX12_leaves_128 (by decide) (fun qc16 => ?_) (fun qc16 => ?_)
      · replace h := ifp h qc16
        refine r_iconst (v := 0) dX12_leaves_135 (by decide) ?_
        refine r_istore (lo' := [(4, .int 0), (5, .int yq10), (1, .int x1), (3, .int x3), (0, .ref (ad 90))]) dX12_leaves_136 (by decide) rfl ?_
        refine r_goto (t := 83) dX12_leaves_138 (by decide) ?_
        exact ab_E.lo [0, 2, 3, 4] rfl (ih _ _ h)
      · replace h := ifn h qc16
        refine r_iconst (v := 1) dX12_leaves_131 (by decide) ?_
        refine r_goto (t := 136) dX12_leaves_132 (by decide) ?_
        refine r_istore (lo' := [(4, .int 1), (5, .int yq10), (1, .int x1), (3, .int x3), (0, .ref (ad 90))]) dX12_leaves_136 (by decide) rfl ?_
        refine r_goto (t := 83) dX12_leaves_138 (by decide) ?_
        exact ab_E.lo [0, 2, 3, 4] rfl (ih _ _ h)
set_option maxRecDepth 8000 in
def L_X12_leaves (F : Nat) (x1 : Int32) (σ : sS) : Option sS := grd (inb ((vI σ 90 62) - 1) 3000) (if (vI σ 156 ((vI σ 90 62) - 1).toNatClampNeg) = x1 then (bd (L_X12_edgeFrom F x1 0 σ) (fun rq9 => L_X12_leaves_39 F x1 (fun yq10 σ11 => L_X12_leaves_83 F x1 yq10 (fun σ12 => some σ12) F 1 σ11) F 0 rq9 σ)) else (bd (L_X12_edgeFrom F x1 0 σ) (fun rq4 => L_X12_leaves_39 F x1 (fun yq5 σ6 => L_X12_leaves_83 F x1 yq5 (fun σ7 => some σ7) F 1 σ6) F 1 rq4 σ)))
set_option maxRecDepth 8000 in
theorem e_X12_leaves {ad : Nat → Nat} {F : Nat} {x1 : Int32} {σ : sS} {z : sS} (h : L_X12_leaves F x1 σ = some z) : ab_E (sR ad) mX12_leaves 4 0 [(0, .ref (ad 90)), (1, .int x1)] [] σ (fun r9 σ9 => r9 = none ∧ σ9 = z) := by
  unfold L_X12_leaves at h
  refine r_aload_n dX12_leaves_0 0 rfl ?_
  refine s_getR (b := 156) ok_X12 dX12_leaves_1 (k := 56) (by decide) fl_X12_104 rfl rfl rfl ?_
  refine r_aload_n dX12_leaves_4 0 rfl ?_
  refine s_getI ok_X12 dX12_leaves_5 (k := 62) (by decide) fl_X12_430 rfl rfl ?_
  refine r_iconst (v := 1) dX12_leaves_8 (by decide) ?_
  refine r_isub dX12_leaves_9 ?_
  obtain ⟨qg1, h⟩ := grd_at h
  refine s_iald dX12_leaves_10 rfl (inb_of qg1) ?_
  refine r_iload_n dX12_leaves_11 1 rfl ?_
  refine r_icmp_ne (t := 19) dX12_leaves_12 (by decide) (fun qc2 => ?_) (fun qc2 => ?_)
  · replace h := ifn h qc2
    refine r_iconst (v := 0) dX12_leaves_19 (by decide) ?_
    refine r_istore_n (lo' := [(2, .int 0), (0, .ref (ad 90)), (1, .int x1)]) dX12_leaves_20 (by decide) rfl ?_
    refine r_iload_n dX12_leaves_21 0 rfl ?_
    refine r_if_ne (t := 29) dX12_leaves_22 (by decide) (fun hh9 => absurd (by decide) hh9) (fun _ => ?_)
    refine r_iconst (v := 1) dX12_leaves_25 (by decide) ?_
    refine r_goto (t := 30) dX12_leaves_26 (by decide) ?_
    refine r_istore_n (lo' := [(3, .int 1), (2, .int 0), (0, .ref (ad 90)), (1, .int x1)]) dX12_leaves_30 (by decide) rfl ?_
    refine r_aload_n dX12_leaves_31 2 rfl ?_
    refine r_iload_n dX12_leaves_32 3 rfl ?_
    refine r_iconst (v := 0) dX12_leaves_33 (by decide) ?_
    obtain ⟨rq4, qg3, h⟩ := bd_at h
    refine x_callV (Y := mX12_edgeFrom) (d' := 3) dX12_leaves_34 ml_X12_417 yv_X12_edgeFrom (by omega) rfl rfl (by simp [Value.category]) (sR_is rfl rfl) (lc_X12_edgeFrom qg3) ?_
    refine r_istore (lo' := [(4, .int rq4), (3, .int 1), (2, .int 0), (0, .ref (ad 90)), (1, .int x1)]) dX12_leaves_37 (by decide) rfl ?_
    refine ab_E.lo [1, 0, 4, 3] rfl (l_X12_leaves_39 (fun yq5 σ6 h => ?_) _ _ _ _ h)
    refine r_iconst (v := 1) dX12_leaves_80 (by decide) ?_
    refine r_istore (lo' := [(4, .int 1), (3, .int yq5), (1, .int x1), (0, .ref (ad 90))]) dX12_leaves_81 (by decide) rfl ?_
    refine ab_E.lo [0, 2, 1, 3] rfl (l_X12_leaves_83 (fun σ7 h => ?_) _ _ _ h)
    refine r_vret rfl dX12_leaves_141 ?_
    exact lfV h
  · replace h := ifp h qc2
    refine r_iconst (v := 1) dX12_leaves_15 (by decide) ?_
    refine r_goto (t := 20) dX12_leaves_16 (by decide) ?_
    refine r_istore_n (lo' := [(2, .int 1), (0, .ref (ad 90)), (1, .int x1)]) dX12_leaves_20 (by decide) rfl ?_
    refine r_iload_n dX12_leaves_21 0 rfl ?_
    refine r_if_ne (t := 29) dX12_leaves_22 (by decide) (fun _ => ?_) (fun hh9 => absurd hh9 (by decide))
    refine r_iconst (v := 0) dX12_leaves_29 (by decide) ?_
    refine r_istore_n (lo' := [(3, .int 0), (2, .int 1), (0, .ref (ad 90)), (1, .int x1)]) dX12_leaves_30 (by decide) rfl ?_
    refine r_aload_n dX12_leaves_31 2 rfl ?_
    refine r_iload_n dX12_leaves_32 3 rfl ?_
    refine r_iconst (v := 0) dX12_leaves_33 (by decide) ?_
    obtain ⟨rq9, qg8, h⟩ := bd_at h
    refine x_callV (Y := mX12_edgeFrom) (d' := 3) dX12_leaves_34 ml_X12_417 yv_X12_edgeFrom (by omega) rfl rfl (by simp [Value.category]) (sR_is rfl rfl) (lc_X12_edgeFrom qg8) ?_
    refine r_istore (lo' := [(4, .int rq9), (3, .int 0), (2, .int 1), (0, .ref (ad 90)), (1, .int x1)]) dX12_leaves_37 (by decide) rfl ?_
    refine ab_E.lo [1, 0, 4, 3] rfl (l_X12_leaves_39 (fun yq10 σ11 h => ?_) _ _ _ _ h)
    refine r_iconst (v := 1) dX12_leaves_80 (by decide) ?_
    refine r_istore (lo' := [(4, .int 1), (3, .int yq10), (1, .int x1), (0, .ref (ad 90))]) dX12_leaves_81 (by decide) rfl ?_
    refine ab_E.lo [0, 2, 1, 3] rfl (l_X12_leaves_83 (fun σ12 h => ?_) _ _ _ h)
    refine r_vret rfl dX12_leaves_141 ?_
    exact lfV h
set_option maxRecDepth 8000 in
theorem lc_X12_leaves {ad : Nat → Nat} {F : Nat} {x1 : Int32} {σ τ : sS} (h : L_X12_leaves F x1 σ = some τ) : ab_X (sR ad) 4 mX12_leaves [.ref (ad 90), .int x1] σ none τ := ab_X.of (by decide) (Nat.le_of_ble_eq_true rfl) (e_X12_leaves h)
set_option maxRecDepth 8000 in
def L_X12_turnsFrom_170 (F : Nat) (kh : sS → Option sS) (kx : sS → Option sS) (x2 : Int32) (σ : sS) : Option sS := if (vI σ 90 63) ≤ 0 then (kh σ) else (grd (inb x2 3000) (grd (inb ((vI σ 90 63) - 1) 3000) (grd (inb (vI σ 157 ((vI σ 90 63) - 1).toNatClampNeg) 3000) (if (vI σ 155 (vI σ 157 ((vI σ 90 63) - 1).toNatClampNeg).toNatClampNeg) ≤ (vI σ 155 x2.toNatClampNeg) then (kh σ) else (grd (inb ((vI σ 90 63) - 1) 3000) (grd (inb x2 3000) (grd (inb (vI σ 157 ((vI σ 90 63) - 1).toNatClampNeg) 3000) (bnd (uI σ 155 (vI σ 157 ((vI σ 90 63) - 1).toNatClampNeg).toNatClampNeg (vI σ 155 x2.toNatClampNeg)) (fun σ24 => kh σ24)))))))))
set_option maxRecDepth 8000 in
theorem l_X12_turnsFrom_170 {ad : Nat → Nat} {F : Nat} {z : sS} {kh : sS → Option sS} (hh : ∀  (σ : sS), kh σ = some z → ab_E (sR ad) mX12_turnsFrom 5 15 [(0, .ref (ad 90))] [] σ (fun r9 σ9 => r9 = none ∧ σ9 = z)) {kx : sS → Option sS} (hx : ∀  (σ : sS), kx σ = some z → ab_E (sR ad) mX12_turnsFrom 5 227 [] [] σ (fun r9 σ9 => r9 = none ∧ σ9 = z)) (x2 : Int32) (σ : sS) (h : L_X12_turnsFrom_170 F kh kx x2 σ = some z) : ab_E (sR ad) mX12_turnsFrom 5 170 [(2, .int x2), (0, .ref (ad 90))] [] σ (fun r9 σ9 => r9 = none ∧ σ9 = z) := by
  unfold L_X12_turnsFrom_170 at h
  refine r_aload_n dX12_turnsFrom_170 1 rfl ?_
  refine s_getI ok_X12 dX12_turnsFrom_171 (k := 63) (by decide) fl_X12_433 rfl rfl ?_
  refine r_if_le (t := 224) dX12_turnsFrom_174 (by decide) (fun qc16 => ?_) (fun qc16 => ?_)
  · replace h := ifp h qc16
    refine r_goto (t := 15) dX12_turnsFrom_224 (by decide) ?_
    exact ab_E.lo [1] rfl (hh _ h)
  · replace h := ifn h qc16
    refine r_aload_n dX12_turnsFrom_177 1 rfl ?_
    refine s_getR (b := 155) ok_X12 dX12_turnsFrom_178 (k := 55) (by decide) fl_X12_101 rfl rfl rfl ?_
    refine r_iload_n dX12_turnsFrom_181 0 rfl ?_
    obtain ⟨qg17, h⟩ := grd_at h
    refine s_iald dX12_turnsFrom_182 rfl (inb_of qg17) ?_
    refine r_aload_n dX12_turnsFrom_183 1 rfl ?_
    refine s_getR (b := 155) ok_X12 dX12_turnsFrom_184 (k := 55) (by decide) fl_X12_101 rfl rfl rfl ?_
    refine r_aload_n dX12_turnsFrom_187 1 rfl ?_
    refine s_getR (b := 157) ok_X12 dX12_turnsFrom_188 (k := 57) (by decide) fl_X12_107 rfl rfl rfl ?_
    refine r_aload_n dX12_turnsFrom_191 1 rfl ?_
    refine s_getI ok_X12 dX12_turnsFrom_192 (k := 63) (by decide) fl_X12_433 rfl rfl ?_
    refine r_iconst (v := 1) dX12_turnsFrom_195 (by decide) ?_
    refine r_isub dX12_turnsFrom_196 ?_
    obtain ⟨qg18, h⟩ := grd_at h
    refine s_iald dX12_turnsFrom_197 rfl (inb_of qg18) ?_
    obtain ⟨qg19, h⟩ := grd_at h
    refine s_iald dX12_turnsFrom_198 rfl (inb_of qg19) ?_
    refine r_icmp_ge (t := 224) dX12_turnsFrom_199 (by decide) (fun qc20 => ?_) (fun qc20 => ?_)
    · replace h := ifp h qc20
      refine r_goto (t := 15) dX12_turnsFrom_224 (by decide) ?_
      exact ab_E.lo [1] rfl (hh _ h)
    · replace h := ifn h qc20
      refine r_aload_n dX12_turnsFrom_202 1 rfl ?_
      refine s_getR (b := 155) ok_X12 dX12_turnsFrom_203 (k := 55) (by decide) fl_X12_101 rfl rfl rfl ?_
      refine r_aload_n dX12_turnsFrom_206 1 rfl ?_
      refine s_getR (b := 157) ok_X12 dX12_turnsFrom_207 (k := 57) (by decide) fl_X12_107 rfl rfl rfl ?_
      refine r_aload_n dX12_turnsFrom_210 1 rfl ?_
      refine s_getI ok_X12 dX12_turnsFrom_211 (k := 63) (by decide) fl_X12_433 rfl rfl ?_
      refine r_iconst (v := 1) dX12_turnsFrom_214 (by decide) ?_
      refine r_isub dX12_turnsFrom_215 ?_
      obtain ⟨qg21, h⟩ := grd_at h
      refine s_iald dX12_turnsFrom_216 rfl (inb_of qg21) ?_
      refine r_aload_n dX12_turnsFrom_217 1 rfl ?_
      refine s_getR (b := 155) ok_X12 dX12_turnsFrom_218 (k := 55) (by decide) fl_X12_101 rfl rfl rfl ?_
      refine r_iload_n dX12_turnsFrom_221 0 rfl ?_
      obtain ⟨qg22, h⟩ := grd_at h
      refine s_iald dX12_turnsFrom_222 rfl (inb_of qg22) ?_
      obtain ⟨qg23, h⟩ := grd_at h
      refine s_iast dX12_turnsFrom_223 rfl (inb_of qg23) ?_
      refine r_st (fun σ24 eσ24 => ?_)
      replace h := bnd_at h eσ24
      refine r_goto (t := 15) dX12_turnsFrom_224 (by decide) ?_
      exact ab_E.lo [1] rfl (hh _ h)
set_option maxRecDepth 8000 in
def L_X12_turnsFrom_15 (F : Nat) (kx : sS → Option sS) : Nat → sS → Option sS
  | 0, _ => none
  | n + 1, σ => if (vI σ 90 63) ≤ 0 then (kx σ) else (grd (inb ((vI σ 90 63) - 1) 3000) (bnd (vI σ 157 ((vI σ 90 63) - 1).toNatClampNeg) (fun yq7 => grd (inb ((vI σ 90 63) - 1) 3000) (bd (L_X12_edgeFrom F yq7 (vI σ 158 ((vI σ 90 63) - 1).toNatClampNeg) σ) (fun rq10 => if rq10 = ((-1)) then (bnd (uI σ 90 63 ((vI σ 90 63) - 1)) (fun σ12 => grd (inb yq7 3000) (grd (inb yq7 3000) (if (vI σ12 155 yq7.toNatClampNeg) = (vI σ12 154 yq7.toNatClampNeg) then (bd (L_X12_leaves F yq7 σ12) (fun σ17 => L_X12_turnsFrom_170 F (L_X12_turnsFrom_15 F kx n) kx yq7 σ17)) else (L_X12_turnsFrom_170 F (L_X12_turnsFrom_15 F kx n) kx yq7 σ12))))) else (grd (inb ((vI σ 90 63) - 1) 3000) (bnd (uI σ 158 ((vI σ 90 63) - 1).toNatClampNeg (rq10 + 1)) (fun σ19 => bd2 (L_X12_goesBy yq7 rq10 σ19) (fun rq21 σ22 => grd (inb rq21 3000) (if (vI σ22 154 rq21.toNatClampNeg) = ((-1)) then (bd (L_X12_enters rq21 σ22) (fun σ34 => L_X12_turnsFrom_15 F kx n σ34)) else (grd (inb rq21 3000) (if (vI σ22 159 rq21.toNatClampNeg) = 0 then (L_X12_turnsFrom_15 F kx n σ22) else (grd (inb rq21 3000) (grd (inb yq7 3000) (if (vI σ22 155 yq7.toNatClampNeg) ≤ (vI σ22 154 rq21.toNatClampNeg) then (L_X12_turnsFrom_15 F kx n σ22) else (grd (inb rq21 3000) (grd (inb yq7 3000) (bnd (uI σ22 155 yq7.toNatClampNeg (vI σ22 154 rq21.toNatClampNeg)) (fun σ32 => L_X12_turnsFrom_15 F kx n σ32)))))))))))))))))))
set_option maxRecDepth 8000 in
theorem l_X12_turnsFrom_15 {ad : Nat → Nat} {F : Nat} {z : sS} {kx : sS → Option sS} (hx : ∀  (σ : sS), kx σ = some z → ab_E (sR ad) mX12_turnsFrom 5 227 [] [] σ (fun r9 σ9 => r9 = none ∧ σ9 = z)) : ∀ (n : Nat)  (σ : sS), L_X12_turnsFrom_15 F kx n σ = some z → ab_E (sR ad) mX12_turnsFrom 5 15 [(0, .ref (ad 90))] [] σ (fun r9 σ9 => r9 = none ∧ σ9 = z) := by
  intro n
  induction n with
  | zero =>
    intro σ h
    rw [L_X12_turnsFrom_15] at h
    cases h
  | succ n ih =>
    intro σ h
    rw [L_X12_turnsFrom_15] at h
    refine r_aload_n dX12_turnsFrom_15 0 rfl ?_
    refine s_getI ok_X12 dX12_turnsFrom_16 (k := 63) (by decide) fl_X12_433 rfl rfl ?_
    refine r_if_le (t := 227) dX12_turnsFrom_19 (by decide) (fun qc5 => ?_) (fun qc5 => ?_)
    · replace h := ifp h qc5
      exact ab_E.lo [] rfl (hx _ h)
    · replace h := ifn h qc5
      refine r_aload_n dX12_turnsFrom_22 0 rfl ?_
      refine s_getR (b := 157) ok_X12 dX12_turnsFrom_23 (k := 57) (by decide) fl_X12_107 rfl rfl rfl ?_
      refine r_aload_n dX12_turnsFrom_26 0 rfl ?_
      refine s_getI ok_X12 dX12_turnsFrom_27 (k := 63) (by decide) fl_X12_433 rfl rfl ?_
      refine r_iconst (v := 1) dX12_turnsFrom_30 (by decide) ?_
      refine r_isub dX12_turnsFrom_31 ?_
      obtain ⟨qg6, h⟩ := grd_at h
      refine s_iald dX12_turnsFrom_32 rfl (inb_of qg6) ?_
      refine r_topi (fun yq7 eyq7 => ?_)
      replace h := bnd_at h eyq7
      refine r_istore_n (lo' := [(2, .int yq7), (0, .ref (ad 90))]) dX12_turnsFrom_33 (by decide) rfl ?_
      refine r_aload_n dX12_turnsFrom_34 1 rfl ?_
      refine r_iload_n dX12_turnsFrom_35 0 rfl ?_
      refine r_aload_n dX12_turnsFrom_36 1 rfl ?_
      refine s_getR (b := 158) ok_X12 dX12_turnsFrom_37 (k := 58) (by decide) fl_X12_110 rfl rfl rfl ?_
      refine r_aload_n dX12_turnsFrom_40 1 rfl ?_
      refine s_getI ok_X12 dX12_turnsFrom_41 (k := 63) (by decide) fl_X12_433 rfl rfl ?_
      refine r_iconst (v := 1) dX12_turnsFrom_44 (by decide) ?_
      refine r_isub dX12_turnsFrom_45 ?_
      obtain ⟨qg8, h⟩ := grd_at h
      refine s_iald dX12_turnsFrom_46 rfl (inb_of qg8) ?_
      obtain ⟨rq10, qg9, h⟩ := bd_at h
      refine x_callV (Y := mX12_edgeFrom) (d' := 3) dX12_turnsFrom_47 ml_X12_417 yv_X12_edgeFrom (by omega) rfl rfl (by simp [Value.category]) (sR_is rfl rfl) (lc_X12_edgeFrom qg9) ?_
      refine r_istore_n (lo' := [(3, .int rq10), (2, .int yq7), (0, .ref (ad 90))]) dX12_turnsFrom_50 (by decide) rfl ?_
      refine r_iload_n dX12_turnsFrom_51 0 rfl ?_
      refine r_iconst (v := (-1)) dX12_turnsFrom_52 (by decide) ?_
      refine r_icmp_eq (t := 140) dX12_turnsFrom_53 (by decide) (fun qc11 => ?_) (fun qc11 => ?_)
      · replace h := ifp h qc11
        refine r_aload_n dX12_turnsFrom_140 2 rfl ?_
        refine r_dup dX12_turnsFrom_141 rfl ?_
        refine s_getI ok_X12 dX12_turnsFrom_142 (k := 63) (by decide) fl_X12_433 rfl rfl ?_
        refine r_iconst (v := 1) dX12_turnsFrom_145 (by decide) ?_
        refine r_isub dX12_turnsFrom_146 ?_
        refine s_putI ok_X12 dX12_turnsFrom_147 (k := 63) (by decide) fl_X12_433 rfl rfl rfl rfl rfl ?_
        refine r_st (fun σ12 eσ12 => ?_)
        replace h := bnd_at h eσ12
        refine r_aload_n dX12_turnsFrom_150 2 rfl ?_
        refine s_getR (b := 155) ok_X12 dX12_turnsFrom_151 (k := 55) (by decide) fl_X12_101 rfl rfl rfl ?_
        refine r_iload_n dX12_turnsFrom_154 1 rfl ?_
        obtain ⟨qg13, h⟩ := grd_at h
        refine s_iald dX12_turnsFrom_155 rfl (inb_of qg13) ?_
        refine r_aload_n dX12_turnsFrom_156 2 rfl ?_
        refine s_getR (b := 154) ok_X12 dX12_turnsFrom_157 (k := 54) (by decide) fl_X12_98 rfl rfl rfl ?_
        refine r_iload_n dX12_turnsFrom_160 1 rfl ?_
        obtain ⟨qg14, h⟩ := grd_at h
        refine s_iald dX12_turnsFrom_161 rfl (inb_of qg14) ?_
        refine r_icmp_ne (t := 170) dX12_turnsFrom_162 (by decide) (fun qc15 => ?_) (fun qc15 => ?_)
        · replace h := ifn h qc15
          exact ab_E.lo [1, 2] rfl (l_X12_turnsFrom_170 ih hx _ _ h)
        · replace h := ifp h qc15
          refine r_aload_n dX12_turnsFrom_165 2 rfl ?_
          refine r_iload_n dX12_turnsFrom_166 1 rfl ?_
          obtain ⟨σ17, qg16, h⟩ := bd_at h
          refine x_callV0 (Y := mX12_leaves) (d' := 4) dX12_turnsFrom_167 ml_X12_442 yv_X12_leaves (by omega) rfl rfl (by simp [Value.category]) (sR_is rfl rfl) (lc_X12_leaves qg16) ?_
          exact ab_E.lo [1, 2] rfl (l_X12_turnsFrom_170 ih hx _ _ h)
      · replace h := ifn h qc11
        refine r_aload_n dX12_turnsFrom_56 2 rfl ?_
        refine s_getR (b := 158) ok_X12 dX12_turnsFrom_57 (k := 58) (by decide) fl_X12_110 rfl rfl rfl ?_
        refine r_aload_n dX12_turnsFrom_60 2 rfl ?_
        refine s_getI ok_X12 dX12_turnsFrom_61 (k := 63) (by decide) fl_X12_433 rfl rfl ?_
        refine r_iconst (v := 1) dX12_turnsFrom_64 (by decide) ?_
        refine r_isub dX12_turnsFrom_65 ?_
        refine r_iload_n dX12_turnsFrom_66 0 rfl ?_
        refine r_iconst (v := 1) dX12_turnsFrom_67 (by decide) ?_
        refine r_iadd dX12_turnsFrom_68 ?_
        obtain ⟨qg18, h⟩ := grd_at h
        refine s_iast dX12_turnsFrom_69 rfl (inb_of qg18) ?_
        refine r_st (fun σ19 eσ19 => ?_)
        replace h := bnd_at h eσ19
        refine r_aload_n dX12_turnsFrom_70 2 rfl ?_
        refine r_iload_n dX12_turnsFrom_71 1 rfl ?_
        refine r_iload_n dX12_turnsFrom_72 0 rfl ?_
        obtain ⟨rq21, σ22, qg20, h⟩ := bd2_at h
        refine x_callV (Y := mX12_goesBy) (d' := 2) dX12_turnsFrom_73 ml_X12_420 yv_X12_goesBy (by omega) rfl rfl (by simp [Value.category]) (sR_is rfl rfl) (lc_X12_goesBy qg20) ?_
        refine r_istore (lo' := [(4, .int rq21), (3, .int rq10), (2, .int yq7), (0, .ref (ad 90))]) dX12_turnsFrom_76 (by decide) rfl ?_
        refine r_aload_n dX12_turnsFrom_78 3 rfl ?_
        refine s_getR (b := 154) ok_X12 dX12_turnsFrom_79 (k := 54) (by decide) fl_X12_98 rfl rfl rfl ?_
        refine r_iload dX12_turnsFrom_82 0 rfl ?_
        obtain ⟨qg23, h⟩ := grd_at h
        refine s_iald dX12_turnsFrom_84 rfl (inb_of qg23) ?_
        refine r_iconst (v := (-1)) dX12_turnsFrom_85 (by decide) ?_
        refine r_icmp_ne (t := 98) dX12_turnsFrom_86 (by decide) (fun qc24 => ?_) (fun qc24 => ?_)
        · replace h := ifn h qc24
          refine r_aload_n dX12_turnsFrom_98 3 rfl ?_
          refine s_getR (b := 159) ok_X12 dX12_turnsFrom_99 (k := 59) (by decide) fl_X12_113 rfl rfl rfl ?_
          refine r_iload dX12_turnsFrom_102 0 rfl ?_
          obtain ⟨qg25, h⟩ := grd_at h
          refine s_zald dX12_turnsFrom_104 rfl (inb_of qg25) ?_
          refine r_if_eq (t := 137) dX12_turnsFrom_105 (by decide) (fun qc26 => ?_) (fun qc26 => ?_)
          · replace h := ifp h qc26
            refine r_goto (t := 224) dX12_turnsFrom_137 (by decide) ?_
            refine r_goto (t := 15) dX12_turnsFrom_224 (by decide) ?_
            exact ab_E.lo [3] rfl (ih _ h)
          · replace h := ifn h qc26
            refine r_aload_n dX12_turnsFrom_108 3 rfl ?_
            refine s_getR (b := 154) ok_X12 dX12_turnsFrom_109 (k := 54) (by decide) fl_X12_98 rfl rfl rfl ?_
            refine r_iload dX12_turnsFrom_112 0 rfl ?_
            obtain ⟨qg27, h⟩ := grd_at h
            refine s_iald dX12_turnsFrom_114 rfl (inb_of qg27) ?_
            refine r_aload_n dX12_turnsFrom_115 3 rfl ?_
            refine s_getR (b := 155) ok_X12 dX12_turnsFrom_116 (k := 55) (by decide) fl_X12_101 rfl rfl rfl ?_
            refine r_iload_n dX12_turnsFrom_119 2 rfl ?_
            obtain ⟨qg28, h⟩ := grd_at h
            refine s_iald dX12_turnsFrom_120 rfl (inb_of qg28) ?_
            refine r_icmp_ge (t := 137) dX12_turnsFrom_121 (by decide) (fun qc29 => ?_) (fun qc29 => ?_)
            · replace h := ifp h qc29
              refine r_goto (t := 224) dX12_turnsFrom_137 (by decide) ?_
              refine r_goto (t := 15) dX12_turnsFrom_224 (by decide) ?_
              exact ab_E.lo [3] rfl (ih _ h)
            · replace h := ifn h qc29
              refine r_aload_n dX12_turnsFrom_124 3 rfl ?_
              refine s_getR (b := 155) ok_X12 dX12_turnsFrom_125 (k := 55) (by decide) fl_X12_101 rfl rfl rfl ?_
              refine r_iload_n dX12_turnsFrom_128 2 rfl ?_
              refine r_aload_n dX12_turnsFrom_129 3 rfl ?_
              refine s_getR (b := 154) ok_X12 dX12_turnsFrom_130 (k := 54) (by decide) fl_X12_98 rfl rfl rfl ?_
              refine r_iload dX12_turnsFrom_133 0 rfl ?_
              obtain ⟨qg30, h⟩ := grd_at h
              refine s_iald dX12_turnsFrom_135 rfl (inb_of qg30) ?_
              obtain ⟨qg31, h⟩ := grd_at h
              refine s_iast dX12_turnsFrom_136 rfl (inb_of qg31) ?_
              refine r_st (fun σ32 eσ32 => ?_)
              replace h := bnd_at h eσ32
              refine r_goto (t := 224) dX12_turnsFrom_137 (by decide) ?_
              refine r_goto (t := 15) dX12_turnsFrom_224 (by decide) ?_
              exact ab_E.lo [3] rfl (ih _ h)
        · replace h := ifp h qc24
          refine r_aload_n dX12_turnsFrom_89 3 rfl ?_
          refine r_iload dX12_turnsFrom_90 0 rfl ?_
          obtain ⟨σ34, qg33, h⟩ := bd_at h
          refine x_callV0 (Y := mX12_enters) (d' := 1) dX12_turnsFrom_92 ml_X12_439 yv_X12_enters (by omega) rfl rfl (by simp [Value.category]) (sR_is rfl rfl) (lc_X12_enters qg33) ?_
          refine r_goto (t := 137) dX12_turnsFrom_95 (by decide) ?_
          refine r_goto (t := 224) dX12_turnsFrom_137 (by decide) ?_
          refine r_goto (t := 15) dX12_turnsFrom_224 (by decide) ?_
          exact ab_E.lo [3] rfl (ih _ h)
set_option maxRecDepth 8000 in
def L_X12_turnsFrom (F : Nat) (x1 : Int32) (σ : sS) : Option sS := bnd (uI σ 90 62 0) (fun σ1 => bnd (uI σ1 90 63 0) (fun σ2 => bd (L_X12_enters x1 σ2) (fun σ4 => L_X12_turnsFrom_15 F (fun σ5 => some σ5) F σ4)))
set_option maxRecDepth 8000 in
theorem e_X12_turnsFrom {ad : Nat → Nat} {F : Nat} {x1 : Int32} {σ : sS} {z : sS} (h : L_X12_turnsFrom F x1 σ = some z) : ab_E (sR ad) mX12_turnsFrom 5 0 [(0, .ref (ad 90)), (1, .int x1)] [] σ (fun r9 σ9 => r9 = none ∧ σ9 = z) := by
  unfold L_X12_turnsFrom at h
  refine r_aload_n dX12_turnsFrom_0 0 rfl ?_
  refine r_iconst (v := 0) dX12_turnsFrom_1 (by decide) ?_
  refine s_putI ok_X12 dX12_turnsFrom_2 (k := 62) (by decide) fl_X12_430 rfl rfl rfl rfl rfl ?_
  refine r_st (fun σ1 eσ1 => ?_)
  replace h := bnd_at h eσ1
  refine r_aload_n dX12_turnsFrom_5 0 rfl ?_
  refine r_iconst (v := 0) dX12_turnsFrom_6 (by decide) ?_
  refine s_putI ok_X12 dX12_turnsFrom_7 (k := 63) (by decide) fl_X12_433 rfl rfl rfl rfl rfl ?_
  refine r_st (fun σ2 eσ2 => ?_)
  replace h := bnd_at h eσ2
  refine r_aload_n dX12_turnsFrom_10 0 rfl ?_
  refine r_iload_n dX12_turnsFrom_11 1 rfl ?_
  obtain ⟨σ4, qg3, h⟩ := bd_at h
  refine x_callV0 (Y := mX12_enters) (d' := 1) dX12_turnsFrom_12 ml_X12_439 yv_X12_enters (by omega) rfl rfl (by simp [Value.category]) (sR_is rfl rfl) (lc_X12_enters qg3) ?_
  refine ab_E.lo [0] rfl (l_X12_turnsFrom_15 (fun σ5 h => ?_) _ _ h)
  refine r_vret rfl dX12_turnsFrom_227 ?_
  exact lfV h
set_option maxRecDepth 8000 in
theorem lc_X12_turnsFrom {ad : Nat → Nat} {F : Nat} {x1 : Int32} {σ τ : sS} (h : L_X12_turnsFrom F x1 σ = some τ) : ab_X (sR ad) 5 mX12_turnsFrom [.ref (ad 90), .int x1] σ none τ := ab_X.of (by decide) (Nat.le_of_ble_eq_true rfl) (e_X12_turnsFrom h)
