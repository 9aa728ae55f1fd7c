/-! the reference, lifted, 10 -/
set_option maxRecDepth 8000 in
def L_X12_turnsAll_7 (F : Nat) (kx : sS → Option sS) : Nat → Int32 → sS → Option sS
  | 0, _, _ => none
  | n + 1, x1, σ => if (vI σ 90 53) ≤ x1 then (kx σ) else (grd (inb x1 3000) (grd (inb (vI σ 149 x1.toNatClampNeg) 3000) (bnd (uI σ 154 (vI σ 149 x1.toNatClampNeg).toNatClampNeg ((-1))) (fun σ5 => grd (inb x1 3000) (grd (inb (vI σ5 149 x1.toNatClampNeg) 3000) (bnd (uI σ5 159 (vI σ5 149 x1.toNatClampNeg).toNatClampNeg 0) (fun σ8 => L_X12_turnsAll_7 F kx n (x1 + 1) σ8)))))))
set_option maxRecDepth 8000 in
theorem l_X12_turnsAll_7 {ad : Nat → Nat} {F : Nat} {z : sS} {kx : sS → Option sS} (hx : ∀  (σ : sS), kx σ = some z → ab_E (sR ad) mX12_turnsAll 6 45 [(0, .ref (ad 90))] [] σ (fun r9 σ9 => r9 = none ∧ σ9 = z)) : ∀ (n : Nat) (x1 : Int32) (σ : sS), L_X12_turnsAll_7 F kx n x1 σ = some z → ab_E (sR ad) mX12_turnsAll 6 7 [(1, .int x1), (0, .ref (ad 90))] [] σ (fun r9 σ9 => r9 = none ∧ σ9 = z) := by
  intro n
  induction n with
  | zero =>
    intro x1 σ h
    rw [L_X12_turnsAll_7] at h
    cases h
  | succ n ih =>
    intro x1 σ h
    rw [L_X12_turnsAll_7] at h
    refine r_iload_n dX12_turnsAll_7 0 rfl ?_
    refine r_aload_n dX12_turnsAll_8 1 rfl ?_
    refine s_getI ok_X12 dX12_turnsAll_9 (k := 53) (by decide) fl_X12_414 rfl rfl ?_
    refine r_icmp_ge (t := 45) dX12_turnsAll_12 (by decide) (fun qc2 => ?_) (fun qc2 => ?_)
    · replace h := ifp h qc2
      exact ab_E.lo [1] rfl (hx _ h)
    · replace h := ifn h qc2
      refine r_aload_n dX12_turnsAll_15 1 rfl ?_
      refine s_getR (b := 154) ok_X12 dX12_turnsAll_16 (k := 54) (by decide) fl_X12_98 rfl rfl rfl ?_
      refine r_aload_n dX12_turnsAll_19 1 rfl ?_
      refine s_getR (b := 149) ok_X12 dX12_turnsAll_20 (k := 49) (by decide) fl_X12_85 rfl rfl rfl ?_
      refine r_iload_n dX12_turnsAll_23 0 rfl ?_
      obtain ⟨qg3, h⟩ := grd_at h
      refine s_iald dX12_turnsAll_24 rfl (inb_of qg3) ?_
      refine r_iconst (v := (-1)) dX12_turnsAll_25 (by decide) ?_
      obtain ⟨qg4, h⟩ := grd_at h
      refine s_iast dX12_turnsAll_26 rfl (inb_of qg4) ?_
      refine r_st (fun σ5 eσ5 => ?_)
      replace h := bnd_at h eσ5
      refine r_aload_n dX12_turnsAll_27 1 rfl ?_
      refine s_getR (b := 159) ok_X12 dX12_turnsAll_28 (k := 59) (by decide) fl_X12_113 rfl rfl rfl ?_
      refine r_aload_n dX12_turnsAll_31 1 rfl ?_
      refine s_getR (b := 149) ok_X12 dX12_turnsAll_32 (k := 49) (by decide) fl_X12_85 rfl rfl rfl ?_
      refine r_iload_n dX12_turnsAll_35 0 rfl ?_
      obtain ⟨qg6, h⟩ := grd_at h
      refine s_iald dX12_turnsAll_36 rfl (inb_of qg6) ?_
      refine r_iconst (v := 0) dX12_turnsAll_37 (by decide) ?_
      obtain ⟨qg7, h⟩ := grd_at h
      refine s_zast dX12_turnsAll_38 rfl (inb_of qg7) (by decide) ?_
      refine r_st (fun σ8 eσ8 => ?_)
      replace h := bnd_at h eσ8
      refine r_iinc (v := x1 + 1) (lo' := [(1, .int (x1 + 1)), (0, .ref (ad 90))]) dX12_turnsAll_39 0 rfl rfl (by decide) rfl ?_
      refine r_goto (t := 7) dX12_turnsAll_42 (by decide) ?_
      exact ab_E.lo [0, 1] rfl (ih _ _ h)
set_option maxRecDepth 8000 in
def L_X12_turnsAll_47 (F : Nat) (kx : sS → Option sS) : Nat → Int32 → sS → Option sS
  | 0, _, _ => none
  | n + 1, x1, σ => if (vI σ 90 53) ≤ x1 then (kx σ) else (grd (inb x1 3000) (grd (inb (vI σ 149 x1.toNatClampNeg) 3000) (if (vI σ 154 (vI σ 149 x1.toNatClampNeg).toNatClampNeg) = ((-1)) then (grd (inb x1 3000) (bd (L_X12_turnsFrom F (vI σ 149 x1.toNatClampNeg) σ) (fun σ9 => L_X12_turnsAll_47 F kx n (x1 + 1) σ9))) else (L_X12_turnsAll_47 F kx n (x1 + 1) σ))))
set_option maxRecDepth 8000 in
theorem l_X12_turnsAll_47 {ad : Nat → Nat} {F : Nat} {z : sS} {kx : sS → Option sS} (hx : ∀  (σ : sS), kx σ = some z → ab_E (sR ad) mX12_turnsAll 6 86 [] [] σ (fun r9 σ9 => r9 = none ∧ σ9 = z)) : ∀ (n : Nat) (x1 : Int32) (σ : sS), L_X12_turnsAll_47 F kx n x1 σ = some z → ab_E (sR ad) mX12_turnsAll 6 47 [(1, .int x1), (0, .ref (ad 90))] [] σ (fun r9 σ9 => r9 = none ∧ σ9 = z) := by
  intro n
  induction n with
  | zero =>
    intro x1 σ h
    rw [L_X12_turnsAll_47] at h
    cases h
  | succ n ih =>
    intro x1 σ h
    rw [L_X12_turnsAll_47] at h
    refine r_iload_n dX12_turnsAll_47 0 rfl ?_
    refine r_aload_n dX12_turnsAll_48 1 rfl ?_
    refine s_getI ok_X12 dX12_turnsAll_49 (k := 53) (by decide) fl_X12_414 rfl rfl ?_
    refine r_icmp_ge (t := 86) dX12_turnsAll_52 (by decide) (fun qc3 => ?_) (fun qc3 => ?_)
    · replace h := ifp h qc3
      exact ab_E.lo [] rfl (hx _ h)
    · replace h := ifn h qc3
      refine r_aload_n dX12_turnsAll_55 1 rfl ?_
      refine s_getR (b := 154) ok_X12 dX12_turnsAll_56 (k := 54) (by decide) fl_X12_98 rfl rfl rfl ?_
      refine r_aload_n dX12_turnsAll_59 1 rfl ?_
      refine s_getR (b := 149) ok_X12 dX12_turnsAll_60 (k := 49) (by decide) fl_X12_85 rfl rfl rfl ?_
      refine r_iload_n dX12_turnsAll_63 0 rfl ?_
      obtain ⟨qg4, h⟩ := grd_at h
      refine s_iald dX12_turnsAll_64 rfl (inb_of qg4) ?_
      obtain ⟨qg5, h⟩ := grd_at h
      refine s_iald dX12_turnsAll_65 rfl (inb_of qg5) ?_
      refine r_iconst (v := (-1)) dX12_turnsAll_66 (by decide) ?_
      refine r_icmp_ne (t := 80) dX12_turnsAll_67 (by decide) (fun qc6 => ?_) (fun qc6 => ?_)
      · replace h := ifn h qc6
        refine r_iinc (v := x1 + 1) (lo' := [(1, .int (x1 + 1)), (0, .ref (ad 90))]) dX12_turnsAll_80 0 rfl rfl (by decide) rfl ?_
        refine r_goto (t := 47) dX12_turnsAll_83 (by decide) ?_
        exact ab_E.lo [0, 1] rfl (ih _ _ h)
      · replace h := ifp h qc6
        refine r_aload_n dX12_turnsAll_70 1 rfl ?_
        refine r_aload_n dX12_turnsAll_71 1 rfl ?_
        refine s_getR (b := 149) ok_X12 dX12_turnsAll_72 (k := 49) (by decide) fl_X12_85 rfl rfl rfl ?_
        refine r_iload_n dX12_turnsAll_75 0 rfl ?_
        obtain ⟨qg7, h⟩ := grd_at h
        refine s_iald dX12_turnsAll_76 rfl (inb_of qg7) ?_
        obtain ⟨σ9, qg8, h⟩ := bd_at h
        refine x_callV0 (Y := mX12_turnsFrom) (d' := 5) dX12_turnsAll_77 ml_X12_436 yv_X12_turnsFrom (by omega) rfl rfl (by simp [Value.category]) (sR_is rfl rfl) (lc_X12_turnsFrom qg8) ?_
        refine r_iinc (v := x1 + 1) (lo' := [(1, .int (x1 + 1)), (0, .ref (ad 90))]) dX12_turnsAll_80 0 rfl rfl (by decide) rfl ?_
        refine r_goto (t := 47) dX12_turnsAll_83 (by decide) ?_
        exact ab_E.lo [0, 1] rfl (ih _ _ h)
set_option maxRecDepth 8000 in
def L_X12_turnsAll (F : Nat) (σ : sS) : Option sS := bnd (uI σ 90 61 0) (fun σ1 => L_X12_turnsAll_7 F (fun σ2 => L_X12_turnsAll_47 F (fun σ3 => some σ3) F 0 σ2) F 0 σ1)
set_option maxRecDepth 8000 in
theorem e_X12_turnsAll {ad : Nat → Nat} {F : Nat}  {σ : sS} {z : sS} (h : L_X12_turnsAll F σ = some z) : ab_E (sR ad) mX12_turnsAll 6 0 [(0, .ref (ad 90))] [] σ (fun r9 σ9 => r9 = none ∧ σ9 = z) := by
  unfold L_X12_turnsAll at h
  refine r_aload_n dX12_turnsAll_0 0 rfl ?_
  refine r_iconst (v := 0) dX12_turnsAll_1 (by decide) ?_
  refine s_putI ok_X12 dX12_turnsAll_2 (k := 61) (by decide) fl_X12_427 rfl rfl rfl rfl rfl ?_
  refine r_st (fun σ1 eσ1 => ?_)
  replace h := bnd_at h eσ1
  refine r_iconst (v := 0) dX12_turnsAll_5 (by decide) ?_
  refine r_istore_n (lo' := [(1, .int 0), (0, .ref (ad 90))]) dX12_turnsAll_6 (by decide) rfl ?_
  refine ab_E.lo [0, 1] rfl (l_X12_turnsAll_7 (fun σ2 h => ?_) _ _ _ h)
  refine r_iconst (v := 0) dX12_turnsAll_45 (by decide) ?_
  refine r_istore_n (lo' := [(1, .int 0), (0, .ref (ad 90))]) dX12_turnsAll_46 (by decide) rfl ?_
  refine ab_E.lo [0, 1] rfl (l_X12_turnsAll_47 (fun σ3 h => ?_) _ _ _ h)
  refine r_vret rfl dX12_turnsAll_86 ?_
  exact lfV h
set_option maxRecDepth 8000 in
theorem lc_X12_turnsAll {ad : Nat → Nat} {F : Nat}  {σ τ : sS} (h : L_X12_turnsAll F σ = some τ) : ab_X (sR ad) 6 mX12_turnsAll [.ref (ad 90)] σ none τ := ab_X.of (by decide) (Nat.le_of_ble_eq_true rfl) (e_X12_turnsAll h)
set_option maxRecDepth 8000 in
def L_X12_found_6 (F : Nat) (σ : sS) (kx : Option (Int32 × sS)) : Nat → Int32 → Option (Int32 × sS)
  | 0, _ => none
  | n + 1, x1 => if (vI σ 90 53) ≤ x1 then (kx) else (grd (inb x1 3000) (bd (L_X12_isMarked (vI σ 149 x1.toNatClampNeg) σ) (fun rq6 => if rq6 = 0 then (L_X12_found_6 F σ kx n (x1 + 1)) else (grd (inb x1 3000) (grd (inb (vI σ 149 x1.toNatClampNeg) 3000) (if (vI σ 160 (vI σ 149 x1.toNatClampNeg).toNatClampNeg) = 0 then (L_X12_found_6 F σ kx n (x1 + 1)) else (grd (inb x1 3000) (some ((vI σ 149 x1.toNatClampNeg, σ))))))))))
set_option maxRecDepth 8000 in
theorem l_X12_found_6 {ad : Nat → Nat} {F : Nat} {σ : sS} {z : (Int32 × sS)} {kx : Option (Int32 × sS)} (hx : kx  = some z → ab_E (sR ad) mX12_found 7 54 [] [] σ (fun r9 σ9 => r9 = some (.int z.1) ∧ σ9 = z.2)) : ∀ (n : Nat) (x1 : Int32), L_X12_found_6 F σ kx n x1 = some z → ab_E (sR ad) mX12_found 7 6 [(1, .int x1), (0, .ref (ad 90))] [] σ (fun r9 σ9 => r9 = some (.int z.1) ∧ σ9 = z.2) := by
  intro n
  induction n with
  | zero =>
    intro x1 h
    rw [L_X12_found_6] at h
    cases h
  | succ n ih =>
    intro x1 h
    rw [L_X12_found_6] at h
    refine r_iload_n dX12_found_6 0 rfl ?_
    refine r_aload_n dX12_found_7 1 rfl ?_
    refine s_getI ok_X12 dX12_found_8 (k := 53) (by decide) fl_X12_414 rfl rfl ?_
    refine r_icmp_ge (t := 54) dX12_found_11 (by decide) (fun qc3 => ?_) (fun qc3 => ?_)
    · replace h := ifp h qc3
      exact ab_E.lo [] rfl (hx  h)
    · replace h := ifn h qc3
      refine r_aload_n dX12_found_14 1 rfl ?_
      refine r_aload_n dX12_found_15 1 rfl ?_
      refine s_getR (b := 149) ok_X12 dX12_found_16 (k := 49) (by decide) fl_X12_85 rfl rfl rfl ?_
      refine r_iload_n dX12_found_19 0 rfl ?_
      obtain ⟨qg4, h⟩ := grd_at h
      refine s_iald dX12_found_20 rfl (inb_of qg4) ?_
      obtain ⟨rq6, qg5, h⟩ := bd_at h
      refine x_callV (Y := mX12_isMarked) (d' := 2) dX12_found_21 ml_X12_448 yv_X12_isMarked (by omega) rfl rfl (by simp [Value.category]) (sR_is rfl rfl) (lc_X12_isMarked qg5) ?_
      refine r_if_eq (t := 48) dX12_found_24 (by decide) (fun qc7 => ?_) (fun qc7 => ?_)
      · replace h := ifp h qc7
        refine r_iinc (v := x1 + 1) (lo' := [(1, .int (x1 + 1)), (0, .ref (ad 90))]) dX12_found_48 0 rfl rfl (by decide) rfl ?_
        refine r_goto (t := 6) dX12_found_51 (by decide) ?_
        exact ab_E.lo [0, 1] rfl (ih _ h)
      · replace h := ifn h qc7
        refine r_aload_n dX12_found_27 1 rfl ?_
        refine s_getR (b := 160) ok_X12 dX12_found_28 (k := 60) (by decide) fl_X12_116 rfl rfl rfl ?_
        refine r_aload_n dX12_found_31 1 rfl ?_
        refine s_getR (b := 149) ok_X12 dX12_found_32 (k := 49) (by decide) fl_X12_85 rfl rfl rfl ?_
        refine r_iload_n dX12_found_35 0 rfl ?_
        obtain ⟨qg8, h⟩ := grd_at h
        refine s_iald dX12_found_36 rfl (inb_of qg8) ?_
        obtain ⟨qg9, h⟩ := grd_at h
        refine s_zald dX12_found_37 rfl (inb_of qg9) ?_
        refine r_if_eq (t := 48) dX12_found_38 (by decide) (fun qc10 => ?_) (fun qc10 => ?_)
        · replace h := ifp h qc10
          refine r_iinc (v := x1 + 1) (lo' := [(1, .int (x1 + 1)), (0, .ref (ad 90))]) dX12_found_48 0 rfl rfl (by decide) rfl ?_
          refine r_goto (t := 6) dX12_found_51 (by decide) ?_
          exact ab_E.lo [0, 1] rfl (ih _ h)
        · replace h := ifn h qc10
          refine r_aload_n dX12_found_41 1 rfl ?_
          refine s_getR (b := 149) ok_X12 dX12_found_42 (k := 49) (by decide) fl_X12_85 rfl rfl rfl ?_
          refine r_iload_n dX12_found_45 0 rfl ?_
          obtain ⟨qg11, h⟩ := grd_at h
          refine s_iald dX12_found_46 rfl (inb_of qg11) ?_
          refine r_iret rfl dX12_found_47 ?_
          exact lfI h
set_option maxRecDepth 8000 in
def L_X12_found (F : Nat) (σ : sS) : Option (Int32 × sS) := bd (L_X12_turnsAll F σ) (fun σ2 => L_X12_found_6 F σ2 (some (((-1), σ2))) F 0)
set_option maxRecDepth 8000 in
theorem e_X12_found {ad : Nat → Nat} {F : Nat}  {σ : sS} {z : (Int32 × sS)} (h : L_X12_found F σ = some z) : ab_E (sR ad) mX12_found 7 0 [(0, .ref (ad 90))] [] σ (fun r9 σ9 => r9 = some (.int z.1) ∧ σ9 = z.2) := by
  unfold L_X12_found at h
  refine r_aload_n dX12_found_0 0 rfl ?_
  obtain ⟨σ2, qg1, h⟩ := bd_at h
  refine x_callV0 (Y := mX12_turnsAll) (d' := 6) dX12_found_1 ml_X12_445 yv_X12_turnsAll (by omega) rfl rfl (by simp [Value.category]) (sR_is rfl rfl) (lc_X12_turnsAll qg1) ?_
  refine r_iconst (v := 0) dX12_found_4 (by decide) ?_
  refine r_istore_n (lo' := [(1, .int 0), (0, .ref (ad 90))]) dX12_found_5 (by decide) rfl ?_
  refine ab_E.lo [0, 1] rfl (l_X12_found_6 (fun h => ?_) _ _ h)
  refine r_iconst (v := (-1)) dX12_found_54 (by decide) ?_
  refine r_iret rfl dX12_found_55 ?_
  exact lfI h
set_option maxRecDepth 8000 in
theorem lc_X12_found {ad : Nat → Nat} {F : Nat}  {σ τ : sS} {r : Int32} (h : L_X12_found F σ = some (r, τ)) : ab_X (sR ad) 7 mX12_found [.ref (ad 90)] σ (some (.int r)) τ := ab_X.of (by decide) (Nat.le_of_ble_eq_true rfl) (e_X12_found h)
set_option maxRecDepth 8000 in
def L_X12_begunNodes_2 (F : Nat) (kx : sS → Option sS) : Nat → Int32 → sS → Option sS
  | 0, _, _ => none
  | n + 1, x1, σ => if (vI σ 90 33) ≤ x1 then (kx σ) else (if x1 = 0 then (grd (inb x1 300) (bnd (uI σ 164 x1.toNatClampNeg 1) (fun σ6 => L_X12_begunNodes_2 F kx n (x1 + 1) σ6))) else (grd (inb x1 300) (bnd (uI σ 164 x1.toNatClampNeg 0) (fun σ4 => L_X12_begunNodes_2 F kx n (x1 + 1) σ4))))
set_option maxRecDepth 8000 in
theorem l_X12_begunNodes_2 {ad : Nat → Nat} {F : Nat} {z : sS} {kx : sS → Option sS} (hx : ∀  (σ : sS), kx σ = some z → ab_E (sR ad) mX12_begunNodes 2 31 [(0, .ref (ad 90))] [] σ (fun r9 σ9 => r9 = none ∧ σ9 = z)) : ∀ (n : Nat) (x1 : Int32) (σ : sS), L_X12_begunNodes_2 F kx n x1 σ = some z → ab_E (sR ad) mX12_begunNodes 2 2 [(1, .int x1), (0, .ref (ad 90))] [] σ (fun r9 σ9 => r9 = none ∧ σ9 = z) := by
  intro n
  induction n with
  | zero =>
    intro x1 σ h
    rw [L_X12_begunNodes_2] at h
    cases h
  | succ n ih =>
    intro x1 σ h
    rw [L_X12_begunNodes_2] at h
    refine r_iload_n dX12_begunNodes_2 0 rfl ?_
    refine r_aload_n dX12_begunNodes_3 1 rfl ?_
    refine s_getI ok_X12 dX12_begunNodes_4 (k := 33) (by decide) fl_X12_334 rfl rfl ?_
    refine r_icmp_ge (t := 31) dX12_begunNodes_7 (by decide) (fun qc1 => ?_) (fun qc1 => ?_)
    · replace h := ifp h qc1
      exact ab_E.lo [1] rfl (hx _ h)
    · replace h := ifn h qc1
      refine r_aload_n dX12_begunNodes_10 1 rfl ?_
      refine s_getR (b := 164) ok_X12 dX12_begunNodes_11 (k := 64) (by decide) fl_X12_119 rfl rfl rfl ?_
      refine r_iload_n dX12_begunNodes_14 0 rfl ?_
      refine r_iload_n dX12_begunNodes_15 0 rfl ?_
      refine r_if_ne (t := 23) dX12_begunNodes_16 (by decide) (fun qc2 => ?_) (fun qc2 => ?_)
      · replace h := ifn h qc2
        refine r_iconst (v := 0) dX12_begunNodes_23 (by decide) ?_
        obtain ⟨qg3, h⟩ := grd_at h
        refine s_zast dX12_begunNodes_24 rfl (inb_of qg3) (by decide) ?_
        refine r_st (fun σ4 eσ4 => ?_)
        replace h := bnd_at h eσ4
        refine r_iinc (v := x1 + 1) (lo' := [(1, .int (x1 + 1)), (0, .ref (ad 90))]) dX12_begunNodes_25 0 rfl rfl (by decide) rfl ?_
        refine r_goto (t := 2) dX12_begunNodes_28 (by decide) ?_
        exact ab_E.lo [0, 1] rfl (ih _ _ h)
      · replace h := ifp h qc2
        refine r_iconst (v := 1) dX12_begunNodes_19 (by decide) ?_
        refine r_goto (t := 24) dX12_begunNodes_20 (by decide) ?_
        obtain ⟨qg5, h⟩ := grd_at h
        refine s_zast dX12_begunNodes_24 rfl (inb_of qg5) (by decide) ?_
        refine r_st (fun σ6 eσ6 => ?_)
        replace h := bnd_at h eσ6
        refine r_iinc (v := x1 + 1) (lo' := [(1, .int (x1 + 1)), (0, .ref (ad 90))]) dX12_begunNodes_25 0 rfl rfl (by decide) rfl ?_
        refine r_goto (t := 2) dX12_begunNodes_28 (by decide) ?_
        exact ab_E.lo [0, 1] rfl (ih _ _ h)
set_option maxRecDepth 8000 in
def L_X12_begunNodes_43 (F : Nat) (x1 : Int32) (kx : sS → Option sS) : Nat → Int32 → sS → Option sS
  | 0, _, _ => none
  | n + 1, x2, σ => if (vI σ 90 33) ≤ x2 then (kx σ) else (grd (inb x2 300) (bnd (uI σ 165 x2.toNatClampNeg 0) (fun σ5 => L_X12_begunNodes_43 F x1 kx n (x2 + 1) σ5)))
set_option maxRecDepth 8000 in
theorem l_X12_begunNodes_43 {ad : Nat → Nat} {F : Nat} {x1 : Int32} {z : sS} {kx : sS → Option sS} (hx : ∀  (σ : sS), kx σ = some z → ab_E (sR ad) mX12_begunNodes 2 64 [(1, .int x1), (0, .ref (ad 90))] [] σ (fun r9 σ9 => r9 = none ∧ σ9 = z)) : ∀ (n : Nat) (x2 : Int32) (σ : sS), L_X12_begunNodes_43 F x1 kx n x2 σ = some z → ab_E (sR ad) mX12_begunNodes 2 43 [(2, .int x2), (1, .int x1), (0, .ref (ad 90))] [] σ (fun r9 σ9 => r9 = none ∧ σ9 = z) := by
  intro n
  induction n with
  | zero =>
    intro x2 σ h
    rw [L_X12_begunNodes_43] at h
    cases h
  | succ n ih =>
    intro x2 σ h
    rw [L_X12_begunNodes_43] at h
    refine r_iload_n dX12_begunNodes_43 0 rfl ?_
    refine r_aload_n dX12_begunNodes_44 2 rfl ?_
    refine s_getI ok_X12 dX12_begunNodes_45 (k := 33) (by decide) fl_X12_334 rfl rfl ?_
    refine r_icmp_ge (t := 64) dX12_begunNodes_48 (by decide) (fun qc3 => ?_) (fun qc3 => ?_)
    · replace h := ifp h qc3
      exact ab_E.lo [1, 2] rfl (hx _ h)
    · replace h := ifn h qc3
      refine r_aload_n dX12_begunNodes_51 2 rfl ?_
      refine s_getR (b := 165) ok_X12 dX12_begunNodes_52 (k := 65) (by decide) fl_X12_122 rfl rfl rfl ?_
      refine r_iload_n dX12_begunNodes_55 0 rfl ?_
      refine r_iconst (v := 0) dX12_begunNodes_56 (by decide) ?_
      obtain ⟨qg4, h⟩ := grd_at h
      refine s_zast dX12_begunNodes_57 rfl (inb_of qg4) (by decide) ?_
      refine r_st (fun σ5 eσ5 => ?_)
      replace h := bnd_at h eσ5
      refine r_iinc (v := x2 + 1) (lo' := [(2, .int (x2 + 1)), (1, .int x1), (0, .ref (ad 90))]) dX12_begunNodes_58 0 rfl rfl (by decide) rfl ?_
      refine r_goto (t := 43) dX12_begunNodes_61 (by decide) ?_
      exact ab_E.lo [0, 1, 2] rfl (ih _ _ h)
set_option maxRecDepth 8000 in
def L_X12_begunNodes_76 (F : Nat) (x1 : Int32) (x2 : Int32) (kx : sS → Option sS) : Nat → Int32 → sS → Option sS
  | 0, _, _ => none
  | n + 1, x3, σ => grd (inb x2 300) (if (vI σ 164 x2.toNatClampNeg) = 0 then (kx σ) else (grd (inb x1 10) (bd (L_X12_edgesFrom x2 (vI σ 139 x1.toNatClampNeg) σ) (fun rq9 => if rq9 ≤ x3 then (kx σ) else (grd (inb x1 10) (bd (L_X12_edgeAt x2 (vI σ 139 x1.toNatClampNeg) x3 σ) (fun rq13 => grd (inb rq13 300) (bnd (uI σ 165 rq13.toNatClampNeg 1) (fun σ15 => L_X12_begunNodes_76 F x1 x2 kx n (x3 + 1) σ15)))))))))
set_option maxRecDepth 8000 in
theorem l_X12_begunNodes_76 {ad : Nat → Nat} {F : Nat} {x1 : Int32} {x2 : Int32} {z : sS} {kx : sS → Option sS} (hx : ∀  (σ : sS), kx σ = some z → ab_E (sR ad) mX12_begunNodes 2 124 [(1, .int x1), (2, .int x2), (0, .ref (ad 90))] [] σ (fun r9 σ9 => r9 = none ∧ σ9 = z)) : ∀ (n : Nat) (x3 : Int32) (σ : sS), L_X12_begunNodes_76 F x1 x2 kx n x3 σ = some z → ab_E (sR ad) mX12_begunNodes 2 76 [(3, .int x3), (1, .int x1), (2, .int x2), (0, .ref (ad 90))] [] σ (fun r9 σ9 => r9 = none ∧ σ9 = z) := by
  intro n
  induction n with
  | zero =>
    intro x3 σ h
    rw [L_X12_begunNodes_76] at h
    cases h
  | succ n ih =>
    intro x3 σ h
    rw [L_X12_begunNodes_76] at h
    refine r_aload_n dX12_begunNodes_76 3 rfl ?_
    refine s_getR (b := 164) ok_X12 dX12_begunNodes_77 (k := 64) (by decide) fl_X12_119 rfl rfl rfl ?_
    refine r_iload_n dX12_begunNodes_80 2 rfl ?_
    obtain ⟨qg5, h⟩ := grd_at h
    refine s_zald dX12_begunNodes_81 rfl (inb_of qg5) ?_
    refine r_if_eq (t := 124) dX12_begunNodes_82 (by decide) (fun qc6 => ?_) (fun qc6 => ?_)
    · replace h := ifp h qc6
      exact ab_E.lo [1, 2, 3] rfl (hx _ h)
    · replace h := ifn h qc6
      refine r_iload_n dX12_begunNodes_85 0 rfl ?_
      refine r_aload_n dX12_begunNodes_86 3 rfl ?_
      refine r_iload_n dX12_begunNodes_87 2 rfl ?_
      refine r_aload_n dX12_begunNodes_88 3 rfl ?_
      refine s_getR (b := 139) ok_X12 dX12_begunNodes_89 (k := 39) (by decide) fl_X12_67 rfl rfl rfl ?_
      refine r_iload_n dX12_begunNodes_92 1 rfl ?_
      obtain ⟨qg7, h⟩ := grd_at h
      refine s_iald dX12_begunNodes_93 rfl (inb_of qg7) ?_
      obtain ⟨rq9, qg8, h⟩ := bd_at h
      refine x_callV (Y := mX12_edgesFrom) (d' := 1) dX12_begunNodes_94 ml_X12_387 yv_X12_edgesFrom (by omega) rfl rfl (by simp [Value.category]) (sR_is rfl rfl) (lc_X12_edgesFrom qg8) ?_
      refine r_icmp_ge (t := 124) dX12_begunNodes_97 (by decide) (fun qc10 => ?_) (fun qc10 => ?_)
      · replace h := ifp h qc10
        exact ab_E.lo [1, 2, 3] rfl (hx _ h)
      · replace h := ifn h qc10
        refine r_aload_n dX12_begunNodes_100 3 rfl ?_
        refine s_getR (b := 165) ok_X12 dX12_begunNodes_101 (k := 65) (by decide) fl_X12_122 rfl rfl rfl ?_
        refine r_aload_n dX12_begunNodes_104 3 rfl ?_
        refine r_iload_n dX12_begunNodes_105 2 rfl ?_
        refine r_aload_n dX12_begunNodes_106 3 rfl ?_
        refine s_getR (b := 139) ok_X12 dX12_begunNodes_107 (k := 39) (by decide) fl_X12_67 rfl rfl rfl ?_
        refine r_iload_n dX12_begunNodes_110 1 rfl ?_
        obtain ⟨qg11, h⟩ := grd_at h
        refine s_iald dX12_begunNodes_111 rfl (inb_of qg11) ?_
        refine r_iload_n dX12_begunNodes_112 0 rfl ?_
        obtain ⟨rq13, qg12, h⟩ := bd_at h
        refine x_callV (Y := mX12_edgeAt) (d' := 1) dX12_begunNodes_113 ml_X12_399 yv_X12_edgeAt (by omega) rfl rfl (by simp [Value.category]) (sR_is rfl rfl) (lc_X12_edgeAt qg12) ?_
        refine r_iconst (v := 1) dX12_begunNodes_116 (by decide) ?_
        obtain ⟨qg14, h⟩ := grd_at h
        refine s_zast dX12_begunNodes_117 rfl (inb_of qg14) (by decide) ?_
        refine r_st (fun σ15 eσ15 => ?_)
        replace h := bnd_at h eσ15
        refine r_iinc (v := x3 + 1) (lo' := [(3, .int (x3 + 1)), (1, .int x1), (2, .int x2), (0, .ref (ad 90))]) dX12_begunNodes_118 0 rfl rfl (by decide) rfl ?_
        refine r_goto (t := 76) dX12_begunNodes_121 (by decide) ?_
        exact ab_E.lo [0, 1, 2, 3] rfl (ih _ _ h)
set_option maxRecDepth 8000 in
def L_X12_begunNodes_66 (F : Nat) (x1 : Int32) (kx : sS → Option sS) : Nat → Int32 → sS → Option sS
  | 0, _, _ => none
  | n + 1, x2, σ => if (vI σ 90 33) ≤ x2 then (kx σ) else (L_X12_begunNodes_76 F x1 x2 (fun σ5 => L_X12_begunNodes_66 F x1 kx n (x2 + 1) σ5) F 0 σ)
set_option maxRecDepth 8000 in
theorem l_X12_begunNodes_66 {ad : Nat → Nat} {F : Nat} {x1 : Int32} {z : sS} {kx : sS → Option sS} (hx : ∀  (σ : sS), kx σ = some z → ab_E (sR ad) mX12_begunNodes 2 130 [(1, .int x1), (0, .ref (ad 90))] [] σ (fun r9 σ9 => r9 = none ∧ σ9 = z)) : ∀ (n : Nat) (x2 : Int32) (σ : sS), L_X12_begunNodes_66 F x1 kx n x2 σ = some z → ab_E (sR ad) mX12_begunNodes 2 66 [(2, .int x2), (1, .int x1), (0, .ref (ad 90))] [] σ (fun r9 σ9 => r9 = none ∧ σ9 = z) := by
  intro n
  induction n with
  | zero =>
    intro x2 σ h
    rw [L_X12_begunNodes_66] at h
    cases h
  | succ n ih =>
    intro x2 σ h
    rw [L_X12_begunNodes_66] at h
    refine r_iload_n dX12_begunNodes_66 0 rfl ?_
    refine r_aload_n dX12_begunNodes_67 2 rfl ?_
    refine s_getI ok_X12 dX12_begunNodes_68 (k := 33) (by decide) fl_X12_334 rfl rfl ?_
    refine r_icmp_ge (t := 130) dX12_begunNodes_71 (by decide) (fun qc4 => ?_) (fun qc4 => ?_)
    · replace h := ifp h qc4
      exact ab_E.lo [1, 2] rfl (hx _ h)
    · replace h := ifn h qc4
      refine r_iconst (v := 0) dX12_begunNodes_74 (by decide) ?_
      refine r_istore_n (lo' := [(3, .int 0), (2, .int x2), (1, .int x1), (0, .ref (ad 90))]) dX12_begunNodes_75 (by decide) rfl ?_
      refine ab_E.lo [0, 2, 1, 3] rfl (l_X12_begunNodes_76 (fun σ5 h => ?_) _ _ _ h)
      refine r_iinc (v := x2 + 1) (lo' := [(2, .int (x2 + 1)), (1, .int x1), (0, .ref (ad 90))]) dX12_begunNodes_124 1 rfl rfl (by decide) rfl ?_
      refine r_goto (t := 66) dX12_begunNodes_127 (by decide) ?_
      exact ab_E.lo [0, 1, 2] rfl (ih _ _ h)
set_option maxRecDepth 8000 in
def L_X12_begunNodes_132 (F : Nat) (x1 : Int32) (kx : sS → Option sS) : Nat → Int32 → sS → Option sS
  | 0, _, _ => none
  | n + 1, x2, σ => if (vI σ 90 33) ≤ x2 then (kx σ) else (grd (inb x2 300) (grd (inb x2 300) (grd (is01 (vI σ 165 x2.toNatClampNeg)) (bnd (uI σ 164 x2.toNatClampNeg (vI σ 165 x2.toNatClampNeg)) (fun σ9 => L_X12_begunNodes_132 F x1 kx n (x2 + 1) σ9)))))
set_option maxRecDepth 8000 in
theorem l_X12_begunNodes_132 {ad : Nat → Nat} {F : Nat} {x1 : Int32} {z : sS} {kx : sS → Option sS} (hx : ∀  (σ : sS), kx σ = some z → ab_E (sR ad) mX12_begunNodes 2 158 [(1, .int x1), (0, .ref (ad 90))] [] σ (fun r9 σ9 => r9 = none ∧ σ9 = z)) : ∀ (n : Nat) (x2 : Int32) (σ : sS), L_X12_begunNodes_132 F x1 kx n x2 σ = some z → ab_E (sR ad) mX12_begunNodes 2 132 [(2, .int x2), (1, .int x1), (0, .ref (ad 90))] [] σ (fun r9 σ9 => r9 = none ∧ σ9 = z) := by
  intro n
  induction n with
  | zero =>
    intro x2 σ h
    rw [L_X12_begunNodes_132] at h
    cases h
  | succ n ih =>
    intro x2 σ h
    rw [L_X12_begunNodes_132] at h
    refine r_iload_n dX12_begunNodes_132 0 rfl ?_
    refine r_aload_n dX12_begunNodes_133 2 rfl ?_
    refine s_getI ok_X12 dX12_begunNodes_134 (k := 33) (by decide) fl_X12_334 rfl rfl ?_
    refine r_icmp_ge (t := 158) dX12_begunNodes_137 (by decide) (fun qc5 => ?_) (fun qc5 => ?_)
    · replace h := ifp h qc5
      exact ab_E.lo [1, 2] rfl (hx _ h)
    · replace h := ifn h qc5
      refine r_aload_n dX12_begunNodes_140 2 rfl ?_
      refine s_getR (b := 164) ok_X12 dX12_begunNodes_141 (k := 64) (by decide) fl_X12_119 rfl rfl rfl ?_
      refine r_iload_n dX12_begunNodes_144 0 rfl ?_
      refine r_aload_n dX12_begunNodes_145 2 rfl ?_
      refine s_getR (b := 165) ok_X12 dX12_begunNodes_146 (k := 65) (by decide) fl_X12_122 rfl rfl rfl ?_
      refine r_iload_n dX12_begunNodes_149 0 rfl ?_
      obtain ⟨qg6, h⟩ := grd_at h
      refine s_zald dX12_begunNodes_150 rfl (inb_of qg6) ?_
      obtain ⟨qg7, h⟩ := grd_at h
      obtain ⟨qg8, h⟩ := grd_at h
      refine s_zast dX12_begunNodes_151 rfl (inb_of qg7) (vnar01 qg8) ?_
      refine r_st (fun σ9 eσ9 => ?_)
      replace h := bnd_at h eσ9
      refine r_iinc (v := x2 + 1) (lo' := [(2, .int (x2 + 1)), (1, .int x1), (0, .ref (ad 90))]) dX12_begunNodes_152 0 rfl rfl (by decide) rfl ?_
      refine r_goto (t := 132) dX12_begunNodes_155 (by decide) ?_
      exact ab_E.lo [0, 1, 2] rfl (ih _ _ h)
set_option maxRecDepth 8000 in
def L_X12_begunNodes_33 (F : Nat) (kx : sS → Option sS) : Nat → Int32 → sS → Option sS
  | 0, _, _ => none
  | n + 1, x1, σ => if (vI σ 90 41) ≤ x1 then (kx σ) else (L_X12_begunNodes_43 F x1 (fun σ3 => L_X12_begunNodes_66 F x1 (fun σ4 => L_X12_begunNodes_132 F x1 (fun σ5 => L_X12_begunNodes_33 F kx n (x1 + 1) σ5) F 0 σ4) F 0 σ3) F 0 σ)
set_option maxRecDepth 8000 in
theorem l_X12_begunNodes_33 {ad : Nat → Nat} {F : Nat} {z : sS} {kx : sS → Option sS} (hx : ∀  (σ : sS), kx σ = some z → ab_E (sR ad) mX12_begunNodes 2 164 [(0, .ref (ad 90))] [] σ (fun r9 σ9 => r9 = none ∧ σ9 = z)) : ∀ (n : Nat) (x1 : Int32) (σ : sS), L_X12_begunNodes_33 F kx n x1 σ = some z → ab_E (sR ad) mX12_begunNodes 2 33 [(1, .int x1), (0, .ref (ad 90))] [] σ (fun r9 σ9 => r9 = none ∧ σ9 = z) := by
  intro n
  induction n with
  | zero =>
    intro x1 σ h
    rw [L_X12_begunNodes_33] at h
    cases h
  | succ n ih =>
    intro x1 σ h
    rw [L_X12_begunNodes_33] at h
    refine r_iload_n dX12_begunNodes_33 0 rfl ?_
    refine r_aload_n dX12_begunNodes_34 1 rfl ?_
    refine s_getI ok_X12 dX12_begunNodes_35 (k := 41) (by decide) fl_X12_466 rfl rfl ?_
    refine r_icmp_ge (t := 164) dX12_begunNodes_38 (by decide) (fun qc2 => ?_) (fun qc2 => ?_)
    · replace h := ifp h qc2
      exact ab_E.lo [1] rfl (hx _ h)
    · replace h := ifn h qc2
      refine r_iconst (v := 0) dX12_begunNodes_41 (by decide) ?_
      refine r_istore_n (lo' := [(2, .int 0), (1, .int x1), (0, .ref (ad 90))]) dX12_begunNodes_42 (by decide) rfl ?_
      refine ab_E.lo [0, 1, 2] rfl (l_X12_begunNodes_43 (fun σ3 h => ?_) _ _ _ h)
      refine r_iconst (v := 0) dX12_begunNodes_64 (by decide) ?_
      refine r_istore_n (lo' := [(2, .int 0), (1, .int x1), (0, .ref (ad 90))]) dX12_begunNodes_65 (by decide) rfl ?_
      refine ab_E.lo [0, 1, 2] rfl (l_X12_begunNodes_66 (fun σ4 h => ?_) _ _ _ h)
      refine r_iconst (v := 0) dX12_begunNodes_130 (by decide) ?_
      refine r_istore_n (lo' := [(2, .int 0), (1, .int x1), (0, .ref (ad 90))]) dX12_begunNodes_131 (by decide) rfl ?_
      refine ab_E.lo [0, 1, 2] rfl (l_X12_begunNodes_132 (fun σ5 h => ?_) _ _ _ h)
      refine r_iinc (v := x1 + 1) (lo' := [(1, .int (x1 + 1)), (0, .ref (ad 90))]) dX12_begunNodes_158 0 rfl rfl (by decide) rfl ?_
      refine r_goto (t := 33) dX12_begunNodes_161 (by decide) ?_
      exact ab_E.lo [0, 1] rfl (ih _ _ h)
set_option maxRecDepth 8000 in
def L_X12_begunNodes_171 (F : Nat) (kx : sS → Option sS) : Nat → Int32 → sS → Option sS
  | 0, _, _ => none
  | n + 1, x1, σ => if (vI σ 90 33) ≤ x1 then (kx σ) else (grd (inb x1 300) (if (vI σ 164 x1.toNatClampNeg) = 0 then (L_X12_begunNodes_171 F kx n (x1 + 1) σ) else (bd (L_X12_meets ((10 : Int32) * x1) (-1) (-1) σ) (fun σ8 => L_X12_begunNodes_171 F kx n (x1 + 1) σ8))))
set_option maxRecDepth 8000 in
theorem l_X12_begunNodes_171 {ad : Nat → Nat} {F : Nat} {z : sS} {kx : sS → Option sS} (hx : ∀  (σ : sS), kx σ = some z → ab_E (sR ad) mX12_begunNodes 2 204 [] [] σ (fun r9 σ9 => r9 = none ∧ σ9 = z)) : ∀ (n : Nat) (x1 : Int32) (σ : sS), L_X12_begunNodes_171 F kx n x1 σ = some z → ab_E (sR ad) mX12_begunNodes 2 171 [(1, .int x1), (0, .ref (ad 90))] [] σ (fun r9 σ9 => r9 = none ∧ σ9 = z) := by
  intro n
  induction n with
  | zero =>
    intro x1 σ h
    rw [L_X12_begunNodes_171] at h
    cases h
  | succ n ih =>
    intro x1 σ h
    rw [L_X12_begunNodes_171] at h
    refine r_iload_n dX12_begunNodes_171 0 rfl ?_
    refine r_aload_n dX12_begunNodes_172 1 rfl ?_
    refine s_getI ok_X12 dX12_begunNodes_173 (k := 33) (by decide) fl_X12_334 rfl rfl ?_
    refine r_icmp_ge (t := 204) dX12_begunNodes_176 (by decide) (fun qc4 => ?_) (fun qc4 => ?_)
    · replace h := ifp h qc4
      exact ab_E.lo [] rfl (hx _ h)
    · replace h := ifn h qc4
      refine r_aload_n dX12_begunNodes_179 1 rfl ?_
      refine s_getR (b := 164) ok_X12 dX12_begunNodes_180 (k := 64) (by decide) fl_X12_119 rfl rfl rfl ?_
      refine r_iload_n dX12_begunNodes_183 0 rfl ?_
      obtain ⟨qg5, h⟩ := grd_at h
      refine s_zald dX12_begunNodes_184 rfl (inb_of qg5) ?_
      refine r_if_eq (t := 198) dX12_begunNodes_185 (by decide) (fun qc6 => ?_) (fun qc6 => ?_)
      · replace h := ifp h qc6
        refine r_iinc (v := x1 + 1) (lo' := [(1, .int (x1 + 1)), (0, .ref (ad 90))]) dX12_begunNodes_198 0 rfl rfl (by decide) rfl ?_
        refine r_goto (t := 171) dX12_begunNodes_201 (by decide) ?_
        exact ab_E.lo [0, 1] rfl (ih _ _ h)
      · replace h := ifn h qc6
        refine r_aload_n dX12_begunNodes_188 1 rfl ?_
        refine r_bipush (v := 10) dX12_begunNodes_189 (by decide) ?_
        refine r_iload_n dX12_begunNodes_191 0 rfl ?_
        refine r_imul dX12_begunNodes_192 ?_
        refine r_iconst (v := (-1)) dX12_begunNodes_193 (by decide) ?_
        refine r_iconst (v := (-1)) dX12_begunNodes_194 (by decide) ?_
        obtain ⟨σ8, qg7, h⟩ := bd_at h
        refine x_callV0 (Y := mX12_meets) (d' := 1) dX12_begunNodes_195 ml_X12_423 yv_X12_meets (by omega) rfl rfl (by simp [Value.category]) (sR_is rfl rfl) (lc_X12_meets qg7) ?_
        refine r_iinc (v := x1 + 1) (lo' := [(1, .int (x1 + 1)), (0, .ref (ad 90))]) dX12_begunNodes_198 0 rfl rfl (by decide) rfl ?_
        refine r_goto (t := 171) dX12_begunNodes_201 (by decide) ?_
        exact ab_E.lo [0, 1] rfl (ih _ _ h)
set_option maxRecDepth 8000 in
def L_X12_begunNodes (F : Nat) (σ : sS) : Option sS := L_X12_begunNodes_2 F (fun σ1 => L_X12_begunNodes_33 F (fun σ2 => bnd (uI σ2 90 37 4) (fun σ3 => L_X12_begunNodes_171 F (fun σ4 => some σ4) F 0 σ3)) F 0 σ1) F 0 σ
set_option maxRecDepth 8000 in
theorem e_X12_begunNodes {ad : Nat → Nat} {F : Nat}  {σ : sS} {z : sS} (h : L_X12_begunNodes F σ = some z) : ab_E (sR ad) mX12_begunNodes 2 0 [(0, .ref (ad 90))] [] σ (fun r9 σ9 => r9 = none ∧ σ9 = z) := by
  unfold L_X12_begunNodes at h
  refine r_iconst (v := 0) dX12_begunNodes_0 (by decide) ?_
  refine r_istore_n (lo' := [(1, .int 0), (0, .ref (ad 90))]) dX12_begunNodes_1 (by decide) rfl ?_
  refine ab_E.lo [0, 1] rfl (l_X12_begunNodes_2 (fun σ1 h => ?_) _ _ _ h)
  refine r_iconst (v := 0) dX12_begunNodes_31 (by decide) ?_
  refine r_istore_n (lo' := [(1, .int 0), (0, .ref (ad 90))]) dX12_begunNodes_32 (by decide) rfl ?_
  refine ab_E.lo [0, 1] rfl (l_X12_begunNodes_33 (fun σ2 h => ?_) _ _ _ h)
  refine r_aload_n dX12_begunNodes_164 0 rfl ?_
  refine r_iconst (v := 4) dX12_begunNodes_165 (by decide) ?_
  refine s_putI ok_X12 dX12_begunNodes_166 (k := 37) (by decide) fl_X12_393 rfl rfl rfl rfl rfl ?_
  refine r_st (fun σ3 eσ3 => ?_)
  replace h := bnd_at h eσ3
  refine r_iconst (v := 0) dX12_begunNodes_169 (by decide) ?_
  refine r_istore_n (lo' := [(1, .int 0), (0, .ref (ad 90))]) dX12_begunNodes_170 (by decide) rfl ?_
  refine ab_E.lo [0, 1] rfl (l_X12_begunNodes_171 (fun σ4 h => ?_) _ _ _ h)
  refine r_vret rfl dX12_begunNodes_204 ?_
  exact lfV h
set_option maxRecDepth 8000 in
theorem lc_X12_begunNodes {ad : Nat → Nat} {F : Nat}  {σ τ : sS} (h : L_X12_begunNodes F σ = some τ) : ab_X (sR ad) 2 mX12_begunNodes [.ref (ad 90)] σ none τ := ab_X.of (by decide) (Nat.le_of_ble_eq_true rfl) (e_X12_begunNodes h)
set_option maxRecDepth 8000 in
def L_X12_begunStates_9 (F : Nat) (x1 : Int32) (σ : sS) (kx : Int32 → Option sS) : Nat → Int32 → Int32 → Option sS
  | 0, _, _ => none
  | n + 1, x2, x3 => if (vI σ 90 41) ≤ x3 then (kx x2) else (grd (inb x3 10) (bd (L_X12_afterOf F x1 x2 (vI σ 139 x3.toNatClampNeg) σ) (fun rq6 => L_X12_begunStates_9 F x1 σ kx n rq6 (x3 + 1))))
set_option maxRecDepth 8000 in
theorem l_X12_begunStates_9 {ad : Nat → Nat} {F : Nat} {x1 : Int32} {σ : sS} {z : sS} {kx : Int32 → Option sS} (hx : ∀ (x2 : Int32), kx x2 = some z → ab_E (sR ad) mX12_begunStates 3 36 [(2, .int x2), (0, .ref (ad 90))] [] σ (fun r9 σ9 => r9 = none ∧ σ9 = z)) : ∀ (n : Nat) (x2 : Int32) (x3 : Int32), L_X12_begunStates_9 F x1 σ kx n x2 x3 = some z → ab_E (sR ad) mX12_begunStates 3 9 [(2, .int x2), (3, .int x3), (1, .int x1), (0, .ref (ad 90))] [] σ (fun r9 σ9 => r9 = none ∧ σ9 = z) := by
  intro n
  induction n with
  | zero =>
    intro x2 x3 h
    rw [L_X12_begunStates_9] at h
    cases h
  | succ n ih =>
    intro x2 x3 h
    rw [L_X12_begunStates_9] at h
    refine r_iload_n dX12_begunStates_9 1 rfl ?_
    refine r_aload_n dX12_begunStates_10 3 rfl ?_
    refine s_getI ok_X12 dX12_begunStates_11 (k := 41) (by decide) fl_X12_466 rfl rfl ?_
    refine r_icmp_ge (t := 36) dX12_begunStates_14 (by decide) (fun qc3 => ?_) (fun qc3 => ?_)
    · replace h := ifp h qc3
      exact ab_E.lo [0, 3] rfl (hx _ h)
    · replace h := ifn h qc3
      refine r_aload_n dX12_begunStates_17 3 rfl ?_
      refine r_iload_n dX12_begunStates_18 2 rfl ?_
      refine r_iload_n dX12_begunStates_19 0 rfl ?_
      refine r_aload_n dX12_begunStates_20 3 rfl ?_
      refine s_getR (b := 139) ok_X12 dX12_begunStates_21 (k := 39) (by decide) fl_X12_67 rfl rfl rfl ?_
      refine r_iload_n dX12_begunStates_24 1 rfl ?_
      obtain ⟨qg4, h⟩ := grd_at h
      refine s_iald dX12_begunStates_25 rfl (inb_of qg4) ?_
      obtain ⟨rq6, qg5, h⟩ := bd_at h
      refine x_callV (Y := mX12_afterOf) (d' := 2) dX12_begunStates_26 ml_X12_316 yv_X12_afterOf (by omega) rfl rfl (by simp [Value.category]) (sR_is rfl rfl) (lc_X12_afterOf qg5) ?_
      refine r_istore_n (lo' := [(2, .int rq6), (3, .int x3), (1, .int x1), (0, .ref (ad 90))]) dX12_begunStates_29 (by decide) rfl ?_
      refine r_iinc (v := x3 + 1) (lo' := [(3, .int (x3 + 1)), (2, .int rq6), (1, .int x1), (0, .ref (ad 90))]) dX12_begunStates_30 1 rfl rfl (by decide) rfl ?_
      refine r_goto (t := 9) dX12_begunStates_33 (by decide) ?_
      exact ab_E.lo [1, 0, 2, 3] rfl (ih _ _ h)
set_option maxRecDepth 8000 in
def L_X12_begunStates_43 (F : Nat) (x2 : Int32) (kx : sS → Option sS) : Nat → Int32 → sS → Option sS
  | 0, _, _ => none
  | n + 1, x3, σ => if 4 ≤ x3 then (kx σ) else (if ((x2 >>> (x3 &&& 31)) &&& 1) = 1 then (bd (L_X12_meets ((10 : Int32) * x3) (-1) (-1) σ) (fun σ8 => L_X12_begunStates_43 F x2 kx n (x3 + 1) σ8)) else (L_X12_begunStates_43 F x2 kx n (x3 + 1) σ))
set_option maxRecDepth 8000 in
theorem l_X12_begunStates_43 {ad : Nat → Nat} {F : Nat} {x2 : Int32} {z : sS} {kx : sS → Option sS} (hx : ∀  (σ : sS), kx σ = some z → ab_E (sR ad) mX12_begunStates 3 73 [] [] σ (fun r9 σ9 => r9 = none ∧ σ9 = z)) : ∀ (n : Nat) (x3 : Int32) (σ : sS), L_X12_begunStates_43 F x2 kx n x3 σ = some z → ab_E (sR ad) mX12_begunStates 3 43 [(3, .int x3), (2, .int x2), (0, .ref (ad 90))] [] σ (fun r9 σ9 => r9 = none ∧ σ9 = z) := by
  intro n
  induction n with
  | zero =>
    intro x3 σ h
    rw [L_X12_begunStates_43] at h
    cases h
  | succ n ih =>
    intro x3 σ h
    rw [L_X12_begunStates_43] at h
    refine r_iload_n dX12_begunStates_43 0 rfl ?_
    refine r_iconst (v := 4) dX12_begunStates_44 (by decide) ?_
    refine r_icmp_ge (t := 73) dX12_begunStates_45 (by decide) (fun qc5 => ?_) (fun qc5 => ?_)
    · replace h := ifp h qc5
      exact ab_E.lo [] rfl (hx _ h)
    · replace h := ifn h qc5
      refine r_iload_n dX12_begunStates_48 1 rfl ?_
      refine r_iload_n dX12_begunStates_49 0 rfl ?_
      refine r_ishr dX12_begunStates_50 ?_
      refine r_iconst (v := 1) dX12_begunStates_51 (by decide) ?_
      refine r_iand dX12_begunStates_52 ?_
      refine r_iconst (v := 1) dX12_begunStates_53 (by decide) ?_
      refine r_icmp_ne (t := 67) dX12_begunStates_54 (by decide) (fun qc6 => ?_) (fun qc6 => ?_)
      · replace h := ifn h qc6
        refine r_iinc (v := x3 + 1) (lo' := [(3, .int (x3 + 1)), (2, .int x2), (0, .ref (ad 90))]) dX12_begunStates_67 0 rfl rfl (by decide) rfl ?_
        refine r_goto (t := 43) dX12_begunStates_70 (by decide) ?_
        exact ab_E.lo [0, 1, 2] rfl (ih _ _ h)
      · replace h := ifp h qc6
        refine r_aload_n dX12_begunStates_57 2 rfl ?_
        refine r_bipush (v := 10) dX12_begunStates_58 (by decide) ?_
        refine r_iload_n dX12_begunStates_60 0 rfl ?_
        refine r_imul dX12_begunStates_61 ?_
        refine r_iconst (v := (-1)) dX12_begunStates_62 (by decide) ?_
        refine r_iconst (v := (-1)) dX12_begunStates_63 (by decide) ?_
        obtain ⟨σ8, qg7, h⟩ := bd_at h
        refine x_callV0 (Y := mX12_meets) (d' := 1) dX12_begunStates_64 ml_X12_423 yv_X12_meets (by omega) rfl rfl (by simp [Value.category]) (sR_is rfl rfl) (lc_X12_meets qg7) ?_
        refine r_iinc (v := x3 + 1) (lo' := [(3, .int (x3 + 1)), (2, .int x2), (0, .ref (ad 90))]) dX12_begunStates_67 0 rfl rfl (by decide) rfl ?_
        refine r_goto (t := 43) dX12_begunStates_70 (by decide) ?_
        exact ab_E.lo [0, 1, 2] rfl (ih _ _ h)
set_option maxRecDepth 8000 in
def L_X12_begunStates (F : Nat) (x1 : Int32) (σ : sS) : Option sS := grd (inb x1 6) (bnd (vI σ 115 x1.toNatClampNeg) (fun yq2 => L_X12_begunStates_9 F x1 σ (fun yq3 => bnd (uI σ 90 37 3) (fun σ4 => L_X12_begunStates_43 F yq3 (fun σ5 => some σ5) F 0 σ4)) F yq2 0))
set_option maxRecDepth 8000 in
theorem e_X12_begunStates {ad : Nat → Nat} {F : Nat} {x1 : Int32} {σ : sS} {z : sS} (h : L_X12_begunStates F x1 σ = some z) : ab_E (sR ad) mX12_begunStates 3 0 [(0, .ref (ad 90)), (1, .int x1)] [] σ (fun r9 σ9 => r9 = none ∧ σ9 = z) := by
  unfold L_X12_begunStates at h
  refine r_aload_n dX12_begunStates_0 0 rfl ?_
  refine s_getR (b := 115) ok_X12 dX12_begunStates_1 (k := 15) (by decide) fl_X12_20 rfl rfl rfl ?_
  refine r_iload_n dX12_begunStates_4 1 rfl ?_
  obtain ⟨qg1, h⟩ := grd_at h
  refine s_iald dX12_begunStates_5 rfl (inb_of qg1) ?_
  refine r_topi (fun yq2 eyq2 => ?_)
  replace h := bnd_at h eyq2
  refine r_istore_n (lo' := [(2, .int yq2), (0, .ref (ad 90)), (1, .int x1)]) dX12_begunStates_6 (by decide) rfl ?_
  refine r_iconst (v := 0) dX12_begunStates_7 (by decide) ?_
  refine r_istore_n (lo' := [(3, .int 0), (2, .int yq2), (0, .ref (ad 90)), (1, .int x1)]) dX12_begunStates_8 (by decide) rfl ?_
  refine ab_E.lo [1, 0, 3, 2] rfl (l_X12_begunStates_9 (fun yq3 h => ?_) _ _ _ h)
  refine r_aload_n dX12_begunStates_36 1 rfl ?_
  refine r_iconst (v := 3) dX12_begunStates_37 (by decide) ?_
  refine s_putI ok_X12 dX12_begunStates_38 (k := 37) (by decide) fl_X12_393 rfl rfl rfl rfl rfl ?_
  refine r_st (fun σ4 eσ4 => ?_)
  replace h := bnd_at h eσ4
  refine r_iconst (v := 0) dX12_begunStates_41 (by decide) ?_
  refine r_istore_n (lo' := [(3, .int 0), (2, .int yq3), (0, .ref (ad 90))]) dX12_begunStates_42 (by decide) rfl ?_
  refine ab_E.lo [0, 1, 2] rfl (l_X12_begunStates_43 (fun σ5 h => ?_) _ _ _ h)
  refine r_vret rfl dX12_begunStates_73 ?_
  exact lfV h
set_option maxRecDepth 8000 in
theorem lc_X12_begunStates {ad : Nat → Nat} {F : Nat} {x1 : Int32} {σ τ : sS} (h : L_X12_begunStates F x1 σ = some τ) : ab_X (sR ad) 3 mX12_begunStates [.ref (ad 90), .int x1] σ none τ := ab_X.of (by decide) (Nat.le_of_ble_eq_true rfl) (e_X12_begunStates h)
set_option maxRecDepth 8000 in
def L_X12_isTaken_25 (F : Nat)  (σ : sS) : Option (Int32 × sS) := bd (L_X12_meetsAll F σ) (fun σ8 => bd2 (L_X12_found F σ8) (fun rq10 σ11 => if rq10 = ((-1)) then (some ((0, σ11))) else (some ((1, σ11)))))
set_option maxRecDepth 8000 in
theorem l_X12_isTaken_25 {ad : Nat → Nat} {F : Nat} {z : (Int32 × sS)}  (σ : sS) (h : L_X12_isTaken_25 F σ = some z) : ab_E (sR ad) mX12_isTaken 8 25 [(0, .ref (ad 90))] [] σ (fun r9 σ9 => r9 = some (.int z.1) ∧ σ9 = z.2) := by
  unfold L_X12_isTaken_25 at h
  refine r_aload_n dX12_isTaken_25 0 rfl ?_
  obtain ⟨σ8, qg7, h⟩ := bd_at h
  refine x_callV0 (Y := mX12_meetsAll) (d' := 4) dX12_isTaken_26 ml_X12_460 yv_X12_meetsAll (by omega) rfl rfl (by simp [Value.category]) (sR_is rfl rfl) (lc_X12_meetsAll qg7) ?_
  refine r_aload_n dX12_isTaken_29 0 rfl ?_
  obtain ⟨rq10, σ11, qg9, h⟩ := bd2_at h
  refine x_callV (Y := mX12_found) (d' := 7) dX12_isTaken_30 ml_X12_463 yv_X12_found (by omega) rfl rfl (by simp [Value.category]) (sR_is rfl rfl) (lc_X12_found qg9) ?_
  refine r_iconst (v := (-1)) dX12_isTaken_33 (by decide) ?_
  refine r_icmp_eq (t := 41) dX12_isTaken_34 (by decide) (fun qc12 => ?_) (fun qc12 => ?_)
  · replace h := ifp h qc12
    refine r_iconst (v := 0) dX12_isTaken_41 (by decide) ?_
    refine r_zret rfl (by decide) dX12_isTaken_42 ?_
    exact lfI h
  · replace h := ifn h qc12
    refine r_iconst (v := 1) dX12_isTaken_37 (by decide) ?_
    refine r_goto (t := 42) dX12_isTaken_38 (by decide) ?_
    refine r_zret rfl (by decide) dX12_isTaken_42 ?_
    exact lfI h
set_option maxRecDepth 8000 in
def L_X12_isTaken (F : Nat) (x1 : Int32) (x2 : Int32) (σ : sS) : Option (Int32 × sS) := bnd (uI σ 90 38 x1) (fun σ1 => bd (L_X12_meetsNone F σ1) (fun σ3 => if x2 = 0 then (bd (L_X12_begunStates F x1 σ3) (fun σ6 => L_X12_isTaken_25 F σ6)) else (bd (L_X12_begunNodes F σ3) (fun σ8 => L_X12_isTaken_25 F σ8))))
set_option maxRecDepth 8000 in
theorem e_X12_isTaken {ad : Nat → Nat} {F : Nat} {x1 : Int32} {x2 : Int32} {σ : sS} {z : (Int32 × sS)} (h : L_X12_isTaken F x1 x2 σ = some z) : ab_E (sR ad) mX12_isTaken 8 0 [(0, .ref (ad 90)), (1, .int x1), (2, .int x2)] [] σ (fun r9 σ9 => r9 = some (.int z.1) ∧ σ9 = z.2) := by
  unfold L_X12_isTaken at h
  refine r_aload_n dX12_isTaken_0 0 rfl ?_
  refine r_iload_n dX12_isTaken_1 1 rfl ?_
  refine s_putI ok_X12 dX12_isTaken_2 (k := 38) (by decide) fl_X12_396 rfl rfl rfl rfl rfl ?_
  refine r_st (fun σ1 eσ1 => ?_)
  replace h := bnd_at h eσ1
  refine r_aload_n dX12_isTaken_5 0 rfl ?_
  obtain ⟨σ3, qg2, h⟩ := bd_at h
  refine x_callV0 (Y := mX12_meetsNone) (d' := 1) dX12_isTaken_6 ml_X12_451 yv_X12_meetsNone (by omega) rfl rfl (by simp [Value.category]) (sR_is rfl rfl) (lc_X12_meetsNone qg2) ?_
  refine r_iload_n dX12_isTaken_9 2 rfl ?_
  refine r_if_eq (t := 20) dX12_isTaken_10 (by decide) (fun qc4 => ?_) (fun qc4 => ?_)
  · replace h := ifp h qc4
    refine r_aload_n dX12_isTaken_20 0 rfl ?_
    refine r_iload_n dX12_isTaken_21 1 rfl ?_
    obtain ⟨σ6, qg5, h⟩ := bd_at h
    refine x_callV0 (Y := mX12_begunStates) (d' := 3) dX12_isTaken_22 ml_X12_457 yv_X12_begunStates (by omega) rfl rfl (by simp [Value.category]) (sR_is rfl rfl) (lc_X12_begunStates qg5) ?_
    exact ab_E.lo [0] rfl (l_X12_isTaken_25 _ h)
  · replace h := ifn h qc4
    refine r_aload_n dX12_isTaken_13 0 rfl ?_
    obtain ⟨σ8, qg7, h⟩ := bd_at h
    refine x_callV0 (Y := mX12_begunNodes) (d' := 2) dX12_isTaken_14 ml_X12_454 yv_X12_begunNodes (by omega) rfl rfl (by simp [Value.category]) (sR_is rfl rfl) (lc_X12_begunNodes qg7) ?_
    refine r_goto (t := 25) dX12_isTaken_17 (by decide) ?_
    exact ab_E.lo [0] rfl (l_X12_isTaken_25 _ h)
set_option maxRecDepth 8000 in
theorem lc_X12_isTaken {ad : Nat → Nat} {F : Nat} {x1 : Int32} {x2 : Int32} {σ τ : sS} {r : Int32} (h : L_X12_isTaken F x1 x2 σ = some (r, τ)) : ab_X (sR ad) 8 mX12_isTaken [.ref (ad 90), .int x1, .int x2] σ (some (.int r)) τ := ab_X.of (by decide) (Nat.le_of_ble_eq_true rfl) (e_X12_isTaken h)
set_option maxRecDepth 8000 in
def L_X12_readLetters__8 (F : Nat) (x1 : Nat) (kx : Int32 → sS → Option (Int32 × sS)) : Nat → Int32 → Int32 → sS → Option (Int32 × sS)
  | 0, _, _, _ => none
  | n + 1, x3, x4, σ => if (vI σ 90 6) ≤ x4 then (kx x3 σ) else (if (vI σ 90 7) = 0 then (grd (inb x4 400) (bnd ((vI σ 103 x4.toNatClampNeg) - 97) (fun yq5 => if yq5 < (vI σ 90 19) then (if x3 = 10 then (bd (L_X12_flaw 4 σ) (fun σ11 => L_X12_readLetters__8 F x1 kx n x3 (x4 + 1) σ11)) else (grd (inl 2 x1 x3) (bnd (uI σ x1 x3.toNatClampNeg yq5) (fun σ9 => L_X12_readLetters__8 F x1 kx n (x3 + 1) (x4 + 1) σ9)))) else (bd (L_X12_flaw 1 σ) (fun σ13 => L_X12_readLetters__8 F x1 kx n x3 (x4 + 1) σ13))))) else (kx x3 σ))
set_option maxRecDepth 8000 in
theorem l_X12_readLetters__8 {ad : Nat → Nat} {F : Nat} {x1 : Nat} {z : (Int32 × sS)} {kx : Int32 → sS → Option (Int32 × sS)} (hx : ∀ (x3 : Int32) (σ : sS), kx x3 σ = some z → ab_E (sR ad) mX12_readLetters_ 4 81 [(3, .int x3), (0, .ref (ad 90))] [] σ (fun r9 σ9 => r9 = some (.int z.1) ∧ σ9 = z.2)) : ∀ (n : Nat) (x3 : Int32) (x4 : Int32) (σ : sS), L_X12_readLetters__8 F x1 kx n x3 x4 σ = some z → ab_E (sR ad) mX12_readLetters_ 4 8 [(3, .int x3), (4, .int x4), (0, .ref (ad 90)), (1, .ref (ad x1))] [] σ (fun r9 σ9 => r9 = some (.int z.1) ∧ σ9 = z.2) := by
  intro n
  induction n with
  | zero =>
    intro x3 x4 σ h
    rw [L_X12_readLetters__8] at h
    cases h
  | succ n ih =>
    intro x3 x4 σ h
    rw [L_X12_readLetters__8] at h
    refine r_iload dX12_readLetters__8 1 rfl ?_
    refine r_aload_n dX12_readLetters__10 2 rfl ?_
    refine s_getI ok_X12 dX12_readLetters__11 (k := 6) (by decide) fl_X12_160 rfl rfl ?_
    refine r_icmp_ge (t := 81) dX12_readLetters__14 (by decide) (fun qc2 => ?_) (fun qc2 => ?_)
    · replace h := ifp h qc2
      exact ab_E.lo [0, 2] rfl (hx _ _ h)
    · replace h := ifn h qc2
      refine r_aload_n dX12_readLetters__17 2 rfl ?_
      refine s_getI ok_X12 dX12_readLetters__18 (k := 7) (by decide) fl_X12_140 rfl rfl ?_
      refine r_if_ne (t := 81) dX12_readLetters__21 (by decide) (fun qc3 => ?_) (fun qc3 => ?_)
      · replace h := ifn h qc3
        exact ab_E.lo [0, 2] rfl (hx _ _ h)
      · replace h := ifp h qc3
        refine r_aload_n dX12_readLetters__24 2 rfl ?_
        refine s_getR (b := 103) ok_X12 dX12_readLetters__25 (k := 3) (by decide) fl_X12_13 rfl rfl rfl ?_
        refine r_iload dX12_readLetters__28 1 rfl ?_
        obtain ⟨qg4, h⟩ := grd_at h
        refine s_iald dX12_readLetters__30 rfl (inb_of qg4) ?_
        refine r_bipush (v := 97) dX12_readLetters__31 (by decide) ?_
        refine r_isub dX12_readLetters__33 ?_
        refine r_topi (fun yq5 eyq5 => ?_)
        replace h := bnd_at h eyq5
        refine r_istore (lo' := [(5, .int yq5), (3, .int x3), (4, .int x4), (0, .ref (ad 90)), (1, .ref (ad x1))]) dX12_readLetters__34 (by decide) rfl ?_
        refine r_iload dX12_readLetters__36 0 rfl ?_
        refine r_aload_n dX12_readLetters__38 3 rfl ?_
        refine s_getI ok_X12 dX12_readLetters__39 (k := 19) (by decide) fl_X12_283 rfl rfl ?_
        refine r_icmp_lt (t := 53) dX12_readLetters__42 (by decide) (fun qc6 => ?_) (fun qc6 => ?_)
        · replace h := ifp h qc6
          refine r_iload_n dX12_readLetters__53 1 rfl ?_
          refine r_bipush (v := 10) dX12_readLetters__54 (by decide) ?_
          refine r_icmp_ne (t := 67) dX12_readLetters__56 (by decide) (fun qc7 => ?_) (fun qc7 => ?_)
          · replace h := ifn h qc7
            refine r_aload_n dX12_readLetters__67 4 rfl ?_
            refine r_iload_n dX12_readLetters__68 1 rfl ?_
            refine r_iload dX12_readLetters__69 0 rfl ?_
            obtain ⟨qg8, h⟩ := grd_at h
            refine s_iast dX12_readLetters__71 (inl_la qg8) (inl_in qg8) ?_
            refine r_st (fun σ9 eσ9 => ?_)
            replace h := bnd_at h eσ9
            refine r_iinc (v := x3 + 1) (lo' := [(3, .int (x3 + 1)), (5, .int yq5), (4, .int x4), (0, .ref (ad 90)), (1, .ref (ad x1))]) dX12_readLetters__72 1 rfl rfl (by decide) rfl ?_
            refine r_iinc (v := x4 + 1) (lo' := [(4, .int (x4 + 1)), (3, .int (x3 + 1)), (5, .int yq5), (0, .ref (ad 90)), (1, .ref (ad x1))]) dX12_readLetters__75 2 rfl rfl (by decide) rfl ?_
            refine r_goto (t := 8) dX12_readLetters__78 (by decide) ?_
            exact ab_E.lo [1, 0, 3, 4] rfl (ih _ _ _ h)
          · replace h := ifp h qc7
            refine r_aload_n dX12_readLetters__59 3 rfl ?_
            refine r_iconst (v := 4) dX12_readLetters__60 (by decide) ?_
            obtain ⟨σ11, qg10, h⟩ := bd_at h
            refine x_callV0 (Y := mX12_flaw) (d' := 2) dX12_readLetters__61 ml_X12_205 yv_X12_flaw (by omega) rfl rfl (by simp [Value.category]) (sR_is rfl rfl) (lc_X12_flaw qg10) ?_
            refine r_goto (t := 75) dX12_readLetters__64 (by decide) ?_
            refine r_iinc (v := x4 + 1) (lo' := [(4, .int (x4 + 1)), (5, .int yq5), (3, .int x3), (0, .ref (ad 90)), (1, .ref (ad x1))]) dX12_readLetters__75 2 rfl rfl (by decide) rfl ?_
            refine r_goto (t := 8) dX12_readLetters__78 (by decide) ?_
            exact ab_E.lo [2, 0, 3, 4] rfl (ih _ _ _ h)
        · replace h := ifn h qc6
          refine r_aload_n dX12_readLetters__45 3 rfl ?_
          refine r_iconst (v := 1) dX12_readLetters__46 (by decide) ?_
          obtain ⟨σ13, qg12, h⟩ := bd_at h
          refine x_callV0 (Y := mX12_flaw) (d' := 2) dX12_readLetters__47 ml_X12_205 yv_X12_flaw (by omega) rfl rfl (by simp [Value.category]) (sR_is rfl rfl) (lc_X12_flaw qg12) ?_
          refine r_goto (t := 75) dX12_readLetters__50 (by decide) ?_
          refine r_iinc (v := x4 + 1) (lo' := [(4, .int (x4 + 1)), (5, .int yq5), (3, .int x3), (0, .ref (ad 90)), (1, .ref (ad x1))]) dX12_readLetters__75 2 rfl rfl (by decide) rfl ?_
          refine r_goto (t := 8) dX12_readLetters__78 (by decide) ?_
          exact ab_E.lo [2, 0, 3, 4] rfl (ih _ _ _ h)
set_option maxRecDepth 8000 in
def L_X12_readLetters_ (F : Nat) (x1 : Nat) (x2 : Int32) (σ : sS) : Option (Int32 × sS) := bnd (vI σ 90 10) (fun yq1 => L_X12_readLetters__8 F x1 (fun yq2 σ3 => bd (L_X12_goOn F σ3) (fun σ5 => some ((yq2, σ5)))) F x2 yq1 σ)
set_option maxRecDepth 8000 in
theorem e_X12_readLetters_ {ad : Nat → Nat} {F : Nat} {x1 : Nat} {x2 : Int32} {σ : sS} {z : (Int32 × sS)} (h : L_X12_readLetters_ F x1 x2 σ = some z) : ab_E (sR ad) mX12_readLetters_ 4 0 [(0, .ref (ad 90)), (1, .ref (ad x1)), (2, .int x2)] [] σ (fun r9 σ9 => r9 = some (.int z.1) ∧ σ9 = z.2) := by
  unfold L_X12_readLetters_ at h
  refine r_iload_n dX12_readLetters__0 2 rfl ?_
  refine r_istore_n (lo' := [(3, .int x2), (0, .ref (ad 90)), (1, .ref (ad x1)), (2, .int x2)]) dX12_readLetters__1 (by decide) rfl ?_
  refine r_aload_n dX12_readLetters__2 1 rfl ?_
  refine s_getI ok_X12 dX12_readLetters__3 (k := 10) (by decide) fl_X12_146 rfl rfl ?_
  refine r_topi (fun yq1 eyq1 => ?_)
  replace h := bnd_at h eyq1
  refine r_istore (lo' := [(4, .int yq1), (3, .int x2), (0, .ref (ad 90)), (1, .ref (ad x1)), (2, .int x2)]) dX12_readLetters__6 (by decide) rfl ?_
  refine ab_E.lo [1, 0, 2, 3] rfl (l_X12_readLetters__8 (fun yq2 σ3 h => ?_) _ _ _ _ h)
  refine r_aload_n dX12_readLetters__81 1 rfl ?_
  obtain ⟨σ5, qg4, h⟩ := bd_at h
  refine x_callV0 (Y := mX12_goOn) (d' := 3) dX12_readLetters__82 ml_X12_209 yv_X12_goOn (by omega) rfl rfl (by simp [Value.category]) (sR_is rfl rfl) (lc_X12_goOn qg4) ?_
  refine r_iload_n dX12_readLetters__85 0 rfl ?_
  refine r_iret rfl dX12_readLetters__86 ?_
  exact lfI h
set_option maxRecDepth 8000 in
theorem lc_X12_readLetters_ {ad : Nat → Nat} {F : Nat} {x1 : Nat} {x2 : Int32} {σ τ : sS} {r : Int32} (h : L_X12_readLetters_ F x1 x2 σ = some (r, τ)) : ab_X (sR ad) 4 mX12_readLetters_ [.ref (ad 90), .ref (ad x1), .int x2] σ (some (.int r)) τ := ab_X.of (by decide) (Nat.le_of_ble_eq_true rfl) (e_X12_readLetters_ h)
