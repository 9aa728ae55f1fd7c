/-! the reference, lifted, 13 -/
set_option maxRecDepth 8000 in
def L_X12_within_63 (F : Nat) (x1 : Int32) (kx : sS → Option (Int32 × sS)) : Nat → Int32 → sS → Option (Int32 × sS)
  | 0, _, _ => none
  | n + 1, x3, σ => if 2400 ≤ x3 then (kx σ) else (grd (inb x3 2400) (bnd (uI σ 146 x3.toNatClampNeg ((-1))) (fun σ21 => L_X12_within_63 F x1 kx n (x3 + 1) σ21)))
set_option maxRecDepth 8000 in
theorem l_X12_within_63 {ad : Nat → Nat} {F : Nat} {x1 : Int32} {z : (Int32 × sS)} {kx : sS → Option (Int32 × sS)} (hx : ∀  (σ : sS), kx σ = some z → ab_E (sR ad) mX12_within 9 83 [(1, .int x1), (0, .ref (ad 90))] [] σ (fun r9 σ9 => r9 = some (.int z.1) ∧ σ9 = z.2)) : ∀ (n : Nat) (x3 : Int32) (σ : sS), L_X12_within_63 F x1 kx n x3 σ = some z → ab_E (sR ad) mX12_within 9 63 [(3, .int x3), (1, .int x1), (0, .ref (ad 90))] [] σ (fun r9 σ9 => r9 = some (.int z.1) ∧ σ9 = z.2) := by
  intro n
  induction n with
  | zero =>
    intro x3 σ h
    rw [L_X12_within_63] at h
    cases h
  | succ n ih =>
    intro x3 σ h
    rw [L_X12_within_63] at h
    refine r_iload_n dX12_within_63 0 rfl ?_
    refine r_sipush (v := 2400) dX12_within_64 (by decide) ?_
    refine r_icmp_ge (t := 83) dX12_within_67 (by decide) (fun qc19 => ?_) (fun qc19 => ?_)
    · replace h := ifp h qc19
      exact ab_E.lo [1, 2] rfl (hx _ h)
    · replace h := ifn h qc19
      refine r_aload_n dX12_within_70 2 rfl ?_
      refine s_getR (b := 146) ok_X12 dX12_within_71 (k := 46) (by decide) fl_X12_82 rfl rfl rfl ?_
      refine r_iload_n dX12_within_74 0 rfl ?_
      refine r_iconst (v := (-1)) dX12_within_75 (by decide) ?_
      obtain ⟨qg20, h⟩ := grd_at h
      refine s_iast dX12_within_76 rfl (inb_of qg20) ?_
      refine r_st (fun σ21 eσ21 => ?_)
      replace h := bnd_at h eσ21
      refine r_iinc (v := x3 + 1) (lo' := [(3, .int (x3 + 1)), (1, .int x1), (0, .ref (ad 90))]) dX12_within_77 0 rfl rfl (by decide) rfl ?_
      refine r_goto (t := 63) dX12_within_80 (by decide) ?_
      exact ab_E.lo [0, 1, 2] rfl (ih _ _ h)
set_option maxRecDepth 8000 in
def L_X12_within_89 (F : Nat) (x1 : Int32) (kx : sS → Option (Int32 × sS)) : Nat → Int32 → sS → Option (Int32 × sS)
  | 0, _, _ => none
  | n + 1, x3, σ => if 4 ≤ x3 then (kx σ) else (grd (inb x1 6) (if (((vI σ 115 x1.toNatClampNeg) >>> (x3 &&& 31)) &&& 1) = 1 then (bd2 (L_X12_three x3 0 0 σ) (fun rq26 σ27 => bd (L_X12_meets rq26 (-1) (-1) σ27) (fun σ29 => L_X12_within_89 F x1 kx n (x3 + 1) σ29))) else (L_X12_within_89 F x1 kx n (x3 + 1) σ)))
set_option maxRecDepth 8000 in
theorem l_X12_within_89 {ad : Nat → Nat} {F : Nat} {x1 : Int32} {z : (Int32 × sS)} {kx : sS → Option (Int32 × sS)} (hx : ∀  (σ : sS), kx σ = some z → ab_E (sR ad) mX12_within 9 127 [(0, .ref (ad 90))] [] σ (fun r9 σ9 => r9 = some (.int z.1) ∧ σ9 = z.2)) : ∀ (n : Nat) (x3 : Int32) (σ : sS), L_X12_within_89 F x1 kx n x3 σ = some z → ab_E (sR ad) mX12_within 9 89 [(3, .int x3), (1, .int x1), (0, .ref (ad 90))] [] σ (fun r9 σ9 => r9 = some (.int z.1) ∧ σ9 = z.2) := by
  intro n
  induction n with
  | zero =>
    intro x3 σ h
    rw [L_X12_within_89] at h
    cases h
  | succ n ih =>
    intro x3 σ h
    rw [L_X12_within_89] at h
    refine r_iload_n dX12_within_89 0 rfl ?_
    refine r_iconst (v := 4) dX12_within_90 (by decide) ?_
    refine r_icmp_ge (t := 127) dX12_within_91 (by decide) (fun qc22 => ?_) (fun qc22 => ?_)
    · replace h := ifp h qc22
      exact ab_E.lo [2] rfl (hx _ h)
    · replace h := ifn h qc22
      refine r_aload_n dX12_within_94 2 rfl ?_
      refine s_getR (b := 115) ok_X12 dX12_within_95 (k := 15) (by decide) fl_X12_20 rfl rfl rfl ?_
      refine r_iload_n dX12_within_98 1 rfl ?_
      obtain ⟨qg23, h⟩ := grd_at h
      refine s_iald dX12_within_99 rfl (inb_of qg23) ?_
      refine r_iload_n dX12_within_100 0 rfl ?_
      refine r_ishr dX12_within_101 ?_
      refine r_iconst (v := 1) dX12_within_102 (by decide) ?_
      refine r_iand dX12_within_103 ?_
      refine r_iconst (v := 1) dX12_within_104 (by decide) ?_
      refine r_icmp_ne (t := 121) dX12_within_105 (by decide) (fun qc24 => ?_) (fun qc24 => ?_)
      · replace h := ifn h qc24
        refine r_iinc (v := x3 + 1) (lo' := [(3, .int (x3 + 1)), (1, .int x1), (0, .ref (ad 90))]) dX12_within_121 0 rfl rfl (by decide) rfl ?_
        refine r_goto (t := 89) dX12_within_124 (by decide) ?_
        exact ab_E.lo [0, 1, 2] rfl (ih _ _ h)
      · replace h := ifp h qc24
        refine r_aload_n dX12_within_108 2 rfl ?_
        refine r_aload_n dX12_within_109 2 rfl ?_
        refine r_iload_n dX12_within_110 0 rfl ?_
        refine r_iconst (v := 0) dX12_within_111 (by decide) ?_
        refine r_iconst (v := 0) dX12_within_112 (by decide) ?_
        obtain ⟨rq26, σ27, qg25, h⟩ := bd2_at h
        refine x_callV (Y := mX12_three) (d' := 1) dX12_within_113 ml_X12_402 yv_X12_three (by omega) rfl rfl (by simp [Value.category]) (sR_is rfl rfl) (lc_X12_three qg25) ?_
        refine r_iconst (v := (-1)) dX12_within_116 (by decide) ?_
        refine r_iconst (v := (-1)) dX12_within_117 (by decide) ?_
        obtain ⟨σ29, qg28, h⟩ := bd_at h
        refine x_callV0 (Y := mX12_meets) (d' := 1) dX12_within_118 ml_X12_423 yv_X12_meets (by omega) rfl rfl (by simp [Value.category]) (sR_is rfl rfl) (lc_X12_meets qg28) ?_
        refine r_iinc (v := x3 + 1) (lo' := [(3, .int (x3 + 1)), (1, .int x1), (0, .ref (ad 90))]) dX12_within_121 0 rfl rfl (by decide) rfl ?_
        refine r_goto (t := 89) dX12_within_124 (by decide) ?_
        exact ab_E.lo [0, 1, 2] rfl (ih _ _ h)
set_option maxRecDepth 8000 in
def L_X12_within (F : Nat) (x1 : Int32) (x2 : Int32) (σ : sS) : Option (Int32 × sS) := bnd (uI σ 90 0 0) (fun σ1 => bd (L_X12_isAuto x1 σ1) (fun rq3 => if rq3 = 0 then (bd2 (L_X12_refused 1 σ1) (fun rq6 σ7 => some ((rq6, σ7)))) else (bd (L_X12_isAuto x2 σ1) (fun rq9 => if rq9 = 0 then (bd2 (L_X12_refused 1 σ1) (fun rq44 σ45 => some ((rq44, σ45)))) else (bd2 (L_X12_lays F x2 σ1) (fun rq12 σ13 => if rq12 = 0 then (bd2 (L_X12_refused 3 σ13) (fun rq41 σ42 => some ((rq41, σ42)))) else (bnd (uI σ13 90 37 2) (fun σ15 => bnd (uI σ15 90 38 x1) (fun σ16 => bnd (uI σ16 90 47 0) (fun σ17 => bnd (uI σ17 90 48 1) (fun σ18 => L_X12_within_63 F x1 (fun σ19 => bd (L_X12_meetsNone F σ19) (fun σ21 => L_X12_within_89 F x1 (fun σ22 => bd (L_X12_meetsAll F σ22) (fun σ24 => if (vI σ24 90 48) = 0 then (bd2 (L_X12_refused 3 σ24) (fun rq38 σ39 => some ((rq38, σ39)))) else (bnd (uI σ24 90 70 (vI σ24 90 47)) (fun σ26 => bd2 (L_X12_shows F σ26) (fun rq28 σ29 => if rq28 = 0 then (bd2 (L_X12_good 1 σ29) (fun rq32 σ33 => some ((rq32, σ33)))) else (bd2 (L_X12_good 0 σ29) (fun rq35 σ36 => some ((rq35, σ36))))))))) F 0 σ21)) F 0 σ18)))))))))))
set_option maxRecDepth 8000 in
theorem e_X12_within {ad : Nat → Nat} {F : Nat} {x1 : Int32} {x2 : Int32} {σ : sS} {z : (Int32 × sS)} (h : L_X12_within F x1 x2 σ = some z) : ab_E (sR ad) mX12_within 9 0 [(0, .ref (ad 90)), (1, .int x1), (2, .int x2)] [] σ (fun r9 σ9 => r9 = some (.int z.1) ∧ σ9 = z.2) := by
  unfold L_X12_within at h
  refine r_aload_n dX12_within_0 0 rfl ?_
  refine r_iconst (v := 0) dX12_within_1 (by decide) ?_
  refine s_putI ok_X12 dX12_within_2 (k := 0) (by decide) fl_X12_131 rfl rfl rfl rfl rfl ?_
  refine r_st (fun σ1 eσ1 => ?_)
  replace h := bnd_at h eσ1
  refine r_aload_n dX12_within_5 0 rfl ?_
  refine r_iload_n dX12_within_6 1 rfl ?_
  obtain ⟨rq3, qg2, h⟩ := bd_at h
  refine x_callV (Y := mX12_isAuto) (d' := 2) dX12_within_7 ml_X12_291 yv_X12_isAuto (by omega) rfl rfl (by simp [Value.category]) (sR_is rfl rfl) (lc_X12_isAuto qg2) ?_
  refine r_if_eq (t := 21) dX12_within_10 (by decide) (fun qc4 => ?_) (fun qc4 => ?_)
  · replace h := ifp h qc4
    refine r_aload_n dX12_within_21 0 rfl ?_
    refine r_iconst (v := 1) dX12_within_22 (by decide) ?_
    obtain ⟨rq6, σ7, qg5, h⟩ := bd2_at h
    refine x_callV (Y := mX12_refused) (d' := 1) dX12_within_23 ml_X12_270 yv_X12_refused (by omega) rfl rfl (by simp [Value.category]) (sR_is rfl rfl) (lc_X12_refused qg5) ?_
    refine r_iret rfl dX12_within_26 ?_
    exact lfI h
  · replace h := ifn h qc4
    refine r_aload_n dX12_within_13 0 rfl ?_
    refine r_iload_n dX12_within_14 2 rfl ?_
    obtain ⟨rq9, qg8, h⟩ := bd_at h
    refine x_callV (Y := mX12_isAuto) (d' := 2) dX12_within_15 ml_X12_291 yv_X12_isAuto (by omega) rfl rfl (by simp [Value.category]) (sR_is rfl rfl) (lc_X12_isAuto qg8) ?_
    refine r_if_ne (t := 27) dX12_within_18 (by decide) (fun qc10 => ?_) (fun qc10 => ?_)
    · replace h := ifn h qc10
      refine r_aload_n dX12_within_27 0 rfl ?_
      refine r_iload_n dX12_within_28 2 rfl ?_
      obtain ⟨rq12, σ13, qg11, h⟩ := bd2_at h
      refine x_callV (Y := mX12_lays) (d' := 4) dX12_within_29 ml_X12_372 yv_X12_lays (by omega) rfl rfl (by simp [Value.category]) (sR_is rfl rfl) (lc_X12_lays qg11) ?_
      refine r_if_ne (t := 41) dX12_within_32 (by decide) (fun qc14 => ?_) (fun qc14 => ?_)
      · replace h := ifn h qc14
        refine r_aload_n dX12_within_41 0 rfl ?_
        refine r_iconst (v := 2) dX12_within_42 (by decide) ?_
        refine s_putI ok_X12 dX12_within_43 (k := 37) (by decide) fl_X12_393 rfl rfl rfl rfl rfl ?_
        refine r_st (fun σ15 eσ15 => ?_)
        replace h := bnd_at h eσ15
        refine r_aload_n dX12_within_46 0 rfl ?_
        refine r_iload_n dX12_within_47 1 rfl ?_
        refine s_putI ok_X12 dX12_within_48 (k := 38) (by decide) fl_X12_396 rfl rfl rfl rfl rfl ?_
        refine r_st (fun σ16 eσ16 => ?_)
        replace h := bnd_at h eσ16
        refine r_aload_n dX12_within_51 0 rfl ?_
        refine r_iconst (v := 0) dX12_within_52 (by decide) ?_
        refine s_putI ok_X12 dX12_within_53 (k := 47) (by decide) fl_X12_408 rfl rfl rfl rfl rfl ?_
        refine r_st (fun σ17 eσ17 => ?_)
        replace h := bnd_at h eσ17
        refine r_aload_n dX12_within_56 0 rfl ?_
        refine r_iconst (v := 1) dX12_within_57 (by decide) ?_
        refine s_putI ok_X12 dX12_within_58 (k := 48) (by decide) fl_X12_411 rfl (by decide) (by decide) rfl rfl ?_
        refine r_st (fun σ18 eσ18 => ?_)
        replace h := bnd_at h eσ18
        refine r_iconst (v := 0) dX12_within_61 (by decide) ?_
        refine r_istore_n (lo' := [(3, .int 0), (0, .ref (ad 90)), (1, .int x1), (2, .int x2)]) dX12_within_62 (by decide) rfl ?_
        refine ab_E.lo [0, 2, 1] rfl (l_X12_within_63 (fun σ19 h => ?_) _ _ _ h)
        refine r_aload_n dX12_within_83 1 rfl ?_
        obtain ⟨σ21, qg20, h⟩ := bd_at h
        refine x_callV0 (Y := mX12_meetsNone) (d' := 1) dX12_within_84 ml_X12_451 yv_X12_meetsNone (by omega) rfl rfl (by simp [Value.category]) (sR_is rfl rfl) (lc_X12_meetsNone qg20) ?_
        refine r_iconst (v := 0) dX12_within_87 (by decide) ?_
        refine r_istore_n (lo' := [(3, .int 0), (1, .int x1), (0, .ref (ad 90))]) dX12_within_88 (by decide) rfl ?_
        refine ab_E.lo [0, 1, 2] rfl (l_X12_within_89 (fun σ22 h => ?_) _ _ _ h)
        refine r_aload_n dX12_within_127 0 rfl ?_
        obtain ⟨σ24, qg23, h⟩ := bd_at h
        refine x_callV0 (Y := mX12_meetsAll) (d' := 4) dX12_within_128 ml_X12_460 yv_X12_meetsAll (by omega) rfl rfl (by simp [Value.category]) (sR_is rfl rfl) (lc_X12_meetsAll qg23) ?_
        refine r_aload_n dX12_within_131 0 rfl ?_
        refine s_getI ok_X12 dX12_within_132 (k := 48) (by decide) fl_X12_411 rfl rfl ?_
        refine r_if_ne (t := 144) dX12_within_135 (by decide) (fun qc25 => ?_) (fun qc25 => ?_)
        · replace h := ifn h qc25
          refine r_aload_n dX12_within_144 0 rfl ?_
          refine r_aload_n dX12_within_145 0 rfl ?_
          refine s_getI ok_X12 dX12_within_146 (k := 47) (by decide) fl_X12_408 rfl rfl ?_
          refine s_putI ok_X12 dX12_within_149 (k := 70) (by decide) fl_X12_504 rfl rfl rfl rfl rfl ?_
          refine r_st (fun σ26 eσ26 => ?_)
          replace h := bnd_at h eσ26
          refine r_aload_n dX12_within_152 0 rfl ?_
          refine r_aload_n dX12_within_153 0 rfl ?_
          obtain ⟨rq28, σ29, qg27, h⟩ := bd2_at h
          refine x_callV (Y := mX12_shows) (d' := 8) dX12_within_154 ml_X12_501 yv_X12_shows (by omega) rfl rfl (by simp [Value.category]) (sR_is rfl rfl) (lc_X12_shows qg27) ?_
          refine r_if_eq (t := 164) dX12_within_157 (by decide) (fun qc30 => ?_) (fun qc30 => ?_)
          · replace h := ifp h qc30
            refine r_iconst (v := 1) dX12_within_164 (by decide) ?_
            obtain ⟨rq32, σ33, qg31, h⟩ := bd2_at h
            refine x_callV (Y := mX12_good) (d' := 1) dX12_within_165 ml_X12_288 yv_X12_good (by omega) rfl rfl (by simp [Value.category]) (sR_is rfl rfl) (lc_X12_good qg31) ?_
            refine r_iret rfl dX12_within_168 ?_
            exact lfI h
          · replace h := ifn h qc30
            refine r_iconst (v := 0) dX12_within_160 (by decide) ?_
            refine r_goto (t := 165) dX12_within_161 (by decide) ?_
            obtain ⟨rq35, σ36, qg34, h⟩ := bd2_at h
            refine x_callV (Y := mX12_good) (d' := 1) dX12_within_165 ml_X12_288 yv_X12_good (by omega) rfl rfl (by simp [Value.category]) (sR_is rfl rfl) (lc_X12_good qg34) ?_
            refine r_iret rfl dX12_within_168 ?_
            exact lfI h
        · replace h := ifp h qc25
          refine r_aload_n dX12_within_138 0 rfl ?_
          refine r_iconst (v := 3) dX12_within_139 (by decide) ?_
          obtain ⟨rq38, σ39, qg37, h⟩ := bd2_at h
          refine x_callV (Y := mX12_refused) (d' := 1) dX12_within_140 ml_X12_270 yv_X12_refused (by omega) rfl rfl (by simp [Value.category]) (sR_is rfl rfl) (lc_X12_refused qg37) ?_
          refine r_iret rfl dX12_within_143 ?_
          exact lfI h
      · replace h := ifp h qc14
        refine r_aload_n dX12_within_35 0 rfl ?_
        refine r_iconst (v := 3) dX12_within_36 (by decide) ?_
        obtain ⟨rq41, σ42, qg40, h⟩ := bd2_at h
        refine x_callV (Y := mX12_refused) (d' := 1) dX12_within_37 ml_X12_270 yv_X12_refused (by omega) rfl rfl (by simp [Value.category]) (sR_is rfl rfl) (lc_X12_refused qg40) ?_
        refine r_iret rfl dX12_within_40 ?_
        exact lfI h
    · replace h := ifp h qc10
      refine r_aload_n dX12_within_21 0 rfl ?_
      refine r_iconst (v := 1) dX12_within_22 (by decide) ?_
      obtain ⟨rq44, σ45, qg43, h⟩ := bd2_at h
      refine x_callV (Y := mX12_refused) (d' := 1) dX12_within_23 ml_X12_270 yv_X12_refused (by omega) rfl rfl (by simp [Value.category]) (sR_is rfl rfl) (lc_X12_refused qg43) ?_
      refine r_iret rfl dX12_within_26 ?_
      exact lfI h
set_option maxRecDepth 8000 in
theorem lc_X12_within {ad : Nat → Nat} {F : Nat} {x1 : Int32} {x2 : Int32} {σ τ : sS} {r : Int32} (h : L_X12_within F x1 x2 σ = some (r, τ)) : ab_X (sR ad) 9 mX12_within [.ref (ad 90), .int x1, .int x2] σ (some (.int r)) τ := ab_X.of (by decide) (Nat.le_of_ble_eq_true rfl) (e_X12_within h)
set_option maxRecDepth 8000 in
def L_X12_met (σ : sS) : Option (Int32 × sS) := bnd (uI σ 90 0 0) (fun σ1 => some ((vI σ1 90 70, σ1)))
set_option maxRecDepth 8000 in
theorem e_X12_met {ad : Nat → Nat}  {σ : sS} {z : (Int32 × sS)} (h : L_X12_met σ = some z) : ab_E (sR ad) mX12_met 1 0 [(0, .ref (ad 90))] [] σ (fun r9 σ9 => r9 = some (.int z.1) ∧ σ9 = z.2) := by
  unfold L_X12_met at h
  refine r_aload_n dX12_met_0 0 rfl ?_
  refine r_iconst (v := 0) dX12_met_1 (by decide) ?_
  refine s_putI ok_X12 dX12_met_2 (k := 0) (by decide) fl_X12_131 rfl rfl rfl rfl rfl ?_
  refine r_st (fun σ1 eσ1 => ?_)
  replace h := bnd_at h eσ1
  refine r_aload_n dX12_met_5 0 rfl ?_
  refine s_getI ok_X12 dX12_met_6 (k := 70) (by decide) fl_X12_504 rfl rfl ?_
  refine r_iret rfl dX12_met_9 ?_
  exact lfI h
set_option maxRecDepth 8000 in
theorem lc_X12_met {ad : Nat → Nat}  {σ τ : sS} {r : Int32} (h : L_X12_met σ = some (r, τ)) : ab_X (sR ad) 1 mX12_met [.ref (ad 90)] σ (some (.int r)) τ := ab_X.of (by decide) (Nat.le_of_ble_eq_true rfl) (e_X12_met h)
set_option maxRecDepth 8000 in
def L_X12_shown (x1 : Int32) (σ : sS) : Option (Int32 × sS) := bnd (uI σ 90 0 0) (fun σ1 => if (L_X12_in x1 0 1) = 0 then (bd2 (L_X12_refused 1 σ1) (fun rq15 σ16 => some ((rq15, σ16)))) else (if (vI σ1 90 71) = 0 then (bd2 (L_X12_good (-2) σ1) (fun rq12 σ13 => some ((rq12, σ13)))) else (if x1 = 0 then (bd2 (L_X12_good (vI σ1 90 68) σ1) (fun rq9 σ10 => some ((rq9, σ10)))) else (bd2 (L_X12_good (vI σ1 90 69) σ1) (fun rq6 σ7 => some ((rq6, σ7)))))))
set_option maxRecDepth 8000 in
theorem e_X12_shown {ad : Nat → Nat} {x1 : Int32} {σ : sS} {z : (Int32 × sS)} (h : L_X12_shown x1 σ = some z) : ab_E (sR ad) mX12_shown 2 0 [(0, .ref (ad 90)), (1, .int x1)] [] σ (fun r9 σ9 => r9 = some (.int z.1) ∧ σ9 = z.2) := by
  unfold L_X12_shown at h
  refine r_aload_n dX12_shown_0 0 rfl ?_
  refine r_iconst (v := 0) dX12_shown_1 (by decide) ?_
  refine s_putI ok_X12 dX12_shown_2 (k := 0) (by decide) fl_X12_131 rfl rfl rfl rfl rfl ?_
  refine r_st (fun σ1 eσ1 => ?_)
  replace h := bnd_at h eσ1
  refine r_iload_n dX12_shown_5 1 rfl ?_
  refine r_iconst (v := 0) dX12_shown_6 (by decide) ?_
  refine r_iconst (v := 1) dX12_shown_7 (by decide) ?_
  refine x_callS (Y := mX12_in) (d' := 1) dX12_shown_8 ml_X12_156 ys_X12_in (by omega) rfl rfl (by simp [Value.category]) (lc_X12_in x1 0 1 σ1) ?_
  refine r_if_ne (t := 20) dX12_shown_11 (by decide) (fun qc2 => ?_) (fun qc2 => ?_)
  · replace h := ifn h qc2
    refine r_aload_n dX12_shown_20 0 rfl ?_
    refine r_aload_n dX12_shown_21 0 rfl ?_
    refine s_getI ok_X12 dX12_shown_22 (k := 71) (by decide) fl_X12_492 rfl rfl ?_
    refine r_if_ne (t := 33) dX12_shown_25 (by decide) (fun qc3 => ?_) (fun qc3 => ?_)
    · replace h := ifn h qc3
      refine r_iload_n dX12_shown_33 1 rfl ?_
      refine r_if_ne (t := 44) dX12_shown_34 (by decide) (fun qc4 => ?_) (fun qc4 => ?_)
      · replace h := ifn h qc4
        refine r_aload_n dX12_shown_44 0 rfl ?_
        refine s_getI ok_X12 dX12_shown_45 (k := 69) (by decide) fl_X12_489 rfl rfl ?_
        obtain ⟨rq6, σ7, qg5, h⟩ := bd2_at h
        refine x_callV (Y := mX12_good) (d' := 1) dX12_shown_48 ml_X12_288 yv_X12_good (by omega) rfl rfl (by simp [Value.category]) (sR_is rfl rfl) (lc_X12_good qg5) ?_
        refine r_iret rfl dX12_shown_51 ?_
        exact lfI h
      · replace h := ifp h qc4
        refine r_aload_n dX12_shown_37 0 rfl ?_
        refine s_getI ok_X12 dX12_shown_38 (k := 68) (by decide) fl_X12_495 rfl rfl ?_
        refine r_goto (t := 48) dX12_shown_41 (by decide) ?_
        obtain ⟨rq9, σ10, qg8, h⟩ := bd2_at h
        refine x_callV (Y := mX12_good) (d' := 1) dX12_shown_48 ml_X12_288 yv_X12_good (by omega) rfl rfl (by simp [Value.category]) (sR_is rfl rfl) (lc_X12_good qg8) ?_
        refine r_iret rfl dX12_shown_51 ?_
        exact lfI h
    · replace h := ifp h qc3
      refine r_bipush (v := (-2)) dX12_shown_28 (by decide) ?_
      refine r_goto (t := 48) dX12_shown_30 (by decide) ?_
      obtain ⟨rq12, σ13, qg11, h⟩ := bd2_at h
      refine x_callV (Y := mX12_good) (d' := 1) dX12_shown_48 ml_X12_288 yv_X12_good (by omega) rfl rfl (by simp [Value.category]) (sR_is rfl rfl) (lc_X12_good qg11) ?_
      refine r_iret rfl dX12_shown_51 ?_
      exact lfI h
  · replace h := ifp h qc2
    refine r_aload_n dX12_shown_14 0 rfl ?_
    refine r_iconst (v := 1) dX12_shown_15 (by decide) ?_
    obtain ⟨rq15, σ16, qg14, h⟩ := bd2_at h
    refine x_callV (Y := mX12_refused) (d' := 1) dX12_shown_16 ml_X12_270 yv_X12_refused (by omega) rfl rfl (by simp [Value.category]) (sR_is rfl rfl) (lc_X12_refused qg14) ?_
    refine r_iret rfl dX12_shown_19 ?_
    exact lfI h
set_option maxRecDepth 8000 in
theorem lc_X12_shown {ad : Nat → Nat} {x1 : Int32} {σ τ : sS} {r : Int32} (h : L_X12_shown x1 σ = some (r, τ)) : ab_X (sR ad) 2 mX12_shown [.ref (ad 90), .int x1] σ (some (.int r)) τ := ab_X.of (by decide) (Nat.le_of_ble_eq_true rfl) (e_X12_shown h)
set_option maxRecDepth 8000 in
def L_X12_letter (x1 : Int32) (σ : sS) : Option (Int32 × sS) := bnd (uI σ 90 0 0) (fun σ1 => if (vI σ1 90 71) = 0 then (bnd (uI σ1 90 0 1) (fun σ3 => some ((0, σ3)))) else (if (L_X12_in x1 0 (((vI σ1 90 68) + (vI σ1 90 69)) - 1)) = 0 then (bnd (uI σ1 90 0 1) (fun σ5 => some ((0, σ5)))) else (if (vI σ1 90 68) ≤ x1 then (grd (inb (x1 - (vI σ1 90 68)) 1001) (some ((vI σ1 167 (x1 - (vI σ1 90 68)).toNatClampNeg, σ1)))) else (grd (inb x1 1000) (some ((vI σ1 166 x1.toNatClampNeg, σ1)))))))
set_option maxRecDepth 8000 in
theorem e_X12_letter {ad : Nat → Nat} {x1 : Int32} {σ : sS} {z : (Int32 × sS)} (h : L_X12_letter x1 σ = some z) : ab_E (sR ad) mX12_letter 2 0 [(0, .ref (ad 90)), (1, .int x1)] [] σ (fun r9 σ9 => r9 = some (.int z.1) ∧ σ9 = z.2) := by
  unfold L_X12_letter at h
  refine r_aload_n dX12_letter_0 0 rfl ?_
  refine r_iconst (v := 0) dX12_letter_1 (by decide) ?_
  refine s_putI ok_X12 dX12_letter_2 (k := 0) (by decide) fl_X12_131 rfl rfl rfl rfl rfl ?_
  refine r_st (fun σ1 eσ1 => ?_)
  replace h := bnd_at h eσ1
  refine r_aload_n dX12_letter_5 0 rfl ?_
  refine s_getI ok_X12 dX12_letter_6 (k := 71) (by decide) fl_X12_492 rfl rfl ?_
  refine r_if_eq (t := 60) dX12_letter_9 (by decide) (fun qc2 => ?_) (fun qc2 => ?_)
  · replace h := ifp h qc2
    refine r_aload_n dX12_letter_60 0 rfl ?_
    refine r_iconst (v := 1) dX12_letter_61 (by decide) ?_
    refine s_putI ok_X12 dX12_letter_62 (k := 0) (by decide) fl_X12_131 rfl rfl rfl rfl rfl ?_
    refine r_st (fun σ3 eσ3 => ?_)
    replace h := bnd_at h eσ3
    refine r_iconst (v := 0) dX12_letter_65 (by decide) ?_
    refine r_iret rfl dX12_letter_66 ?_
    exact lfI h
  · replace h := ifn h qc2
    refine r_iload_n dX12_letter_12 1 rfl ?_
    refine r_iconst (v := 0) dX12_letter_13 (by decide) ?_
    refine r_aload_n dX12_letter_14 0 rfl ?_
    refine s_getI ok_X12 dX12_letter_15 (k := 68) (by decide) fl_X12_495 rfl rfl ?_
    refine r_aload_n dX12_letter_18 0 rfl ?_
    refine s_getI ok_X12 dX12_letter_19 (k := 69) (by decide) fl_X12_489 rfl rfl ?_
    refine r_iadd dX12_letter_22 ?_
    refine r_iconst (v := 1) dX12_letter_23 (by decide) ?_
    refine r_isub dX12_letter_24 ?_
    refine x_callS (Y := mX12_in) (d' := 1) dX12_letter_25 ml_X12_156 ys_X12_in (by omega) rfl rfl (by simp [Value.category]) (lc_X12_in x1 0 (((vI σ1 90 68) + (vI σ1 90 69)) - 1) σ1) ?_
    refine r_if_eq (t := 60) dX12_letter_28 (by decide) (fun qc4 => ?_) (fun qc4 => ?_)
    · replace h := ifp h qc4
      refine r_aload_n dX12_letter_60 0 rfl ?_
      refine r_iconst (v := 1) dX12_letter_61 (by decide) ?_
      refine s_putI ok_X12 dX12_letter_62 (k := 0) (by decide) fl_X12_131 rfl rfl rfl rfl rfl ?_
      refine r_st (fun σ5 eσ5 => ?_)
      replace h := bnd_at h eσ5
      refine r_iconst (v := 0) dX12_letter_65 (by decide) ?_
      refine r_iret rfl dX12_letter_66 ?_
      exact lfI h
    · replace h := ifn h qc4
      refine r_iload_n dX12_letter_31 1 rfl ?_
      refine r_aload_n dX12_letter_32 0 rfl ?_
      refine s_getI ok_X12 dX12_letter_33 (k := 68) (by decide) fl_X12_495 rfl rfl ?_
      refine r_icmp_ge (t := 48) dX12_letter_36 (by decide) (fun qc6 => ?_) (fun qc6 => ?_)
      · replace h := ifp h qc6
        refine r_aload_n dX12_letter_48 0 rfl ?_
        refine s_getR (b := 167) ok_X12 dX12_letter_49 (k := 67) (by decide) fl_X12_128 rfl rfl rfl ?_
        refine r_iload_n dX12_letter_52 1 rfl ?_
        refine r_aload_n dX12_letter_53 0 rfl ?_
        refine s_getI ok_X12 dX12_letter_54 (k := 68) (by decide) fl_X12_495 rfl rfl ?_
        refine r_isub dX12_letter_57 ?_
        obtain ⟨qg7, h⟩ := grd_at h
        refine s_iald dX12_letter_58 rfl (inb_of qg7) ?_
        refine r_iret rfl dX12_letter_59 ?_
        exact lfI h
      · replace h := ifn h qc6
        refine r_aload_n dX12_letter_39 0 rfl ?_
        refine s_getR (b := 166) ok_X12 dX12_letter_40 (k := 66) (by decide) fl_X12_125 rfl rfl rfl ?_
        refine r_iload_n dX12_letter_43 1 rfl ?_
        obtain ⟨qg8, h⟩ := grd_at h
        refine s_iald dX12_letter_44 rfl (inb_of qg8) ?_
        refine r_goto (t := 59) dX12_letter_45 (by decide) ?_
        refine r_iret rfl dX12_letter_59 ?_
        exact lfI h
set_option maxRecDepth 8000 in
theorem lc_X12_letter {ad : Nat → Nat} {x1 : Int32} {σ τ : sS} {r : Int32} (h : L_X12_letter x1 σ = some (r, τ)) : ab_X (sR ad) 2 mX12_letter [.ref (ad 90), .int x1] σ (some (.int r)) τ := ab_X.of (by decide) (Nat.le_of_ble_eq_true rfl) (e_X12_letter h)
set_option maxRecDepth 8000 in
def L_X12_link (F : Nat) (x1 : Int32) (x2 : Int32) (x3 : Int32) (x4 : Int32) (x5 : Int32) (σ : sS) : Option (Int32 × sS) := bnd (uI σ 90 0 0) (fun σ1 => bd (L_X12_isState x1 x2 σ1) (fun rq3 => if rq3 = 0 then (bd2 (L_X12_refused 1 σ1) (fun rq6 σ7 => some ((rq6, σ7)))) else (bd (L_X12_isLetter x3 σ1) (fun rq9 => if rq9 = 0 then (bd2 (L_X12_refused 1 σ1) (fun rq12 σ13 => some ((rq12, σ13)))) else (bd (L_X12_isState x1 x4 σ1) (fun rq15 => if rq15 = 0 then (bd2 (L_X12_refused 1 σ1) (fun rq47 σ48 => some ((rq47, σ48)))) else (bnd ((((16 : Int32) * x1) + ((4 : Int32) * x3)) + x2) (fun yq17 => grd (inb yq17 96) (if (((vI σ1 117 yq17.toNatClampNeg) >>> (x4 &&& 31)) &&& 1) = 1 then (if (1 : Int32) = x5 then (bd2 (L_X12_refused 5 σ1) (fun rq44 σ45 => some ((rq44, σ45)))) else (grd (inb yq17 96) (grd (inb yq17 96) (bnd (uI σ1 117 yq17.toNatClampNeg ((vI σ1 117 yq17.toNatClampNeg) ^^^ ((1 : Int32) <<< (x4 &&& 31)))) (fun σ36 => bnd (uI σ36 90 32 ((-1))) (fun σ37 => bd (L_X12_edgeMany F x1 σ37) (fun rq39 => bd2 (L_X12_good rq39 σ37) (fun rq41 σ42 => some ((rq41, σ42)))))))))) else (if (0 : Int32) = x5 then (bd2 (L_X12_refused 5 σ1) (fun rq31 σ32 => some ((rq31, σ32)))) else (grd (inb yq17 96) (grd (inb yq17 96) (bnd (uI σ1 117 yq17.toNatClampNeg ((vI σ1 117 yq17.toNatClampNeg) ^^^ ((1 : Int32) <<< (x4 &&& 31)))) (fun σ23 => bnd (uI σ23 90 32 ((-1))) (fun σ24 => bd (L_X12_edgeMany F x1 σ24) (fun rq26 => bd2 (L_X12_good rq26 σ24) (fun rq28 σ29 => some ((rq28, σ29)))))))))))))))))))
set_option maxRecDepth 8000 in
theorem e_X12_link {ad : Nat → Nat} {F : Nat} {x1 : Int32} {x2 : Int32} {x3 : Int32} {x4 : Int32} {x5 : Int32} {σ : sS} {z : (Int32 × sS)} (h : L_X12_link F x1 x2 x3 x4 x5 σ = some z) : ab_E (sR ad) mX12_link 4 0 [(0, .ref (ad 90)), (1, .int x1), (2, .int x2), (3, .int x3), (4, .int x4), (5, .int x5)] [] σ (fun r9 σ9 => r9 = some (.int z.1) ∧ σ9 = z.2) := by
  unfold L_X12_link at h
  refine r_aload_n dX12_link_0 0 rfl ?_
  refine r_iconst (v := 0) dX12_link_1 (by decide) ?_
  refine s_putI ok_X12 dX12_link_2 (k := 0) (by decide) fl_X12_131 rfl rfl rfl rfl rfl ?_
  refine r_st (fun σ1 eσ1 => ?_)
  replace h := bnd_at h eσ1
  refine r_aload_n dX12_link_5 0 rfl ?_
  refine r_iload_n dX12_link_6 1 rfl ?_
  refine r_iload_n dX12_link_7 2 rfl ?_
  obtain ⟨rq3, qg2, h⟩ := bd_at h
  refine x_callV (Y := mX12_isState) (d' := 3) dX12_link_8 ml_X12_302 yv_X12_isState (by omega) rfl rfl (by simp [Value.category]) (sR_is rfl rfl) (lc_X12_isState qg2) ?_
  refine r_if_eq (t := 32) dX12_link_11 (by decide) (fun qc4 => ?_) (fun qc4 => ?_)
  · replace h := ifp h qc4
    refine r_aload_n dX12_link_32 0 rfl ?_
    refine r_iconst (v := 1) dX12_link_33 (by decide) ?_
    obtain ⟨rq6, σ7, qg5, h⟩ := bd2_at h
    refine x_callV (Y := mX12_refused) (d' := 1) dX12_link_34 ml_X12_270 yv_X12_refused (by omega) rfl rfl (by simp [Value.category]) (sR_is rfl rfl) (lc_X12_refused qg5) ?_
    refine r_iret rfl dX12_link_37 ?_
    exact lfI h
  · replace h := ifn h qc4
    refine r_aload_n dX12_link_14 0 rfl ?_
    refine r_iload_n dX12_link_15 3 rfl ?_
    obtain ⟨rq9, qg8, h⟩ := bd_at h
    refine x_callV (Y := mX12_isLetter) (d' := 2) dX12_link_16 ml_X12_306 yv_X12_isLetter (by omega) rfl rfl (by simp [Value.category]) (sR_is rfl rfl) (lc_X12_isLetter qg8) ?_
    refine r_if_eq (t := 32) dX12_link_19 (by decide) (fun qc10 => ?_) (fun qc10 => ?_)
    · replace h := ifp h qc10
      refine r_aload_n dX12_link_32 0 rfl ?_
      refine r_iconst (v := 1) dX12_link_33 (by decide) ?_
      obtain ⟨rq12, σ13, qg11, h⟩ := bd2_at h
      refine x_callV (Y := mX12_refused) (d' := 1) dX12_link_34 ml_X12_270 yv_X12_refused (by omega) rfl rfl (by simp [Value.category]) (sR_is rfl rfl) (lc_X12_refused qg11) ?_
      refine r_iret rfl dX12_link_37 ?_
      exact lfI h
    · replace h := ifn h qc10
      refine r_aload_n dX12_link_22 0 rfl ?_
      refine r_iload_n dX12_link_23 1 rfl ?_
      refine r_iload dX12_link_24 4 rfl ?_
      obtain ⟨rq15, qg14, h⟩ := bd_at h
      refine x_callV (Y := mX12_isState) (d' := 3) dX12_link_26 ml_X12_302 yv_X12_isState (by omega) rfl rfl (by simp [Value.category]) (sR_is rfl rfl) (lc_X12_isState qg14) ?_
      refine r_if_ne (t := 38) dX12_link_29 (by decide) (fun qc16 => ?_) (fun qc16 => ?_)
      · replace h := ifn h qc16
        refine r_bipush (v := 16) dX12_link_38 (by decide) ?_
        refine r_iload_n dX12_link_40 1 rfl ?_
        refine r_imul dX12_link_41 ?_
        refine r_iconst (v := 4) dX12_link_42 (by decide) ?_
        refine r_iload_n dX12_link_43 3 rfl ?_
        refine r_imul dX12_link_44 ?_
        refine r_iadd dX12_link_45 ?_
        refine r_iload_n dX12_link_46 2 rfl ?_
        refine r_iadd dX12_link_47 ?_
        refine r_topi (fun yq17 eyq17 => ?_)
        replace h := bnd_at h eyq17
        refine r_istore (lo' := [(6, .int yq17), (0, .ref (ad 90)), (1, .int x1), (2, .int x2), (3, .int x3), (4, .int x4), (5, .int x5)]) dX12_link_48 (by decide) rfl ?_
        refine r_aload_n dX12_link_50 1 rfl ?_
        refine s_getR (b := 117) ok_X12 dX12_link_51 (k := 17) (by decide) fl_X12_26 rfl rfl rfl ?_
        refine r_iload dX12_link_54 0 rfl ?_
        obtain ⟨qg18, h⟩ := grd_at h
        refine s_iald dX12_link_56 rfl (inb_of qg18) ?_
        refine r_iload dX12_link_57 5 rfl ?_
        refine r_ishr dX12_link_59 ?_
        refine r_iconst (v := 1) dX12_link_60 (by decide) ?_
        refine r_iand dX12_link_61 ?_
        refine r_iconst (v := 1) dX12_link_62 (by decide) ?_
        refine r_icmp_ne (t := 70) dX12_link_63 (by decide) (fun qc19 => ?_) (fun qc19 => ?_)
        · replace h := ifn h qc19
          refine r_iconst (v := 0) dX12_link_70 (by decide) ?_
          refine r_iload dX12_link_71 6 rfl ?_
          refine r_icmp_ne (t := 82) dX12_link_73 (by decide) (fun qc20 => ?_) (fun qc20 => ?_)
          · replace h := ifn h qc20
            refine r_aload_n dX12_link_82 1 rfl ?_
            refine s_getR (b := 117) ok_X12 dX12_link_83 (k := 17) (by decide) fl_X12_26 rfl rfl rfl ?_
            refine r_iload dX12_link_86 0 rfl ?_
            refine r_dup2 dX12_link_88 rfl rfl ?_
            obtain ⟨qg21, h⟩ := grd_at h
            refine s_iald dX12_link_89 rfl (inb_of qg21) ?_
            refine r_iconst (v := 1) dX12_link_90 (by decide) ?_
            refine r_iload dX12_link_91 5 rfl ?_
            refine r_ishl dX12_link_93 ?_
            refine r_ixor dX12_link_94 ?_
            obtain ⟨qg22, h⟩ := grd_at h
            refine s_iast dX12_link_95 rfl (inb_of qg22) ?_
            refine r_st (fun σ23 eσ23 => ?_)
            replace h := bnd_at h eσ23
            refine r_aload_n dX12_link_96 1 rfl ?_
            refine r_iconst (v := (-1)) dX12_link_97 (by decide) ?_
            refine s_putI ok_X12 dX12_link_98 (k := 32) (by decide) fl_X12_61 rfl rfl rfl rfl rfl ?_
            refine r_st (fun σ24 eσ24 => ?_)
            replace h := bnd_at h eσ24
            refine r_aload_n dX12_link_101 1 rfl ?_
            refine r_aload_n dX12_link_102 1 rfl ?_
            refine r_iload_n dX12_link_103 2 rfl ?_
            obtain ⟨rq26, qg25, h⟩ := bd_at h
            refine x_callV (Y := mX12_edgeMany) (d' := 2) dX12_link_104 ml_X12_294 yv_X12_edgeMany (by omega) rfl rfl (by simp [Value.category]) (sR_is rfl rfl) (lc_X12_edgeMany qg25) ?_
            obtain ⟨rq28, σ29, qg27, h⟩ := bd2_at h
            refine x_callV (Y := mX12_good) (d' := 1) dX12_link_107 ml_X12_288 yv_X12_good (by omega) rfl rfl (by simp [Value.category]) (sR_is rfl rfl) (lc_X12_good qg27) ?_
            refine r_iret rfl dX12_link_110 ?_
            exact lfI h
          · replace h := ifp h qc20
            refine r_aload_n dX12_link_76 1 rfl ?_
            refine r_iconst (v := 5) dX12_link_77 (by decide) ?_
            obtain ⟨rq31, σ32, qg30, h⟩ := bd2_at h
            refine x_callV (Y := mX12_refused) (d' := 1) dX12_link_78 ml_X12_270 yv_X12_refused (by omega) rfl rfl (by simp [Value.category]) (sR_is rfl rfl) (lc_X12_refused qg30) ?_
            refine r_iret rfl dX12_link_81 ?_
            exact lfI h
        · replace h := ifp h qc19
          refine r_iconst (v := 1) dX12_link_66 (by decide) ?_
          refine r_goto (t := 71) dX12_link_67 (by decide) ?_
          refine r_iload dX12_link_71 6 rfl ?_
          refine r_icmp_ne (t := 82) dX12_link_73 (by decide) (fun qc33 => ?_) (fun qc33 => ?_)
          · replace h := ifn h qc33
            refine r_aload_n dX12_link_82 1 rfl ?_
            refine s_getR (b := 117) ok_X12 dX12_link_83 (k := 17) (by decide) fl_X12_26 rfl rfl rfl ?_
            refine r_iload dX12_link_86 0 rfl ?_
            refine r_dup2 dX12_link_88 rfl rfl ?_
            obtain ⟨qg34, h⟩ := grd_at h
            refine s_iald dX12_link_89 rfl (inb_of qg34) ?_
            refine r_iconst (v := 1) dX12_link_90 (by decide) ?_
            refine r_iload dX12_link_91 5 rfl ?_
            refine r_ishl dX12_link_93 ?_
            refine r_ixor dX12_link_94 ?_
            obtain ⟨qg35, h⟩ := grd_at h
            refine s_iast dX12_link_95 rfl (inb_of qg35) ?_
            refine r_st (fun σ36 eσ36 => ?_)
            replace h := bnd_at h eσ36
            refine r_aload_n dX12_link_96 1 rfl ?_
            refine r_iconst (v := (-1)) dX12_link_97 (by decide) ?_
            refine s_putI ok_X12 dX12_link_98 (k := 32) (by decide) fl_X12_61 rfl rfl rfl rfl rfl ?_
            refine r_st (fun σ37 eσ37 => ?_)
            replace h := bnd_at h eσ37
            refine r_aload_n dX12_link_101 1 rfl ?_
            refine r_aload_n dX12_link_102 1 rfl ?_
            refine r_iload_n dX12_link_103 2 rfl ?_
            obtain ⟨rq39, qg38, h⟩ := bd_at h
            refine x_callV (Y := mX12_edgeMany) (d' := 2) dX12_link_104 ml_X12_294 yv_X12_edgeMany (by omega) rfl rfl (by simp [Value.category]) (sR_is rfl rfl) (lc_X12_edgeMany qg38) ?_
            obtain ⟨rq41, σ42, qg40, h⟩ := bd2_at h
            refine x_callV (Y := mX12_good) (d' := 1) dX12_link_107 ml_X12_288 yv_X12_good (by omega) rfl rfl (by simp [Value.category]) (sR_is rfl rfl) (lc_X12_good qg40) ?_
            refine r_iret rfl dX12_link_110 ?_
            exact lfI h
          · replace h := ifp h qc33
            refine r_aload_n dX12_link_76 1 rfl ?_
            refine r_iconst (v := 5) dX12_link_77 (by decide) ?_
            obtain ⟨rq44, σ45, qg43, h⟩ := bd2_at h
            refine x_callV (Y := mX12_refused) (d' := 1) dX12_link_78 ml_X12_270 yv_X12_refused (by omega) rfl rfl (by simp [Value.category]) (sR_is rfl rfl) (lc_X12_refused qg43) ?_
            refine r_iret rfl dX12_link_81 ?_
            exact lfI h
      · replace h := ifp h qc16
        refine r_aload_n dX12_link_32 0 rfl ?_
        refine r_iconst (v := 1) dX12_link_33 (by decide) ?_
        obtain ⟨rq47, σ48, qg46, h⟩ := bd2_at h
        refine x_callV (Y := mX12_refused) (d' := 1) dX12_link_34 ml_X12_270 yv_X12_refused (by omega) rfl rfl (by simp [Value.category]) (sR_is rfl rfl) (lc_X12_refused qg46) ?_
        refine r_iret rfl dX12_link_37 ?_
        exact lfI h
set_option maxRecDepth 8000 in
theorem lc_X12_link {ad : Nat → Nat} {F : Nat} {x1 : Int32} {x2 : Int32} {x3 : Int32} {x4 : Int32} {x5 : Int32} {σ τ : sS} {r : Int32} (h : L_X12_link F x1 x2 x3 x4 x5 σ = some (r, τ)) : ab_X (sR ad) 4 mX12_link [.ref (ad 90), .int x1, .int x2, .int x3, .int x4, .int x5] σ (some (.int r)) τ := ab_X.of (by decide) (Nat.le_of_ble_eq_true rfl) (e_X12_link h)
set_option maxRecDepth 8000 in
def L_X12_mark (x1 : Int32) (x2 : Int32) (x3 : Int32) (σ : sS) : Option (Int32 × sS) := bnd (uI σ 90 0 0) (fun σ1 => bd (L_X12_isState x1 x2 σ1) (fun rq3 => if rq3 = 0 then (bd2 (L_X12_refused 1 σ1) (fun rq32 σ33 => some ((rq32, σ33)))) else (grd (inb x1 6) (if (((vI σ1 116 x1.toNatClampNeg) >>> (x2 &&& 31)) &&& 1) = 1 then (if (1 : Int32) = x3 then (bd2 (L_X12_refused 5 σ1) (fun rq29 σ30 => some ((rq29, σ30)))) else (grd (inb x1 6) (grd (inb x1 6) (bnd (uI σ1 116 x1.toNatClampNeg ((vI σ1 116 x1.toNatClampNeg) ^^^ ((1 : Int32) <<< (x2 &&& 31)))) (fun σ22 => bnd (uI σ22 90 32 ((-1))) (fun σ23 => grd (inb x1 6) (bd2 (L_X12_good (vI σ23 116 x1.toNatClampNeg) σ23) (fun rq26 σ27 => some ((rq26, σ27)))))))))) else (if (0 : Int32) = x3 then (bd2 (L_X12_refused 5 σ1) (fun rq17 σ18 => some ((rq17, σ18)))) else (grd (inb x1 6) (grd (inb x1 6) (bnd (uI σ1 116 x1.toNatClampNeg ((vI σ1 116 x1.toNatClampNeg) ^^^ ((1 : Int32) <<< (x2 &&& 31)))) (fun σ10 => bnd (uI σ10 90 32 ((-1))) (fun σ11 => grd (inb x1 6) (bd2 (L_X12_good (vI σ11 116 x1.toNatClampNeg) σ11) (fun rq14 σ15 => some ((rq14, σ15))))))))))))))
set_option maxRecDepth 8000 in
theorem e_X12_mark {ad : Nat → Nat} {x1 : Int32} {x2 : Int32} {x3 : Int32} {σ : sS} {z : (Int32 × sS)} (h : L_X12_mark x1 x2 x3 σ = some z) : ab_E (sR ad) mX12_mark 4 0 [(0, .ref (ad 90)), (1, .int x1), (2, .int x2), (3, .int x3)] [] σ (fun r9 σ9 => r9 = some (.int z.1) ∧ σ9 = z.2) := by
  unfold L_X12_mark at h
  refine r_aload_n dX12_mark_0 0 rfl ?_
  refine r_iconst (v := 0) dX12_mark_1 (by decide) ?_
  refine s_putI ok_X12 dX12_mark_2 (k := 0) (by decide) fl_X12_131 rfl rfl rfl rfl rfl ?_
  refine r_st (fun σ1 eσ1 => ?_)
  replace h := bnd_at h eσ1
  refine r_aload_n dX12_mark_5 0 rfl ?_
  refine r_iload_n dX12_mark_6 1 rfl ?_
  refine r_iload_n dX12_mark_7 2 rfl ?_
  obtain ⟨rq3, qg2, h⟩ := bd_at h
  refine x_callV (Y := mX12_isState) (d' := 3) dX12_mark_8 ml_X12_302 yv_X12_isState (by omega) rfl rfl (by simp [Value.category]) (sR_is rfl rfl) (lc_X12_isState qg2) ?_
  refine r_if_ne (t := 20) dX12_mark_11 (by decide) (fun qc4 => ?_) (fun qc4 => ?_)
  · replace h := ifn h qc4
    refine r_aload_n dX12_mark_20 0 rfl ?_
    refine s_getR (b := 116) ok_X12 dX12_mark_21 (k := 16) (by decide) fl_X12_23 rfl rfl rfl ?_
    refine r_iload_n dX12_mark_24 1 rfl ?_
    obtain ⟨qg5, h⟩ := grd_at h
    refine s_iald dX12_mark_25 rfl (inb_of qg5) ?_
    refine r_iload_n dX12_mark_26 2 rfl ?_
    refine r_ishr dX12_mark_27 ?_
    refine r_iconst (v := 1) dX12_mark_28 (by decide) ?_
    refine r_iand dX12_mark_29 ?_
    refine r_iconst (v := 1) dX12_mark_30 (by decide) ?_
    refine r_icmp_ne (t := 38) dX12_mark_31 (by decide) (fun qc6 => ?_) (fun qc6 => ?_)
    · replace h := ifn h qc6
      refine r_iconst (v := 0) dX12_mark_38 (by decide) ?_
      refine r_iload_n dX12_mark_39 3 rfl ?_
      refine r_icmp_ne (t := 49) dX12_mark_40 (by decide) (fun qc7 => ?_) (fun qc7 => ?_)
      · replace h := ifn h qc7
        refine r_aload_n dX12_mark_49 0 rfl ?_
        refine s_getR (b := 116) ok_X12 dX12_mark_50 (k := 16) (by decide) fl_X12_23 rfl rfl rfl ?_
        refine r_iload_n dX12_mark_53 1 rfl ?_
        refine r_dup2 dX12_mark_54 rfl rfl ?_
        obtain ⟨qg8, h⟩ := grd_at h
        refine s_iald dX12_mark_55 rfl (inb_of qg8) ?_
        refine r_iconst (v := 1) dX12_mark_56 (by decide) ?_
        refine r_iload_n dX12_mark_57 2 rfl ?_
        refine r_ishl dX12_mark_58 ?_
        refine r_ixor dX12_mark_59 ?_
        obtain ⟨qg9, h⟩ := grd_at h
        refine s_iast dX12_mark_60 rfl (inb_of qg9) ?_
        refine r_st (fun σ10 eσ10 => ?_)
        replace h := bnd_at h eσ10
        refine r_aload_n dX12_mark_61 0 rfl ?_
        refine r_iconst (v := (-1)) dX12_mark_62 (by decide) ?_
        refine s_putI ok_X12 dX12_mark_63 (k := 32) (by decide) fl_X12_61 rfl rfl rfl rfl rfl ?_
        refine r_st (fun σ11 eσ11 => ?_)
        replace h := bnd_at h eσ11
        refine r_aload_n dX12_mark_66 0 rfl ?_
        refine r_aload_n dX12_mark_67 0 rfl ?_
        refine s_getR (b := 116) ok_X12 dX12_mark_68 (k := 16) (by decide) fl_X12_23 rfl rfl rfl ?_
        refine r_iload_n dX12_mark_71 1 rfl ?_
        obtain ⟨qg12, h⟩ := grd_at h
        refine s_iald dX12_mark_72 rfl (inb_of qg12) ?_
        obtain ⟨rq14, σ15, qg13, h⟩ := bd2_at h
        refine x_callV (Y := mX12_good) (d' := 1) dX12_mark_73 ml_X12_288 yv_X12_good (by omega) rfl rfl (by simp [Value.category]) (sR_is rfl rfl) (lc_X12_good qg13) ?_
        refine r_iret rfl dX12_mark_76 ?_
        exact lfI h
      · replace h := ifp h qc7
        refine r_aload_n dX12_mark_43 0 rfl ?_
        refine r_iconst (v := 5) dX12_mark_44 (by decide) ?_
        obtain ⟨rq17, σ18, qg16, h⟩ := bd2_at h
        refine x_callV (Y := mX12_refused) (d' := 1) dX12_mark_45 ml_X12_270 yv_X12_refused (by omega) rfl rfl (by simp [Value.category]) (sR_is rfl rfl) (lc_X12_refused qg16) ?_
        refine r_iret rfl dX12_mark_48 ?_
        exact lfI h
    · replace h := ifp h qc6
      refine r_iconst (v := 1) dX12_mark_34 (by decide) ?_
      refine r_goto (t := 39) dX12_mark_35 (by decide) ?_
      refine r_iload_n dX12_mark_39 3 rfl ?_
      refine r_icmp_ne (t := 49) dX12_mark_40 (by decide) (fun qc19 => ?_) (fun qc19 => ?_)
      · replace h := ifn h qc19
        refine r_aload_n dX12_mark_49 0 rfl ?_
        refine s_getR (b := 116) ok_X12 dX12_mark_50 (k := 16) (by decide) fl_X12_23 rfl rfl rfl ?_
        refine r_iload_n dX12_mark_53 1 rfl ?_
        refine r_dup2 dX12_mark_54 rfl rfl ?_
        obtain ⟨qg20, h⟩ := grd_at h
        refine s_iald dX12_mark_55 rfl (inb_of qg20) ?_
        refine r_iconst (v := 1) dX12_mark_56 (by decide) ?_
        refine r_iload_n dX12_mark_57 2 rfl ?_
        refine r_ishl dX12_mark_58 ?_
        refine r_ixor dX12_mark_59 ?_
        obtain ⟨qg21, h⟩ := grd_at h
        refine s_iast dX12_mark_60 rfl (inb_of qg21) ?_
        refine r_st (fun σ22 eσ22 => ?_)
        replace h := bnd_at h eσ22
        refine r_aload_n dX12_mark_61 0 rfl ?_
        refine r_iconst (v := (-1)) dX12_mark_62 (by decide) ?_
        refine s_putI ok_X12 dX12_mark_63 (k := 32) (by decide) fl_X12_61 rfl rfl rfl rfl rfl ?_
        refine r_st (fun σ23 eσ23 => ?_)
        replace h := bnd_at h eσ23
        refine r_aload_n dX12_mark_66 0 rfl ?_
        refine r_aload_n dX12_mark_67 0 rfl ?_
        refine s_getR (b := 116) ok_X12 dX12_mark_68 (k := 16) (by decide) fl_X12_23 rfl rfl rfl ?_
        refine r_iload_n dX12_mark_71 1 rfl ?_
        obtain ⟨qg24, h⟩ := grd_at h
        refine s_iald dX12_mark_72 rfl (inb_of qg24) ?_
        obtain ⟨rq26, σ27, qg25, h⟩ := bd2_at h
        refine x_callV (Y := mX12_good) (d' := 1) dX12_mark_73 ml_X12_288 yv_X12_good (by omega) rfl rfl (by simp [Value.category]) (sR_is rfl rfl) (lc_X12_good qg25) ?_
        refine r_iret rfl dX12_mark_76 ?_
        exact lfI h
      · replace h := ifp h qc19
        refine r_aload_n dX12_mark_43 0 rfl ?_
        refine r_iconst (v := 5) dX12_mark_44 (by decide) ?_
        obtain ⟨rq29, σ30, qg28, h⟩ := bd2_at h
        refine x_callV (Y := mX12_refused) (d' := 1) dX12_mark_45 ml_X12_270 yv_X12_refused (by omega) rfl rfl (by simp [Value.category]) (sR_is rfl rfl) (lc_X12_refused qg28) ?_
        refine r_iret rfl dX12_mark_48 ?_
        exact lfI h
  · replace h := ifp h qc4
    refine r_aload_n dX12_mark_14 0 rfl ?_
    refine r_iconst (v := 1) dX12_mark_15 (by decide) ?_
    obtain ⟨rq32, σ33, qg31, h⟩ := bd2_at h
    refine x_callV (Y := mX12_refused) (d' := 1) dX12_mark_16 ml_X12_270 yv_X12_refused (by omega) rfl rfl (by simp [Value.category]) (sR_is rfl rfl) (lc_X12_refused qg31) ?_
    refine r_iret rfl dX12_mark_19 ?_
    exact lfI h
set_option maxRecDepth 8000 in
theorem lc_X12_mark {ad : Nat → Nat} {x1 : Int32} {x2 : Int32} {x3 : Int32} {σ τ : sS} {r : Int32} (h : L_X12_mark x1 x2 x3 σ = some (r, τ)) : ab_X (sR ad) 4 mX12_mark [.ref (ad 90), .int x1, .int x2, .int x3] σ (some (.int r)) τ := ab_X.of (by decide) (Nat.le_of_ble_eq_true rfl) (e_X12_mark h)
set_option maxRecDepth 8000 in
def L_X12_begin (x1 : Int32) (x2 : Int32) (x3 : Int32) (σ : sS) : Option (Int32 × sS) := bnd (uI σ 90 0 0) (fun σ1 => bd (L_X12_isState x1 x2 σ1) (fun rq3 => if rq3 = 0 then (bd2 (L_X12_refused 1 σ1) (fun rq32 σ33 => some ((rq32, σ33)))) else (grd (inb x1 6) (if (((vI σ1 115 x1.toNatClampNeg) >>> (x2 &&& 31)) &&& 1) = 1 then (if (1 : Int32) = x3 then (bd2 (L_X12_refused 5 σ1) (fun rq29 σ30 => some ((rq29, σ30)))) else (grd (inb x1 6) (grd (inb x1 6) (bnd (uI σ1 115 x1.toNatClampNeg ((vI σ1 115 x1.toNatClampNeg) ^^^ ((1 : Int32) <<< (x2 &&& 31)))) (fun σ22 => bnd (uI σ22 90 32 ((-1))) (fun σ23 => grd (inb x1 6) (bd2 (L_X12_good (vI σ23 115 x1.toNatClampNeg) σ23) (fun rq26 σ27 => some ((rq26, σ27)))))))))) else (if (0 : Int32) = x3 then (bd2 (L_X12_refused 5 σ1) (fun rq17 σ18 => some ((rq17, σ18)))) else (grd (inb x1 6) (grd (inb x1 6) (bnd (uI σ1 115 x1.toNatClampNeg ((vI σ1 115 x1.toNatClampNeg) ^^^ ((1 : Int32) <<< (x2 &&& 31)))) (fun σ10 => bnd (uI σ10 90 32 ((-1))) (fun σ11 => grd (inb x1 6) (bd2 (L_X12_good (vI σ11 115 x1.toNatClampNeg) σ11) (fun rq14 σ15 => some ((rq14, σ15))))))))))))))
set_option maxRecDepth 8000 in
theorem e_X12_begin {ad : Nat → Nat} {x1 : Int32} {x2 : Int32} {x3 : Int32} {σ : sS} {z : (Int32 × sS)} (h : L_X12_begin x1 x2 x3 σ = some z) : ab_E (sR ad) mX12_begin 4 0 [(0, .ref (ad 90)), (1, .int x1), (2, .int x2), (3, .int x3)] [] σ (fun r9 σ9 => r9 = some (.int z.1) ∧ σ9 = z.2) := by
  unfold L_X12_begin at h
  refine r_aload_n dX12_begin_0 0 rfl ?_
  refine r_iconst (v := 0) dX12_begin_1 (by decide) ?_
  refine s_putI ok_X12 dX12_begin_2 (k := 0) (by decide) fl_X12_131 rfl rfl rfl rfl rfl ?_
  refine r_st (fun σ1 eσ1 => ?_)
  replace h := bnd_at h eσ1
  refine r_aload_n dX12_begin_5 0 rfl ?_
  refine r_iload_n dX12_begin_6 1 rfl ?_
  refine r_iload_n dX12_begin_7 2 rfl ?_
  obtain ⟨rq3, qg2, h⟩ := bd_at h
  refine x_callV (Y := mX12_isState) (d' := 3) dX12_begin_8 ml_X12_302 yv_X12_isState (by omega) rfl rfl (by simp [Value.category]) (sR_is rfl rfl) (lc_X12_isState qg2) ?_
  refine r_if_ne (t := 20) dX12_begin_11 (by decide) (fun qc4 => ?_) (fun qc4 => ?_)
  · replace h := ifn h qc4
    refine r_aload_n dX12_begin_20 0 rfl ?_
    refine s_getR (b := 115) ok_X12 dX12_begin_21 (k := 15) (by decide) fl_X12_20 rfl rfl rfl ?_
    refine r_iload_n dX12_begin_24 1 rfl ?_
    obtain ⟨qg5, h⟩ := grd_at h
    refine s_iald dX12_begin_25 rfl (inb_of qg5) ?_
    refine r_iload_n dX12_begin_26 2 rfl ?_
    refine r_ishr dX12_begin_27 ?_
    refine r_iconst (v := 1) dX12_begin_28 (by decide) ?_
    refine r_iand dX12_begin_29 ?_
    refine r_iconst (v := 1) dX12_begin_30 (by decide) ?_
    refine r_icmp_ne (t := 38) dX12_begin_31 (by decide) (fun qc6 => ?_) (fun qc6 => ?_)
    · replace h := ifn h qc6
      refine r_iconst (v := 0) dX12_begin_38 (by decide) ?_
      refine r_iload_n dX12_begin_39 3 rfl ?_
      refine r_icmp_ne (t := 49) dX12_begin_40 (by decide) (fun qc7 => ?_) (fun qc7 => ?_)
      · replace h := ifn h qc7
        refine r_aload_n dX12_begin_49 0 rfl ?_
        refine s_getR (b := 115) ok_X12 dX12_begin_50 (k := 15) (by decide) fl_X12_20 rfl rfl rfl ?_
        refine r_iload_n dX12_begin_53 1 rfl ?_
        refine r_dup2 dX12_begin_54 rfl rfl ?_
        obtain ⟨qg8, h⟩ := grd_at h
        refine s_iald dX12_begin_55 rfl (inb_of qg8) ?_
        refine r_iconst (v := 1) dX12_begin_56 (by decide) ?_
        refine r_iload_n dX12_begin_57 2 rfl ?_
        refine r_ishl dX12_begin_58 ?_
        refine r_ixor dX12_begin_59 ?_
        obtain ⟨qg9, h⟩ := grd_at h
        refine s_iast dX12_begin_60 rfl (inb_of qg9) ?_
        refine r_st (fun σ10 eσ10 => ?_)
        replace h := bnd_at h eσ10
        refine r_aload_n dX12_begin_61 0 rfl ?_
        refine r_iconst (v := (-1)) dX12_begin_62 (by decide) ?_
        refine s_putI ok_X12 dX12_begin_63 (k := 32) (by decide) fl_X12_61 rfl rfl rfl rfl rfl ?_
        refine r_st (fun σ11 eσ11 => ?_)
        replace h := bnd_at h eσ11
        refine r_aload_n dX12_begin_66 0 rfl ?_
        refine r_aload_n dX12_begin_67 0 rfl ?_
        refine s_getR (b := 115) ok_X12 dX12_begin_68 (k := 15) (by decide) fl_X12_20 rfl rfl rfl ?_
        refine r_iload_n dX12_begin_71 1 rfl ?_
        obtain ⟨qg12, h⟩ := grd_at h
        refine s_iald dX12_begin_72 rfl (inb_of qg12) ?_
        obtain ⟨rq14, σ15, qg13, h⟩ := bd2_at h
        refine x_callV (Y := mX12_good) (d' := 1) dX12_begin_73 ml_X12_288 yv_X12_good (by omega) rfl rfl (by simp [Value.category]) (sR_is rfl rfl) (lc_X12_good qg13) ?_
        refine r_iret rfl dX12_begin_76 ?_
        exact lfI h
      · replace h := ifp h qc7
        refine r_aload_n dX12_begin_43 0 rfl ?_
        refine r_iconst (v := 5) dX12_begin_44 (by decide) ?_
        obtain ⟨rq17, σ18, qg16, h⟩ := bd2_at h
        refine x_callV (Y := mX12_refused) (d' := 1) dX12_begin_45 ml_X12_270 yv_X12_refused (by omega) rfl rfl (by simp [Value.category]) (sR_is rfl rfl) (lc_X12_refused qg16) ?_
        refine r_iret rfl dX12_begin_48 ?_
        exact lfI h
    · replace h := ifp h qc6
      refine r_iconst (v := 1) dX12_begin_34 (by decide) ?_
      refine r_goto (t := 39) dX12_begin_35 (by decide) ?_
      refine r_iload_n dX12_begin_39 3 rfl ?_
      refine r_icmp_ne (t := 49) dX12_begin_40 (by decide) (fun qc19 => ?_) (fun qc19 => ?_)
      · replace h := ifn h qc19
        refine r_aload_n dX12_begin_49 0 rfl ?_
        refine s_getR (b := 115) ok_X12 dX12_begin_50 (k := 15) (by decide) fl_X12_20 rfl rfl rfl ?_
        refine r_iload_n dX12_begin_53 1 rfl ?_
        refine r_dup2 dX12_begin_54 rfl rfl ?_
        obtain ⟨qg20, h⟩ := grd_at h
        refine s_iald dX12_begin_55 rfl (inb_of qg20) ?_
        refine r_iconst (v := 1) dX12_begin_56 (by decide) ?_
        refine r_iload_n dX12_begin_57 2 rfl ?_
        refine r_ishl dX12_begin_58 ?_
        refine r_ixor dX12_begin_59 ?_
        obtain ⟨qg21, h⟩ := grd_at h
        refine s_iast dX12_begin_60 rfl (inb_of qg21) ?_
        refine r_st (fun σ22 eσ22 => ?_)
        replace h := bnd_at h eσ22
        refine r_aload_n dX12_begin_61 0 rfl ?_
        refine r_iconst (v := (-1)) dX12_begin_62 (by decide) ?_
        refine s_putI ok_X12 dX12_begin_63 (k := 32) (by decide) fl_X12_61 rfl rfl rfl rfl rfl ?_
        refine r_st (fun σ23 eσ23 => ?_)
        replace h := bnd_at h eσ23
        refine r_aload_n dX12_begin_66 0 rfl ?_
        refine r_aload_n dX12_begin_67 0 rfl ?_
        refine s_getR (b := 115) ok_X12 dX12_begin_68 (k := 15) (by decide) fl_X12_20 rfl rfl rfl ?_
        refine r_iload_n dX12_begin_71 1 rfl ?_
        obtain ⟨qg24, h⟩ := grd_at h
        refine s_iald dX12_begin_72 rfl (inb_of qg24) ?_
        obtain ⟨rq26, σ27, qg25, h⟩ := bd2_at h
        refine x_callV (Y := mX12_good) (d' := 1) dX12_begin_73 ml_X12_288 yv_X12_good (by omega) rfl rfl (by simp [Value.category]) (sR_is rfl rfl) (lc_X12_good qg25) ?_
        refine r_iret rfl dX12_begin_76 ?_
        exact lfI h
      · replace h := ifp h qc19
        refine r_aload_n dX12_begin_43 0 rfl ?_
        refine r_iconst (v := 5) dX12_begin_44 (by decide) ?_
        obtain ⟨rq29, σ30, qg28, h⟩ := bd2_at h
        refine x_callV (Y := mX12_refused) (d' := 1) dX12_begin_45 ml_X12_270 yv_X12_refused (by omega) rfl rfl (by simp [Value.category]) (sR_is rfl rfl) (lc_X12_refused qg28) ?_
        refine r_iret rfl dX12_begin_48 ?_
        exact lfI h
  · replace h := ifp h qc4
    refine r_aload_n dX12_begin_14 0 rfl ?_
    refine r_iconst (v := 1) dX12_begin_15 (by decide) ?_
    obtain ⟨rq32, σ33, qg31, h⟩ := bd2_at h
    refine x_callV (Y := mX12_refused) (d' := 1) dX12_begin_16 ml_X12_270 yv_X12_refused (by omega) rfl rfl (by simp [Value.category]) (sR_is rfl rfl) (lc_X12_refused qg31) ?_
    refine r_iret rfl dX12_begin_19 ?_
    exact lfI h
set_option maxRecDepth 8000 in
theorem lc_X12_begin {ad : Nat → Nat} {x1 : Int32} {x2 : Int32} {x3 : Int32} {σ τ : sS} {r : Int32} (h : L_X12_begin x1 x2 x3 σ = some (r, τ)) : ab_X (sR ad) 4 mX12_begin [.ref (ad 90), .int x1, .int x2, .int x3] σ (some (.int r)) τ := ab_X.of (by decide) (Nat.le_of_ble_eq_true rfl) (e_X12_begin h)
