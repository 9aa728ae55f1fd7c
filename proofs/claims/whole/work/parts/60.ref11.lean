/-! the reference, lifted, 11 -/
set_option maxRecDepth 8000 in
def L_X12_readLasso_10 (F : Nat) (kx : sS → Option sS) : Nat → sS → Option sS
  | 0, _ => none
  | n + 1, σ => if (vI σ 90 7) = 0 then (if (vI σ 90 9) = 2 then (bd2 (L_X12_readLetters_ F 139 (vI σ 90 41) σ) (fun rq6 σ7 => bnd (uI σ7 90 41 rq6) (fun σ8 => L_X12_readLasso_10 F kx n σ8))) else (kx σ)) else (kx σ)
set_option maxRecDepth 8000 in
theorem l_X12_readLasso_10 {ad : Nat → Nat} {F : Nat} {z : sS} {kx : sS → Option sS} (hx : ∀  (σ : sS), kx σ = some z → ab_E (sR ad) mX12_readLasso 5 44 [(0, .ref (ad 90))] [] σ (fun r9 σ9 => r9 = none ∧ σ9 = z)) : ∀ (n : Nat)  (σ : sS), L_X12_readLasso_10 F kx n σ = some z → ab_E (sR ad) mX12_readLasso 5 10 [(0, .ref (ad 90))] [] σ (fun r9 σ9 => r9 = none ∧ σ9 = z) := by
  intro n
  induction n with
  | zero =>
    intro σ h
    rw [L_X12_readLasso_10] at h
    cases h
  | succ n ih =>
    intro σ h
    rw [L_X12_readLasso_10] at h
    refine r_aload_n dX12_readLasso_10 0 rfl ?_
    refine s_getI ok_X12 dX12_readLasso_11 (k := 7) (by decide) fl_X12_140 rfl rfl ?_
    refine r_if_ne (t := 44) dX12_readLasso_14 (by decide) (fun qc3 => ?_) (fun qc3 => ?_)
    · replace h := ifn h qc3
      exact ab_E.lo [0] rfl (hx _ h)
    · replace h := ifp h qc3
      refine r_aload_n dX12_readLasso_17 0 rfl ?_
      refine s_getI ok_X12 dX12_readLasso_18 (k := 9) (by decide) fl_X12_163 rfl rfl ?_
      refine r_iconst (v := 2) dX12_readLasso_21 (by decide) ?_
      refine r_icmp_ne (t := 44) dX12_readLasso_22 (by decide) (fun qc4 => ?_) (fun qc4 => ?_)
      · replace h := ifn h qc4
        exact ab_E.lo [0] rfl (hx _ h)
      · replace h := ifp h qc4
        refine r_aload_n dX12_readLasso_25 0 rfl ?_
        refine r_aload_n dX12_readLasso_26 0 rfl ?_
        refine r_aload_n dX12_readLasso_27 0 rfl ?_
        refine s_getR (b := 139) ok_X12 dX12_readLasso_28 (k := 39) (by decide) fl_X12_67 rfl rfl rfl ?_
        refine r_aload_n dX12_readLasso_31 0 rfl ?_
        refine s_getI ok_X12 dX12_readLasso_32 (k := 41) (by decide) fl_X12_466 rfl rfl ?_
        obtain ⟨rq6, σ7, qg5, h⟩ := bd2_at h
        refine x_callV (Y := mX12_readLetters_) (d' := 4) dX12_readLasso_35 ml_X12_469 yv_X12_readLetters_ (by omega) rfl rfl (by simp [Value.category]) (sR_is rfl rfl) (lc_X12_readLetters_ qg5) ?_
        refine s_putI ok_X12 dX12_readLasso_38 (k := 41) (by decide) fl_X12_466 rfl rfl rfl rfl rfl ?_
        refine r_st (fun σ8 eσ8 => ?_)
        replace h := bnd_at h eσ8
        refine r_goto (t := 10) dX12_readLasso_41 (by decide) ?_
        exact ab_E.lo [0] rfl (ih _ h)
set_option maxRecDepth 8000 in
def L_X12_readLasso_82 (F : Nat) (kx : sS → Option sS) : Nat → sS → Option sS
  | 0, _ => none
  | n + 1, σ => if (vI σ 90 7) = 0 then (if (vI σ 90 9) = 2 then (bd2 (L_X12_readLetters_ F 140 (vI σ 90 42) σ) (fun rq11 σ12 => bnd (uI σ12 90 42 rq11) (fun σ13 => L_X12_readLasso_82 F kx n σ13))) else (kx σ)) else (kx σ)
set_option maxRecDepth 8000 in
theorem l_X12_readLasso_82 {ad : Nat → Nat} {F : Nat} {z : sS} {kx : sS → Option sS} (hx : ∀  (σ : sS), kx σ = some z → ab_E (sR ad) mX12_readLasso 5 116 [(0, .ref (ad 90))] [] σ (fun r9 σ9 => r9 = none ∧ σ9 = z)) : ∀ (n : Nat)  (σ : sS), L_X12_readLasso_82 F kx n σ = some z → ab_E (sR ad) mX12_readLasso 5 82 [(0, .ref (ad 90))] [] σ (fun r9 σ9 => r9 = none ∧ σ9 = z) := by
  intro n
  induction n with
  | zero =>
    intro σ h
    rw [L_X12_readLasso_82] at h
    cases h
  | succ n ih =>
    intro σ h
    rw [L_X12_readLasso_82] at h
    refine r_aload_n dX12_readLasso_82 0 rfl ?_
    refine s_getI ok_X12 dX12_readLasso_83 (k := 7) (by decide) fl_X12_140 rfl rfl ?_
    refine r_if_ne (t := 116) dX12_readLasso_86 (by decide) (fun qc8 => ?_) (fun qc8 => ?_)
    · replace h := ifn h qc8
      exact ab_E.lo [0] rfl (hx _ h)
    · replace h := ifp h qc8
      refine r_aload_n dX12_readLasso_89 0 rfl ?_
      refine s_getI ok_X12 dX12_readLasso_90 (k := 9) (by decide) fl_X12_163 rfl rfl ?_
      refine r_iconst (v := 2) dX12_readLasso_93 (by decide) ?_
      refine r_icmp_ne (t := 116) dX12_readLasso_94 (by decide) (fun qc9 => ?_) (fun qc9 => ?_)
      · replace h := ifn h qc9
        exact ab_E.lo [0] rfl (hx _ h)
      · replace h := ifp h qc9
        refine r_aload_n dX12_readLasso_97 0 rfl ?_
        refine r_aload_n dX12_readLasso_98 0 rfl ?_
        refine r_aload_n dX12_readLasso_99 0 rfl ?_
        refine s_getR (b := 140) ok_X12 dX12_readLasso_100 (k := 40) (by decide) fl_X12_70 rfl rfl rfl ?_
        refine r_aload_n dX12_readLasso_103 0 rfl ?_
        refine s_getI ok_X12 dX12_readLasso_104 (k := 42) (by decide) fl_X12_405 rfl rfl ?_
        obtain ⟨rq11, σ12, qg10, h⟩ := bd2_at h
        refine x_callV (Y := mX12_readLetters_) (d' := 4) dX12_readLasso_107 ml_X12_469 yv_X12_readLetters_ (by omega) rfl rfl (by simp [Value.category]) (sR_is rfl rfl) (lc_X12_readLetters_ qg10) ?_
        refine s_putI ok_X12 dX12_readLasso_110 (k := 42) (by decide) fl_X12_405 rfl rfl rfl rfl rfl ?_
        refine r_st (fun σ13 eσ13 => ?_)
        replace h := bnd_at h eσ13
        refine r_goto (t := 82) dX12_readLasso_113 (by decide) ?_
        exact ab_E.lo [0] rfl (ih _ h)
set_option maxRecDepth 8000 in
def L_X12_readLasso_116 (F : Nat)  (σ : sS) : Option sS := if (L_X12_isSign 41 σ) = 0 then (bd (L_X12_flaw 1 σ) (fun σ15 => bd (L_X12_goOn F σ15) (fun σ17 => bd (L_X12_needsEnd σ17) (fun σ19 => some σ19)))) else (bd (L_X12_goOn F σ) (fun σ11 => bd (L_X12_needsEnd σ11) (fun σ13 => some σ13)))
set_option maxRecDepth 8000 in
theorem l_X12_readLasso_116 {ad : Nat → Nat} {F : Nat} {z : sS}  (σ : sS) (h : L_X12_readLasso_116 F σ = some z) : ab_E (sR ad) mX12_readLasso 5 116 [(0, .ref (ad 90))] [] σ (fun r9 σ9 => r9 = none ∧ σ9 = z) := by
  unfold L_X12_readLasso_116 at h
  refine r_aload_n dX12_readLasso_116 0 rfl ?_
  refine r_bipush (v := 41) dX12_readLasso_117 (by decide) ?_
  refine x_callV (Y := mX12_isSign) (d' := 1) dX12_readLasso_119 ml_X12_221 yv_X12_isSign (by omega) rfl rfl (by simp [Value.category]) (sR_is rfl rfl) (lc_X12_isSign 41 σ) ?_
  refine r_if_ne (t := 130) dX12_readLasso_122 (by decide) (fun qc9 => ?_) (fun qc9 => ?_)
  · replace h := ifn h qc9
    refine r_aload_n dX12_readLasso_130 0 rfl ?_
    obtain ⟨σ11, qg10, h⟩ := bd_at h
    refine x_callV0 (Y := mX12_goOn) (d' := 3) dX12_readLasso_131 ml_X12_209 yv_X12_goOn (by omega) rfl rfl (by simp [Value.category]) (sR_is rfl rfl) (lc_X12_goOn qg10) ?_
    refine r_aload_n dX12_readLasso_134 0 rfl ?_
    obtain ⟨σ13, qg12, h⟩ := bd_at h
    refine x_callV0 (Y := mX12_needsEnd) (d' := 3) dX12_readLasso_135 ml_X12_224 yv_X12_needsEnd (by omega) rfl rfl (by simp [Value.category]) (sR_is rfl rfl) (lc_X12_needsEnd qg12) ?_
    refine r_vret rfl dX12_readLasso_138 ?_
    exact lfV h
  · replace h := ifp h qc9
    refine r_aload_n dX12_readLasso_125 0 rfl ?_
    refine r_iconst (v := 1) dX12_readLasso_126 (by decide) ?_
    obtain ⟨σ15, qg14, h⟩ := bd_at h
    refine x_callV0 (Y := mX12_flaw) (d' := 2) dX12_readLasso_127 ml_X12_205 yv_X12_flaw (by omega) rfl rfl (by simp [Value.category]) (sR_is rfl rfl) (lc_X12_flaw qg14) ?_
    refine r_aload_n dX12_readLasso_130 0 rfl ?_
    obtain ⟨σ17, qg16, h⟩ := bd_at h
    refine x_callV0 (Y := mX12_goOn) (d' := 3) dX12_readLasso_131 ml_X12_209 yv_X12_goOn (by omega) rfl rfl (by simp [Value.category]) (sR_is rfl rfl) (lc_X12_goOn qg16) ?_
    refine r_aload_n dX12_readLasso_134 0 rfl ?_
    obtain ⟨σ19, qg18, h⟩ := bd_at h
    refine x_callV0 (Y := mX12_needsEnd) (d' := 3) dX12_readLasso_135 ml_X12_224 yv_X12_needsEnd (by omega) rfl rfl (by simp [Value.category]) (sR_is rfl rfl) (lc_X12_needsEnd qg18) ?_
    refine r_vret rfl dX12_readLasso_138 ?_
    exact lfV h
set_option maxRecDepth 8000 in
def L_X12_readLasso_58 (F : Nat)  (σ : sS) : Option sS := bd (L_X12_goOn F σ) (fun σ6 => if (vI σ6 90 7) = 0 then (if (vI σ6 90 9) = 2 then (L_X12_readLasso_82 F (fun σ10 => L_X12_readLasso_116 F σ10) F σ6) else (bd (L_X12_flaw 1 σ6) (fun σ12 => L_X12_readLasso_82 F (fun σ13 => L_X12_readLasso_116 F σ13) F σ12))) else (L_X12_readLasso_82 F (fun σ8 => L_X12_readLasso_116 F σ8) F σ6))
set_option maxRecDepth 8000 in
theorem l_X12_readLasso_58 {ad : Nat → Nat} {F : Nat} {z : sS}  (σ : sS) (h : L_X12_readLasso_58 F σ = some z) : ab_E (sR ad) mX12_readLasso 5 58 [(0, .ref (ad 90))] [] σ (fun r9 σ9 => r9 = none ∧ σ9 = z) := by
  unfold L_X12_readLasso_58 at h
  refine r_aload_n dX12_readLasso_58 0 rfl ?_
  obtain ⟨σ6, qg5, h⟩ := bd_at h
  refine x_callV0 (Y := mX12_goOn) (d' := 3) dX12_readLasso_59 ml_X12_209 yv_X12_goOn (by omega) rfl rfl (by simp [Value.category]) (sR_is rfl rfl) (lc_X12_goOn qg5) ?_
  refine r_aload_n dX12_readLasso_62 0 rfl ?_
  refine s_getI ok_X12 dX12_readLasso_63 (k := 7) (by decide) fl_X12_140 rfl rfl ?_
  refine r_if_ne (t := 82) dX12_readLasso_66 (by decide) (fun qc7 => ?_) (fun qc7 => ?_)
  · replace h := ifn h qc7
    refine ab_E.lo [0] rfl (l_X12_readLasso_82 (fun σ8 h => ?_) _ _ h)
    exact ab_E.lo [0] rfl (l_X12_readLasso_116 _ h)
  · replace h := ifp h qc7
    refine r_aload_n dX12_readLasso_69 0 rfl ?_
    refine s_getI ok_X12 dX12_readLasso_70 (k := 9) (by decide) fl_X12_163 rfl rfl ?_
    refine r_iconst (v := 2) dX12_readLasso_73 (by decide) ?_
    refine r_icmp_eq (t := 82) dX12_readLasso_74 (by decide) (fun qc9 => ?_) (fun qc9 => ?_)
    · replace h := ifp h qc9
      refine ab_E.lo [0] rfl (l_X12_readLasso_82 (fun σ10 h => ?_) _ _ h)
      exact ab_E.lo [0] rfl (l_X12_readLasso_116 _ h)
    · replace h := ifn h qc9
      refine r_aload_n dX12_readLasso_77 0 rfl ?_
      refine r_iconst (v := 1) dX12_readLasso_78 (by decide) ?_
      obtain ⟨σ12, qg11, h⟩ := bd_at h
      refine x_callV0 (Y := mX12_flaw) (d' := 2) dX12_readLasso_79 ml_X12_205 yv_X12_flaw (by omega) rfl rfl (by simp [Value.category]) (sR_is rfl rfl) (lc_X12_flaw qg11) ?_
      refine ab_E.lo [0] rfl (l_X12_readLasso_82 (fun σ13 h => ?_) _ _ h)
      exact ab_E.lo [0] rfl (l_X12_readLasso_116 _ h)
set_option maxRecDepth 8000 in
def L_X12_readLasso_44 (F : Nat)  (σ : sS) : Option sS := if (L_X12_isSign 40 σ) = 0 then (bd (L_X12_flaw 1 σ) (fun σ6 => L_X12_readLasso_58 F σ6)) else (L_X12_readLasso_58 F σ)
set_option maxRecDepth 8000 in
theorem l_X12_readLasso_44 {ad : Nat → Nat} {F : Nat} {z : sS}  (σ : sS) (h : L_X12_readLasso_44 F σ = some z) : ab_E (sR ad) mX12_readLasso 5 44 [(0, .ref (ad 90))] [] σ (fun r9 σ9 => r9 = none ∧ σ9 = z) := by
  unfold L_X12_readLasso_44 at h
  refine r_aload_n dX12_readLasso_44 0 rfl ?_
  refine r_bipush (v := 40) dX12_readLasso_45 (by decide) ?_
  refine x_callV (Y := mX12_isSign) (d' := 1) dX12_readLasso_47 ml_X12_221 yv_X12_isSign (by omega) rfl rfl (by simp [Value.category]) (sR_is rfl rfl) (lc_X12_isSign 40 σ) ?_
  refine r_if_ne (t := 58) dX12_readLasso_50 (by decide) (fun qc4 => ?_) (fun qc4 => ?_)
  · replace h := ifn h qc4
    exact ab_E.lo [0] rfl (l_X12_readLasso_58 _ h)
  · replace h := ifp h qc4
    refine r_aload_n dX12_readLasso_53 0 rfl ?_
    refine r_iconst (v := 1) dX12_readLasso_54 (by decide) ?_
    obtain ⟨σ6, qg5, h⟩ := bd_at h
    refine x_callV0 (Y := mX12_flaw) (d' := 2) dX12_readLasso_55 ml_X12_205 yv_X12_flaw (by omega) rfl rfl (by simp [Value.category]) (sR_is rfl rfl) (lc_X12_flaw qg5) ?_
    exact ab_E.lo [0] rfl (l_X12_readLasso_58 _ h)
set_option maxRecDepth 8000 in
def L_X12_readLasso (F : Nat) (σ : sS) : Option sS := bnd (uI σ 90 41 0) (fun σ1 => bnd (uI σ1 90 42 0) (fun σ2 => L_X12_readLasso_10 F (fun σ3 => L_X12_readLasso_44 F σ3) F σ2))
set_option maxRecDepth 8000 in
theorem e_X12_readLasso {ad : Nat → Nat} {F : Nat}  {σ : sS} {z : sS} (h : L_X12_readLasso F σ = some z) : ab_E (sR ad) mX12_readLasso 5 0 [(0, .ref (ad 90))] [] σ (fun r9 σ9 => r9 = none ∧ σ9 = z) := by
  unfold L_X12_readLasso at h
  refine r_aload_n dX12_readLasso_0 0 rfl ?_
  refine r_iconst (v := 0) dX12_readLasso_1 (by decide) ?_
  refine s_putI ok_X12 dX12_readLasso_2 (k := 41) (by decide) fl_X12_466 rfl rfl rfl rfl rfl ?_
  refine r_st (fun σ1 eσ1 => ?_)
  replace h := bnd_at h eσ1
  refine r_aload_n dX12_readLasso_5 0 rfl ?_
  refine r_iconst (v := 0) dX12_readLasso_6 (by decide) ?_
  refine s_putI ok_X12 dX12_readLasso_7 (k := 42) (by decide) fl_X12_405 rfl rfl rfl rfl rfl ?_
  refine r_st (fun σ2 eσ2 => ?_)
  replace h := bnd_at h eσ2
  refine ab_E.lo [0] rfl (l_X12_readLasso_10 (fun σ3 h => ?_) _ _ h)
  exact ab_E.lo [0] rfl (l_X12_readLasso_44 _ h)
set_option maxRecDepth 8000 in
theorem lc_X12_readLasso {ad : Nat → Nat} {F : Nat}  {σ τ : sS} (h : L_X12_readLasso F σ = some τ) : ab_X (sR ad) 5 mX12_readLasso [.ref (ad 90)] σ none τ := ab_X.of (by decide) (Nat.le_of_ble_eq_true rfl) (e_X12_readLasso h)
set_option maxRecDepth 8000 in
def L_X12_takes (F : Nat) (x1 : Int32) (x2 : Int32) (σ : sS) : Option (Int32 × sS) := bnd (uI σ 90 0 0) (fun σ1 => bd (L_X12_isAuto x1 σ1) (fun rq3 => if rq3 = 0 then (bd2 (L_X12_refused 1 σ1) (fun rq28 σ29 => some ((rq28, σ29)))) else (if (L_X12_isLong x2 σ1) = 0 then (bd (L_X12_begins F x2 σ1) (fun σ7 => bd (L_X12_readLasso F σ7) (fun σ9 => if (vI σ9 90 7) ≤ 0 then (bd2 (L_X12_isTaken F x1 0 σ9) (fun rq12 σ13 => if rq12 = 0 then (bd2 (L_X12_good 0 σ13) (fun rq16 σ17 => some ((rq16, σ17)))) else (bd2 (L_X12_good 1 σ13) (fun rq19 σ20 => some ((rq19, σ20)))))) else (bd2 (L_X12_faulty σ9) (fun rq22 σ23 => some ((rq22, σ23))))))) else (bd2 (L_X12_refused 2 σ1) (fun rq25 σ26 => some ((rq25, σ26)))))))
set_option maxRecDepth 8000 in
theorem e_X12_takes {ad : Nat → Nat} {F : Nat} {x1 : Int32} {x2 : Int32} {σ : sS} {z : (Int32 × sS)} (h : L_X12_takes F x1 x2 σ = some z) : ab_E (sR ad) mX12_takes 9 0 [(0, .ref (ad 90)), (1, .int x1), (2, .int x2)] [] σ (fun r9 σ9 => r9 = some (.int z.1) ∧ σ9 = z.2) := by
  unfold L_X12_takes at h
  refine r_aload_n dX12_takes_0 0 rfl ?_
  refine r_iconst (v := 0) dX12_takes_1 (by decide) ?_
  refine s_putI ok_X12 dX12_takes_2 (k := 0) (by decide) fl_X12_131 rfl rfl rfl rfl rfl ?_
  refine r_st (fun σ1 eσ1 => ?_)
  replace h := bnd_at h eσ1
  refine r_aload_n dX12_takes_5 0 rfl ?_
  refine r_iload_n dX12_takes_6 1 rfl ?_
  obtain ⟨rq3, qg2, h⟩ := bd_at h
  refine x_callV (Y := mX12_isAuto) (d' := 2) dX12_takes_7 ml_X12_291 yv_X12_isAuto (by omega) rfl rfl (by simp [Value.category]) (sR_is rfl rfl) (lc_X12_isAuto qg2) ?_
  refine r_if_ne (t := 19) dX12_takes_10 (by decide) (fun qc4 => ?_) (fun qc4 => ?_)
  · replace h := ifn h qc4
    refine r_aload_n dX12_takes_19 0 rfl ?_
    refine r_iload_n dX12_takes_20 2 rfl ?_
    refine x_callV (Y := mX12_isLong) (d' := 2) dX12_takes_21 ml_X12_267 yv_X12_isLong (by omega) rfl rfl (by simp [Value.category]) (sR_is rfl rfl) (lc_X12_isLong x2 σ1) ?_
    refine r_if_eq (t := 33) dX12_takes_24 (by decide) (fun qc5 => ?_) (fun qc5 => ?_)
    · replace h := ifp h qc5
      refine r_aload_n dX12_takes_33 0 rfl ?_
      refine r_iload_n dX12_takes_34 2 rfl ?_
      obtain ⟨σ7, qg6, h⟩ := bd_at h
      refine x_callV0 (Y := mX12_begins) (d' := 4) dX12_takes_35 ml_X12_274 yv_X12_begins (by omega) rfl rfl (by simp [Value.category]) (sR_is rfl rfl) (lc_X12_begins qg6) ?_
      refine r_aload_n dX12_takes_38 0 rfl ?_
      obtain ⟨σ9, qg8, h⟩ := bd_at h
      refine x_callV0 (Y := mX12_readLasso) (d' := 5) dX12_takes_39 ml_X12_472 yv_X12_readLasso (by omega) rfl rfl (by simp [Value.category]) (sR_is rfl rfl) (lc_X12_readLasso qg8) ?_
      refine r_aload_n dX12_takes_42 0 rfl ?_
      refine s_getI ok_X12 dX12_takes_43 (k := 7) (by decide) fl_X12_140 rfl rfl ?_
      refine r_if_le (t := 54) dX12_takes_46 (by decide) (fun qc10 => ?_) (fun qc10 => ?_)
      · replace h := ifp h qc10
        refine r_aload_n dX12_takes_54 0 rfl ?_
        refine r_aload_n dX12_takes_55 0 rfl ?_
        refine r_iload_n dX12_takes_56 1 rfl ?_
        refine r_iconst (v := 0) dX12_takes_57 (by decide) ?_
        obtain ⟨rq12, σ13, qg11, h⟩ := bd2_at h
        refine x_callV (Y := mX12_isTaken) (d' := 8) dX12_takes_58 ml_X12_475 yv_X12_isTaken (by omega) rfl rfl (by simp [Value.category]) (sR_is rfl rfl) (lc_X12_isTaken qg11) ?_
        refine r_if_eq (t := 68) dX12_takes_61 (by decide) (fun qc14 => ?_) (fun qc14 => ?_)
        · replace h := ifp h qc14
          refine r_iconst (v := 0) dX12_takes_68 (by decide) ?_
          obtain ⟨rq16, σ17, qg15, h⟩ := bd2_at h
          refine x_callV (Y := mX12_good) (d' := 1) dX12_takes_69 ml_X12_288 yv_X12_good (by omega) rfl rfl (by simp [Value.category]) (sR_is rfl rfl) (lc_X12_good qg15) ?_
          refine r_iret rfl dX12_takes_72 ?_
          exact lfI h
        · replace h := ifn h qc14
          refine r_iconst (v := 1) dX12_takes_64 (by decide) ?_
          refine r_goto (t := 69) dX12_takes_65 (by decide) ?_
          obtain ⟨rq19, σ20, qg18, h⟩ := bd2_at h
          refine x_callV (Y := mX12_good) (d' := 1) dX12_takes_69 ml_X12_288 yv_X12_good (by omega) rfl rfl (by simp [Value.category]) (sR_is rfl rfl) (lc_X12_good qg18) ?_
          refine r_iret rfl dX12_takes_72 ?_
          exact lfI h
      · replace h := ifn h qc10
        refine r_aload_n dX12_takes_49 0 rfl ?_
        obtain ⟨rq22, σ23, qg21, h⟩ := bd2_at h
        refine x_callV (Y := mX12_faulty) (d' := 1) dX12_takes_50 ml_X12_280 yv_X12_faulty (by omega) rfl rfl (by simp [Value.category]) (sR_is rfl rfl) (lc_X12_faulty qg21) ?_
        refine r_iret rfl dX12_takes_53 ?_
        exact lfI h
    · replace h := ifn h qc5
      refine r_aload_n dX12_takes_27 0 rfl ?_
      refine r_iconst (v := 2) dX12_takes_28 (by decide) ?_
      obtain ⟨rq25, σ26, qg24, h⟩ := bd2_at h
      refine x_callV (Y := mX12_refused) (d' := 1) dX12_takes_29 ml_X12_270 yv_X12_refused (by omega) rfl rfl (by simp [Value.category]) (sR_is rfl rfl) (lc_X12_refused qg24) ?_
      refine r_iret rfl dX12_takes_32 ?_
      exact lfI h
  · replace h := ifp h qc4
    refine r_aload_n dX12_takes_13 0 rfl ?_
    refine r_iconst (v := 1) dX12_takes_14 (by decide) ?_
    obtain ⟨rq28, σ29, qg27, h⟩ := bd2_at h
    refine x_callV (Y := mX12_refused) (d' := 1) dX12_takes_15 ml_X12_270 yv_X12_refused (by omega) rfl rfl (by simp [Value.category]) (sR_is rfl rfl) (lc_X12_refused qg27) ?_
    refine r_iret rfl dX12_takes_18 ?_
    exact lfI h
set_option maxRecDepth 8000 in
theorem lc_X12_takes {ad : Nat → Nat} {F : Nat} {x1 : Int32} {x2 : Int32} {σ τ : sS} {r : Int32} (h : L_X12_takes F x1 x2 σ = some (r, τ)) : ab_X (sR ad) 9 mX12_takes [.ref (ad 90), .int x1, .int x2] σ (some (.int r)) τ := ab_X.of (by decide) (Nat.le_of_ble_eq_true rfl) (e_X12_takes h)
set_option maxRecDepth 8000 in
def L_X12_lacks (F : Nat) (x1 : Int32) (x2 : Int32) (σ : sS) : Option (Int32 × sS) := bnd (uI σ 90 0 0) (fun σ1 => bd (L_X12_isAuto x1 σ1) (fun rq3 => if rq3 = 0 then (bd2 (L_X12_refused 1 σ1) (fun rq35 σ36 => some ((rq35, σ36)))) else (if (L_X12_isLong x2 σ1) = 0 then (bd (L_X12_begins F x2 σ1) (fun σ7 => bd (L_X12_readLasso F σ7) (fun σ9 => if (vI σ9 90 7) ≤ 0 then (bd2 (L_X12_lays F x1 σ9) (fun rq12 σ13 => if rq12 = 0 then (bd2 (L_X12_refused 3 σ13) (fun rq26 σ27 => some ((rq26, σ27)))) else (bd2 (L_X12_isTaken F x1 1 σ13) (fun rq16 σ17 => if rq16 = 0 then (bd2 (L_X12_good 0 σ17) (fun rq20 σ21 => some ((rq20, σ21)))) else (bd2 (L_X12_good 1 σ17) (fun rq23 σ24 => some ((rq23, σ24)))))))) else (bd2 (L_X12_faulty σ9) (fun rq29 σ30 => some ((rq29, σ30))))))) else (bd2 (L_X12_refused 2 σ1) (fun rq32 σ33 => some ((rq32, σ33)))))))
set_option maxRecDepth 8000 in
theorem e_X12_lacks {ad : Nat → Nat} {F : Nat} {x1 : Int32} {x2 : Int32} {σ : sS} {z : (Int32 × sS)} (h : L_X12_lacks F x1 x2 σ = some z) : ab_E (sR ad) mX12_lacks 9 0 [(0, .ref (ad 90)), (1, .int x1), (2, .int x2)] [] σ (fun r9 σ9 => r9 = some (.int z.1) ∧ σ9 = z.2) := by
  unfold L_X12_lacks at h
  refine r_aload_n dX12_lacks_0 0 rfl ?_
  refine r_iconst (v := 0) dX12_lacks_1 (by decide) ?_
  refine s_putI ok_X12 dX12_lacks_2 (k := 0) (by decide) fl_X12_131 rfl rfl rfl rfl rfl ?_
  refine r_st (fun σ1 eσ1 => ?_)
  replace h := bnd_at h eσ1
  refine r_aload_n dX12_lacks_5 0 rfl ?_
  refine r_iload_n dX12_lacks_6 1 rfl ?_
  obtain ⟨rq3, qg2, h⟩ := bd_at h
  refine x_callV (Y := mX12_isAuto) (d' := 2) dX12_lacks_7 ml_X12_291 yv_X12_isAuto (by omega) rfl rfl (by simp [Value.category]) (sR_is rfl rfl) (lc_X12_isAuto qg2) ?_
  refine r_if_ne (t := 19) dX12_lacks_10 (by decide) (fun qc4 => ?_) (fun qc4 => ?_)
  · replace h := ifn h qc4
    refine r_aload_n dX12_lacks_19 0 rfl ?_
    refine r_iload_n dX12_lacks_20 2 rfl ?_
    refine x_callV (Y := mX12_isLong) (d' := 2) dX12_lacks_21 ml_X12_267 yv_X12_isLong (by omega) rfl rfl (by simp [Value.category]) (sR_is rfl rfl) (lc_X12_isLong x2 σ1) ?_
    refine r_if_eq (t := 33) dX12_lacks_24 (by decide) (fun qc5 => ?_) (fun qc5 => ?_)
    · replace h := ifp h qc5
      refine r_aload_n dX12_lacks_33 0 rfl ?_
      refine r_iload_n dX12_lacks_34 2 rfl ?_
      obtain ⟨σ7, qg6, h⟩ := bd_at h
      refine x_callV0 (Y := mX12_begins) (d' := 4) dX12_lacks_35 ml_X12_274 yv_X12_begins (by omega) rfl rfl (by simp [Value.category]) (sR_is rfl rfl) (lc_X12_begins qg6) ?_
      refine r_aload_n dX12_lacks_38 0 rfl ?_
      obtain ⟨σ9, qg8, h⟩ := bd_at h
      refine x_callV0 (Y := mX12_readLasso) (d' := 5) dX12_lacks_39 ml_X12_472 yv_X12_readLasso (by omega) rfl rfl (by simp [Value.category]) (sR_is rfl rfl) (lc_X12_readLasso qg8) ?_
      refine r_aload_n dX12_lacks_42 0 rfl ?_
      refine s_getI ok_X12 dX12_lacks_43 (k := 7) (by decide) fl_X12_140 rfl rfl ?_
      refine r_if_le (t := 54) dX12_lacks_46 (by decide) (fun qc10 => ?_) (fun qc10 => ?_)
      · replace h := ifp h qc10
        refine r_aload_n dX12_lacks_54 0 rfl ?_
        refine r_iload_n dX12_lacks_55 1 rfl ?_
        obtain ⟨rq12, σ13, qg11, h⟩ := bd2_at h
        refine x_callV (Y := mX12_lays) (d' := 4) dX12_lacks_56 ml_X12_372 yv_X12_lays (by omega) rfl rfl (by simp [Value.category]) (sR_is rfl rfl) (lc_X12_lays qg11) ?_
        refine r_if_ne (t := 68) dX12_lacks_59 (by decide) (fun qc14 => ?_) (fun qc14 => ?_)
        · replace h := ifn h qc14
          refine r_aload_n dX12_lacks_68 0 rfl ?_
          refine r_aload_n dX12_lacks_69 0 rfl ?_
          refine r_iload_n dX12_lacks_70 1 rfl ?_
          refine r_iconst (v := 1) dX12_lacks_71 (by decide) ?_
          obtain ⟨rq16, σ17, qg15, h⟩ := bd2_at h
          refine x_callV (Y := mX12_isTaken) (d' := 8) dX12_lacks_72 ml_X12_475 yv_X12_isTaken (by omega) rfl rfl (by simp [Value.category]) (sR_is rfl rfl) (lc_X12_isTaken qg15) ?_
          refine r_if_eq (t := 82) dX12_lacks_75 (by decide) (fun qc18 => ?_) (fun qc18 => ?_)
          · replace h := ifp h qc18
            refine r_iconst (v := 0) dX12_lacks_82 (by decide) ?_
            obtain ⟨rq20, σ21, qg19, h⟩ := bd2_at h
            refine x_callV (Y := mX12_good) (d' := 1) dX12_lacks_83 ml_X12_288 yv_X12_good (by omega) rfl rfl (by simp [Value.category]) (sR_is rfl rfl) (lc_X12_good qg19) ?_
            refine r_iret rfl dX12_lacks_86 ?_
            exact lfI h
          · replace h := ifn h qc18
            refine r_iconst (v := 1) dX12_lacks_78 (by decide) ?_
            refine r_goto (t := 83) dX12_lacks_79 (by decide) ?_
            obtain ⟨rq23, σ24, qg22, h⟩ := bd2_at h
            refine x_callV (Y := mX12_good) (d' := 1) dX12_lacks_83 ml_X12_288 yv_X12_good (by omega) rfl rfl (by simp [Value.category]) (sR_is rfl rfl) (lc_X12_good qg22) ?_
            refine r_iret rfl dX12_lacks_86 ?_
            exact lfI h
        · replace h := ifp h qc14
          refine r_aload_n dX12_lacks_62 0 rfl ?_
          refine r_iconst (v := 3) dX12_lacks_63 (by decide) ?_
          obtain ⟨rq26, σ27, qg25, h⟩ := bd2_at h
          refine x_callV (Y := mX12_refused) (d' := 1) dX12_lacks_64 ml_X12_270 yv_X12_refused (by omega) rfl rfl (by simp [Value.category]) (sR_is rfl rfl) (lc_X12_refused qg25) ?_
          refine r_iret rfl dX12_lacks_67 ?_
          exact lfI h
      · replace h := ifn h qc10
        refine r_aload_n dX12_lacks_49 0 rfl ?_
        obtain ⟨rq29, σ30, qg28, h⟩ := bd2_at h
        refine x_callV (Y := mX12_faulty) (d' := 1) dX12_lacks_50 ml_X12_280 yv_X12_faulty (by omega) rfl rfl (by simp [Value.category]) (sR_is rfl rfl) (lc_X12_faulty qg28) ?_
        refine r_iret rfl dX12_lacks_53 ?_
        exact lfI h
    · replace h := ifn h qc5
      refine r_aload_n dX12_lacks_27 0 rfl ?_
      refine r_iconst (v := 2) dX12_lacks_28 (by decide) ?_
      obtain ⟨rq32, σ33, qg31, h⟩ := bd2_at h
      refine x_callV (Y := mX12_refused) (d' := 1) dX12_lacks_29 ml_X12_270 yv_X12_refused (by omega) rfl rfl (by simp [Value.category]) (sR_is rfl rfl) (lc_X12_refused qg31) ?_
      refine r_iret rfl dX12_lacks_32 ?_
      exact lfI h
  · replace h := ifp h qc4
    refine r_aload_n dX12_lacks_13 0 rfl ?_
    refine r_iconst (v := 1) dX12_lacks_14 (by decide) ?_
    obtain ⟨rq35, σ36, qg34, h⟩ := bd2_at h
    refine x_callV (Y := mX12_refused) (d' := 1) dX12_lacks_15 ml_X12_270 yv_X12_refused (by omega) rfl rfl (by simp [Value.category]) (sR_is rfl rfl) (lc_X12_refused qg34) ?_
    refine r_iret rfl dX12_lacks_18 ?_
    exact lfI h
set_option maxRecDepth 8000 in
theorem lc_X12_lacks {ad : Nat → Nat} {F : Nat} {x1 : Int32} {x2 : Int32} {σ τ : sS} {r : Int32} (h : L_X12_lacks F x1 x2 σ = some (r, τ)) : ab_X (sR ad) 9 mX12_lacks [.ref (ad 90), .int x1, .int x2] σ (some (.int r)) τ := ab_X.of (by decide) (Nat.le_of_ble_eq_true rfl) (e_X12_lacks h)
set_option maxRecDepth 8000 in
def L_X12_follows_75 (F : Nat) (x1 : Int32) (x2 : Int32) (σ : sS) (kx : Int32 → Option (Int32 × sS)) : Nat → Int32 → Int32 → Option (Int32 × sS)
  | 0, _, _ => none
  | n + 1, x4, x5 => if (vI σ 90 41) ≤ x5 then (kx x4) else (grd (inb x5 10) (bd (L_X12_afterOf F x1 x4 (vI σ 139 x5.toNatClampNeg) σ) (fun rq20 => L_X12_follows_75 F x1 x2 σ kx n rq20 (x5 + 1))))
set_option maxRecDepth 8000 in
theorem l_X12_follows_75 {ad : Nat → Nat} {F : Nat} {x1 : Int32} {x2 : Int32} {σ : sS} {z : (Int32 × sS)} {kx : Int32 → Option (Int32 × sS)} (hx : ∀ (x4 : Int32), kx x4 = some z → ab_E (sR ad) mX12_follows 6 106 [(4, .int x4), (1, .int x1), (2, .int x2), (0, .ref (ad 90))] [] σ (fun r9 σ9 => r9 = some (.int z.1) ∧ σ9 = z.2)) : ∀ (n : Nat) (x4 : Int32) (x5 : Int32), L_X12_follows_75 F x1 x2 σ kx n x4 x5 = some z → ab_E (sR ad) mX12_follows 6 75 [(4, .int x4), (5, .int x5), (1, .int x1), (2, .int x2), (0, .ref (ad 90))] [] σ (fun r9 σ9 => r9 = some (.int z.1) ∧ σ9 = z.2) := by
  intro n
  induction n with
  | zero =>
    intro x4 x5 h
    rw [L_X12_follows_75] at h
    cases h
  | succ n ih =>
    intro x4 x5 h
    rw [L_X12_follows_75] at h
    refine r_iload dX12_follows_75 1 rfl ?_
    refine r_aload_n dX12_follows_77 4 rfl ?_
    refine s_getI ok_X12 dX12_follows_78 (k := 41) (by decide) fl_X12_466 rfl rfl ?_
    refine r_icmp_ge (t := 106) dX12_follows_81 (by decide) (fun qc17 => ?_) (fun qc17 => ?_)
    · replace h := ifp h qc17
      exact ab_E.lo [0, 2, 3, 4] rfl (hx _ h)
    · replace h := ifn h qc17
      refine r_aload_n dX12_follows_84 4 rfl ?_
      refine r_iload_n dX12_follows_85 2 rfl ?_
      refine r_iload dX12_follows_86 0 rfl ?_
      refine r_aload_n dX12_follows_88 4 rfl ?_
      refine s_getR (b := 139) ok_X12 dX12_follows_89 (k := 39) (by decide) fl_X12_67 rfl rfl rfl ?_
      refine r_iload dX12_follows_92 1 rfl ?_
      obtain ⟨qg18, h⟩ := grd_at h
      refine s_iald dX12_follows_94 rfl (inb_of qg18) ?_
      obtain ⟨rq20, qg19, h⟩ := bd_at h
      refine x_callV (Y := mX12_afterOf) (d' := 2) dX12_follows_95 ml_X12_316 yv_X12_afterOf (by omega) rfl rfl (by simp [Value.category]) (sR_is rfl rfl) (lc_X12_afterOf qg19) ?_
      refine r_istore (lo' := [(4, .int rq20), (5, .int x5), (1, .int x1), (2, .int x2), (0, .ref (ad 90))]) dX12_follows_98 (by decide) rfl ?_
      refine r_iinc (v := x5 + 1) (lo' := [(5, .int (x5 + 1)), (4, .int rq20), (1, .int x1), (2, .int x2), (0, .ref (ad 90))]) dX12_follows_100 1 rfl rfl (by decide) rfl ?_
      refine r_goto (t := 75) dX12_follows_103 (by decide) ?_
      exact ab_E.lo [1, 0, 2, 3, 4] rfl (ih _ _ h)
set_option maxRecDepth 8000 in
def L_X12_follows_118 (F : Nat) (x1 : Int32) (x2 : Int32) (x5 : Int32) (σ : sS) (kx : Int32 → Option (Int32 × sS)) : Nat → Int32 → Int32 → Option (Int32 × sS)
  | 0, _, _ => none
  | n + 1, x4, x6 => if (vI σ 90 42) ≤ x6 then (kx x4) else (grd (inb x6 10) (bd (L_X12_afterOf F x1 x4 (vI σ 140 x6.toNatClampNeg) σ) (fun rq22 => L_X12_follows_118 F x1 x2 x5 σ kx n rq22 (x6 + 1))))
set_option maxRecDepth 8000 in
theorem l_X12_follows_118 {ad : Nat → Nat} {F : Nat} {x1 : Int32} {x2 : Int32} {x5 : Int32} {σ : sS} {z : (Int32 × sS)} {kx : Int32 → Option (Int32 × sS)} (hx : ∀ (x4 : Int32), kx x4 = some z → ab_E (sR ad) mX12_follows 6 149 [(4, .int x4), (1, .int x1), (2, .int x2), (5, .int x5), (0, .ref (ad 90))] [] σ (fun r9 σ9 => r9 = some (.int z.1) ∧ σ9 = z.2)) : ∀ (n : Nat) (x4 : Int32) (x6 : Int32), L_X12_follows_118 F x1 x2 x5 σ kx n x4 x6 = some z → ab_E (sR ad) mX12_follows 6 118 [(4, .int x4), (6, .int x6), (1, .int x1), (2, .int x2), (5, .int x5), (0, .ref (ad 90))] [] σ (fun r9 σ9 => r9 = some (.int z.1) ∧ σ9 = z.2) := by
  intro n
  induction n with
  | zero =>
    intro x4 x6 h
    rw [L_X12_follows_118] at h
    cases h
  | succ n ih =>
    intro x4 x6 h
    rw [L_X12_follows_118] at h
    refine r_iload dX12_follows_118 1 rfl ?_
    refine r_aload_n dX12_follows_120 5 rfl ?_
    refine s_getI ok_X12 dX12_follows_121 (k := 42) (by decide) fl_X12_405 rfl rfl ?_
    refine r_icmp_ge (t := 149) dX12_follows_124 (by decide) (fun qc19 => ?_) (fun qc19 => ?_)
    · replace h := ifp h qc19
      exact ab_E.lo [0, 2, 3, 4, 5] rfl (hx _ h)
    · replace h := ifn h qc19
      refine r_aload_n dX12_follows_127 5 rfl ?_
      refine r_iload_n dX12_follows_128 2 rfl ?_
      refine r_iload dX12_follows_129 0 rfl ?_
      refine r_aload_n dX12_follows_131 5 rfl ?_
      refine s_getR (b := 140) ok_X12 dX12_follows_132 (k := 40) (by decide) fl_X12_70 rfl rfl rfl ?_
      refine r_iload dX12_follows_135 1 rfl ?_
      obtain ⟨qg20, h⟩ := grd_at h
      refine s_iald dX12_follows_137 rfl (inb_of qg20) ?_
      obtain ⟨rq22, qg21, h⟩ := bd_at h
      refine x_callV (Y := mX12_afterOf) (d' := 2) dX12_follows_138 ml_X12_316 yv_X12_afterOf (by omega) rfl rfl (by simp [Value.category]) (sR_is rfl rfl) (lc_X12_afterOf qg21) ?_
      refine r_istore (lo' := [(4, .int rq22), (6, .int x6), (1, .int x1), (2, .int x2), (5, .int x5), (0, .ref (ad 90))]) dX12_follows_141 (by decide) rfl ?_
      refine r_iinc (v := x6 + 1) (lo' := [(6, .int (x6 + 1)), (4, .int rq22), (1, .int x1), (2, .int x2), (5, .int x5), (0, .ref (ad 90))]) dX12_follows_143 1 rfl rfl (by decide) rfl ?_
      refine r_goto (t := 118) dX12_follows_146 (by decide) ?_
      exact ab_E.lo [1, 0, 2, 3, 4, 5] rfl (ih _ _ h)
set_option maxRecDepth 8000 in
def L_X12_follows_109 (F : Nat) (x1 : Int32) (x2 : Int32) (σ : sS) (kx : Int32 → Option (Int32 × sS)) : Nat → Int32 → Int32 → Option (Int32 × sS)
  | 0, _, _ => none
  | n + 1, x4, x5 => if x2 ≤ x5 then (kx x4) else (L_X12_follows_118 F x1 x2 x5 σ (fun yq19 => L_X12_follows_109 F x1 x2 σ kx n yq19 (x5 + 1)) F x4 0)
set_option maxRecDepth 8000 in
theorem l_X12_follows_109 {ad : Nat → Nat} {F : Nat} {x1 : Int32} {x2 : Int32} {σ : sS} {z : (Int32 × sS)} {kx : Int32 → Option (Int32 × sS)} (hx : ∀ (x4 : Int32), kx x4 = some z → ab_E (sR ad) mX12_follows 6 155 [(4, .int x4), (0, .ref (ad 90))] [] σ (fun r9 σ9 => r9 = some (.int z.1) ∧ σ9 = z.2)) : ∀ (n : Nat) (x4 : Int32) (x5 : Int32), L_X12_follows_109 F x1 x2 σ kx n x4 x5 = some z → ab_E (sR ad) mX12_follows 6 109 [(4, .int x4), (5, .int x5), (1, .int x1), (2, .int x2), (0, .ref (ad 90))] [] σ (fun r9 σ9 => r9 = some (.int z.1) ∧ σ9 = z.2) := by
  intro n
  induction n with
  | zero =>
    intro x4 x5 h
    rw [L_X12_follows_109] at h
    cases h
  | succ n ih =>
    intro x4 x5 h
    rw [L_X12_follows_109] at h
    refine r_iload dX12_follows_109 1 rfl ?_
    refine r_iload_n dX12_follows_111 3 rfl ?_
    refine r_icmp_ge (t := 155) dX12_follows_112 (by decide) (fun qc18 => ?_) (fun qc18 => ?_)
    · replace h := ifp h qc18
      exact ab_E.lo [0, 4] rfl (hx _ h)
    · replace h := ifn h qc18
      refine r_iconst (v := 0) dX12_follows_115 (by decide) ?_
      refine r_istore (lo' := [(6, .int 0), (4, .int x4), (5, .int x5), (1, .int x1), (2, .int x2), (0, .ref (ad 90))]) dX12_follows_116 (by decide) rfl ?_
      refine ab_E.lo [1, 0, 3, 4, 2, 5] rfl (l_X12_follows_118 (fun yq19 h => ?_) _ _ _ h)
      refine r_iinc (v := x5 + 1) (lo' := [(5, .int (x5 + 1)), (4, .int yq19), (1, .int x1), (2, .int x2), (0, .ref (ad 90))]) dX12_follows_149 3 rfl rfl (by decide) rfl ?_
      refine r_goto (t := 109) dX12_follows_152 (by decide) ?_
      exact ab_E.lo [1, 0, 2, 3, 4] rfl (ih _ _ h)
set_option maxRecDepth 8000 in
def L_X12_follows (F : Nat) (x1 : Int32) (x2 : Int32) (x3 : Int32) (σ : sS) : Option (Int32 × sS) := bnd (uI σ 90 0 0) (fun σ1 => bd (L_X12_isAuto x1 σ1) (fun rq3 => if rq3 = 0 then (bd2 (L_X12_refused 1 σ1) (fun rq29 σ30 => some ((rq29, σ30)))) else (if (L_X12_in x2 0 20) = 0 then (bd2 (L_X12_refused 2 σ1) (fun rq7 σ8 => some ((rq7, σ8)))) else (if (L_X12_isLong x3 σ1) = 0 then (bd (L_X12_begins F x3 σ1) (fun σ11 => bd (L_X12_readLasso F σ11) (fun σ13 => if (vI σ13 90 7) ≤ 0 then (grd (inb x1 6) (bnd (vI σ13 115 x1.toNatClampNeg) (fun yq16 => L_X12_follows_75 F x1 x2 σ13 (fun yq17 => L_X12_follows_109 F x1 x2 σ13 (fun yq18 => bd2 (L_X12_good yq18 σ13) (fun rq20 σ21 => some ((rq20, σ21)))) F yq17 0) F yq16 0))) else (bd2 (L_X12_faulty σ13) (fun rq23 σ24 => some ((rq23, σ24))))))) else (bd2 (L_X12_refused 2 σ1) (fun rq26 σ27 => some ((rq26, σ27))))))))
set_option maxRecDepth 8000 in
theorem e_X12_follows {ad : Nat → Nat} {F : Nat} {x1 : Int32} {x2 : Int32} {x3 : Int32} {σ : sS} {z : (Int32 × sS)} (h : L_X12_follows F x1 x2 x3 σ = some z) : ab_E (sR ad) mX12_follows 6 0 [(0, .ref (ad 90)), (1, .int x1), (2, .int x2), (3, .int x3)] [] σ (fun r9 σ9 => r9 = some (.int z.1) ∧ σ9 = z.2) := by
  unfold L_X12_follows at h
  refine r_aload_n dX12_follows_0 0 rfl ?_
  refine r_iconst (v := 0) dX12_follows_1 (by decide) ?_
  refine s_putI ok_X12 dX12_follows_2 (k := 0) (by decide) fl_X12_131 rfl rfl rfl rfl rfl ?_
  refine r_st (fun σ1 eσ1 => ?_)
  replace h := bnd_at h eσ1
  refine r_aload_n dX12_follows_5 0 rfl ?_
  refine r_iload_n dX12_follows_6 1 rfl ?_
  obtain ⟨rq3, qg2, h⟩ := bd_at h
  refine x_callV (Y := mX12_isAuto) (d' := 2) dX12_follows_7 ml_X12_291 yv_X12_isAuto (by omega) rfl rfl (by simp [Value.category]) (sR_is rfl rfl) (lc_X12_isAuto qg2) ?_
  refine r_if_ne (t := 19) dX12_follows_10 (by decide) (fun qc4 => ?_) (fun qc4 => ?_)
  · replace h := ifn h qc4
    refine r_iload_n dX12_follows_19 2 rfl ?_
    refine r_iconst (v := 0) dX12_follows_20 (by decide) ?_
    refine r_bipush (v := 20) dX12_follows_21 (by decide) ?_
    refine x_callS (Y := mX12_in) (d' := 1) dX12_follows_23 ml_X12_156 ys_X12_in (by omega) rfl rfl (by simp [Value.category]) (lc_X12_in x2 0 20 σ1) ?_
    refine r_if_eq (t := 37) dX12_follows_26 (by decide) (fun qc5 => ?_) (fun qc5 => ?_)
    · replace h := ifp h qc5
      refine r_aload_n dX12_follows_37 0 rfl ?_
      refine r_iconst (v := 2) dX12_follows_38 (by decide) ?_
      obtain ⟨rq7, σ8, qg6, h⟩ := bd2_at h
      refine x_callV (Y := mX12_refused) (d' := 1) dX12_follows_39 ml_X12_270 yv_X12_refused (by omega) rfl rfl (by simp [Value.category]) (sR_is rfl rfl) (lc_X12_refused qg6) ?_
      refine r_iret rfl dX12_follows_42 ?_
      exact lfI h
    · replace h := ifn h qc5
      refine r_aload_n dX12_follows_29 0 rfl ?_
      refine r_iload_n dX12_follows_30 3 rfl ?_
      refine x_callV (Y := mX12_isLong) (d' := 2) dX12_follows_31 ml_X12_267 yv_X12_isLong (by omega) rfl rfl (by simp [Value.category]) (sR_is rfl rfl) (lc_X12_isLong x3 σ1) ?_
      refine r_if_eq (t := 43) dX12_follows_34 (by decide) (fun qc9 => ?_) (fun qc9 => ?_)
      · replace h := ifp h qc9
        refine r_aload_n dX12_follows_43 0 rfl ?_
        refine r_iload_n dX12_follows_44 3 rfl ?_
        obtain ⟨σ11, qg10, h⟩ := bd_at h
        refine x_callV0 (Y := mX12_begins) (d' := 4) dX12_follows_45 ml_X12_274 yv_X12_begins (by omega) rfl rfl (by simp [Value.category]) (sR_is rfl rfl) (lc_X12_begins qg10) ?_
        refine r_aload_n dX12_follows_48 0 rfl ?_
        obtain ⟨σ13, qg12, h⟩ := bd_at h
        refine x_callV0 (Y := mX12_readLasso) (d' := 5) dX12_follows_49 ml_X12_472 yv_X12_readLasso (by omega) rfl rfl (by simp [Value.category]) (sR_is rfl rfl) (lc_X12_readLasso qg12) ?_
        refine r_aload_n dX12_follows_52 0 rfl ?_
        refine s_getI ok_X12 dX12_follows_53 (k := 7) (by decide) fl_X12_140 rfl rfl ?_
        refine r_if_le (t := 64) dX12_follows_56 (by decide) (fun qc14 => ?_) (fun qc14 => ?_)
        · replace h := ifp h qc14
          refine r_aload_n dX12_follows_64 0 rfl ?_
          refine s_getR (b := 115) ok_X12 dX12_follows_65 (k := 15) (by decide) fl_X12_20 rfl rfl rfl ?_
          refine r_iload_n dX12_follows_68 1 rfl ?_
          obtain ⟨qg15, h⟩ := grd_at h
          refine s_iald dX12_follows_69 rfl (inb_of qg15) ?_
          refine r_topi (fun yq16 eyq16 => ?_)
          replace h := bnd_at h eyq16
          refine r_istore (lo' := [(4, .int yq16), (0, .ref (ad 90)), (1, .int x1), (2, .int x2), (3, .int x3)]) dX12_follows_70 (by decide) rfl ?_
          refine r_iconst (v := 0) dX12_follows_72 (by decide) ?_
          refine r_istore (lo' := [(5, .int 0), (4, .int yq16), (0, .ref (ad 90)), (1, .int x1), (2, .int x2), (3, .int x3)]) dX12_follows_73 (by decide) rfl ?_
          refine ab_E.lo [1, 0, 3, 4, 2] rfl (l_X12_follows_75 (fun yq17 h => ?_) _ _ _ h)
          refine r_iconst (v := 0) dX12_follows_106 (by decide) ?_
          refine r_istore (lo' := [(5, .int 0), (4, .int yq17), (1, .int x1), (2, .int x2), (0, .ref (ad 90))]) dX12_follows_107 (by decide) rfl ?_
          refine ab_E.lo [1, 0, 2, 3, 4] rfl (l_X12_follows_109 (fun yq18 h => ?_) _ _ _ h)
          refine r_aload_n dX12_follows_155 1 rfl ?_
          refine r_iload dX12_follows_156 0 rfl ?_
          obtain ⟨rq20, σ21, qg19, h⟩ := bd2_at h
          refine x_callV (Y := mX12_good) (d' := 1) dX12_follows_158 ml_X12_288 yv_X12_good (by omega) rfl rfl (by simp [Value.category]) (sR_is rfl rfl) (lc_X12_good qg19) ?_
          refine r_iret rfl dX12_follows_161 ?_
          exact lfI h
        · replace h := ifn h qc14
          refine r_aload_n dX12_follows_59 0 rfl ?_
          obtain ⟨rq23, σ24, qg22, h⟩ := bd2_at h
          refine x_callV (Y := mX12_faulty) (d' := 1) dX12_follows_60 ml_X12_280 yv_X12_faulty (by omega) rfl rfl (by simp [Value.category]) (sR_is rfl rfl) (lc_X12_faulty qg22) ?_
          refine r_iret rfl dX12_follows_63 ?_
          exact lfI h
      · replace h := ifn h qc9
        refine r_aload_n dX12_follows_37 0 rfl ?_
        refine r_iconst (v := 2) dX12_follows_38 (by decide) ?_
        obtain ⟨rq26, σ27, qg25, h⟩ := bd2_at h
        refine x_callV (Y := mX12_refused) (d' := 1) dX12_follows_39 ml_X12_270 yv_X12_refused (by omega) rfl rfl (by simp [Value.category]) (sR_is rfl rfl) (lc_X12_refused qg25) ?_
        refine r_iret rfl dX12_follows_42 ?_
        exact lfI h
  · replace h := ifp h qc4
    refine r_aload_n dX12_follows_13 0 rfl ?_
    refine r_iconst (v := 1) dX12_follows_14 (by decide) ?_
    obtain ⟨rq29, σ30, qg28, h⟩ := bd2_at h
    refine x_callV (Y := mX12_refused) (d' := 1) dX12_follows_15 ml_X12_270 yv_X12_refused (by omega) rfl rfl (by simp [Value.category]) (sR_is rfl rfl) (lc_X12_refused qg28) ?_
    refine r_iret rfl dX12_follows_18 ?_
    exact lfI h
set_option maxRecDepth 8000 in
theorem lc_X12_follows {ad : Nat → Nat} {F : Nat} {x1 : Int32} {x2 : Int32} {x3 : Int32} {σ τ : sS} {r : Int32} (h : L_X12_follows F x1 x2 x3 σ = some (r, τ)) : ab_X (sR ad) 6 mX12_follows [.ref (ad 90), .int x1, .int x2, .int x3] σ (some (.int r)) τ := ab_X.of (by decide) (Nat.le_of_ble_eq_true rfl) (e_X12_follows h)
set_option maxRecDepth 8000 in
def L_X12_areLong (x0 : Int32) (x1 : Int32) : Int32 := if (L_X12_in x0 0 3) = 0 then ((0 : Int32)) else (if (L_X12_in x1 1 3) = 0 then ((0 : Int32)) else ((1 : Int32)))
set_option maxRecDepth 8000 in
theorem e_X12_areLong {ad : Nat → Nat} {x0 : Int32} {x1 : Int32} {σ : sS} {z : Int32} (h : L_X12_areLong x0 x1 = z) : ab_E (sR ad) mX12_areLong 2 0 [(0, .int x0), (1, .int x1)] [] σ (fun r9 σ9 => r9 = some (.int z) ∧ σ9 = σ) := by
  unfold L_X12_areLong at h
  refine r_iload_n dX12_areLong_0 0 rfl ?_
  refine r_iconst (v := 0) dX12_areLong_1 (by decide) ?_
  refine r_iconst (v := 3) dX12_areLong_2 (by decide) ?_
  refine x_callS (Y := mX12_in) (d' := 1) dX12_areLong_3 ml_X12_156 ys_X12_in (by omega) rfl rfl (by simp [Value.category]) (lc_X12_in x0 0 3 σ) ?_
  refine r_if_eq (t := 22) dX12_areLong_6 (by decide) (fun qc1 => ?_) (fun qc1 => ?_)
  · replace h := ifp h qc1
    refine r_iconst (v := 0) dX12_areLong_22 (by decide) ?_
    refine r_zret rfl (by decide) dX12_areLong_23 ?_
    exact lfT h
  · replace h := ifn h qc1
    refine r_iload_n dX12_areLong_9 1 rfl ?_
    refine r_iconst (v := 1) dX12_areLong_10 (by decide) ?_
    refine r_iconst (v := 3) dX12_areLong_11 (by decide) ?_
    refine x_callS (Y := mX12_in) (d' := 1) dX12_areLong_12 ml_X12_156 ys_X12_in (by omega) rfl rfl (by simp [Value.category]) (lc_X12_in x1 1 3 σ) ?_
    refine r_if_eq (t := 22) dX12_areLong_15 (by decide) (fun qc2 => ?_) (fun qc2 => ?_)
    · replace h := ifp h qc2
      refine r_iconst (v := 0) dX12_areLong_22 (by decide) ?_
      refine r_zret rfl (by decide) dX12_areLong_23 ?_
      exact lfT h
    · replace h := ifn h qc2
      refine r_iconst (v := 1) dX12_areLong_18 (by decide) ?_
      refine r_goto (t := 23) dX12_areLong_19 (by decide) ?_
      refine r_zret rfl (by decide) dX12_areLong_23 ?_
      exact lfT h
set_option maxRecDepth 8000 in
theorem lc_X12_areLong {ad : Nat → Nat} (x0 : Int32) (x1 : Int32) (σ : sS) : ab_X (sR ad) 2 mX12_areLong [.int x0, .int x1] σ (some (.int (L_X12_areLong x0 x1))) σ := ab_X.of (by decide) (Nat.le_of_ble_eq_true rfl) (e_X12_areLong rfl)
set_option maxRecDepth 8000 in
def L_X12_taken_6 (F : Nat) (x1 : Int32) (x2 : Int32) (x3 : Int32) (x4 : Int32) (σ : sS) (kx : Int32 → Option (Int32 × sS)) : Nat → Int32 → Int32 → Option (Int32 × sS)
  | 0, _, _ => none
  | n + 1, x5, x6 => if (x2 + x3) ≤ x6 then (kx x5) else (bnd (x5 * (vI σ 90 19)) (fun yq2 => L_X12_taken_6 F x1 x2 x3 x4 σ kx n yq2 (x6 + 1)))
set_option maxRecDepth 8000 in
theorem l_X12_taken_6 {ad : Nat → Nat} {F : Nat} {x1 : Int32} {x2 : Int32} {x3 : Int32} {x4 : Int32} {σ : sS} {z : (Int32 × sS)} {kx : Int32 → Option (Int32 × sS)} (hx : ∀ (x5 : Int32), kx x5 = some z → ab_E (sR ad) mX12_taken 9 29 [(5, .int x5), (1, .int x1), (2, .int x2), (3, .int x3), (4, .int x4), (0, .ref (ad 90))] [] σ (fun r9 σ9 => r9 = some (.int z.1) ∧ σ9 = z.2)) : ∀ (n : Nat) (x5 : Int32) (x6 : Int32), L_X12_taken_6 F x1 x2 x3 x4 σ kx n x5 x6 = some z → ab_E (sR ad) mX12_taken 9 6 [(5, .int x5), (6, .int x6), (1, .int x1), (2, .int x2), (3, .int x3), (4, .int x4), (0, .ref (ad 90))] [] σ (fun r9 σ9 => r9 = some (.int z.1) ∧ σ9 = z.2) := by
  intro n
  induction n with
  | zero =>
    intro x5 x6 h
    rw [L_X12_taken_6] at h
    cases h
  | succ n ih =>
    intro x5 x6 h
    rw [L_X12_taken_6] at h
    refine r_iload dX12_taken_6 1 rfl ?_
    refine r_iload_n dX12_taken_8 3 rfl ?_
    refine r_iload_n dX12_taken_9 4 rfl ?_
    refine r_iadd dX12_taken_10 ?_
    refine r_icmp_ge (t := 29) dX12_taken_11 (by decide) (fun qc1 => ?_) (fun qc1 => ?_)
    · replace h := ifp h qc1
      exact ab_E.lo [0, 2, 3, 4, 5, 6] rfl (hx _ h)
    · replace h := ifn h qc1
      refine r_iload dX12_taken_14 0 rfl ?_
      refine r_aload_n dX12_taken_16 6 rfl ?_
      refine s_getI ok_X12 dX12_taken_17 (k := 19) (by decide) fl_X12_283 rfl rfl ?_
      refine r_imul dX12_taken_20 ?_
      refine r_topi (fun yq2 eyq2 => ?_)
      replace h := bnd_at h eyq2
      refine r_istore (lo' := [(5, .int yq2), (6, .int x6), (1, .int x1), (2, .int x2), (3, .int x3), (4, .int x4), (0, .ref (ad 90))]) dX12_taken_21 (by decide) rfl ?_
      refine r_iinc (v := x6 + 1) (lo' := [(6, .int (x6 + 1)), (5, .int yq2), (1, .int x1), (2, .int x2), (3, .int x3), (4, .int x4), (0, .ref (ad 90))]) dX12_taken_23 1 rfl rfl (by decide) rfl ?_
      refine r_goto (t := 6) dX12_taken_26 (by decide) ?_
      exact ab_E.lo [1, 0, 2, 3, 4, 5, 6] rfl (ih _ _ h)
set_option maxRecDepth 8000 in
def L_X12_taken_106 (F : Nat) (x1 : Int32) (x2 : Int32) (x3 : Int32) (x4 : Int32) (x5 : Int32) (x6 : Int32) (x7 : Int32) (kh : Int32 → Int32 → sS → Option (Int32 × sS)) (kx : sS → Option (Int32 × sS)) (x8 : Int32) (x9 : Int32) (σ : sS) : Option (Int32 × sS) := grd (!decide ((vI σ 90 19) = (0 : Int32))) (bnd (x8 / (vI σ 90 19)) (fun yq11 => kh yq11 (x9 + 1) σ))
set_option maxRecDepth 8000 in
theorem l_X12_taken_106 {ad : Nat → Nat} {F : Nat} {x1 : Int32} {x2 : Int32} {x3 : Int32} {x4 : Int32} {x5 : Int32} {x6 : Int32} {x7 : Int32} {z : (Int32 × sS)} {kh : Int32 → Int32 → sS → Option (Int32 × sS)} (hh : ∀ (x8 : Int32) (x9 : Int32) (σ : sS), kh x8 x9 σ = some z → ab_E (sR ad) mX12_taken 9 59 [(8, .int x8), (9, .int x9), (1, .int x1), (2, .int x2), (3, .int x3), (4, .int x4), (5, .int x5), (6, .int x6), (7, .int x7), (0, .ref (ad 90))] [] σ (fun r9 σ9 => r9 = some (.int z.1) ∧ σ9 = z.2)) {kx : sS → Option (Int32 × sS)} (hx : ∀  (σ : sS), kx σ = some z → ab_E (sR ad) mX12_taken 9 121 [(1, .int x1), (2, .int x2), (3, .int x3), (4, .int x4), (5, .int x5), (6, .int x6), (7, .int x7), (0, .ref (ad 90))] [] σ (fun r9 σ9 => r9 = some (.int z.1) ∧ σ9 = z.2)) (x8 : Int32) (x9 : Int32) (σ : sS) (h : L_X12_taken_106 F x1 x2 x3 x4 x5 x6 x7 kh kx x8 x9 σ = some z) : ab_E (sR ad) mX12_taken 9 106 [(8, .int x8), (9, .int x9), (1, .int x1), (2, .int x2), (3, .int x3), (4, .int x4), (5, .int x5), (6, .int x6), (7, .int x7), (0, .ref (ad 90))] [] σ (fun r9 σ9 => r9 = some (.int z.1) ∧ σ9 = z.2) := by
  unfold L_X12_taken_106 at h
  refine r_iload dX12_taken_106 0 rfl ?_
  refine r_aload_n dX12_taken_108 9 rfl ?_
  refine s_getI ok_X12 dX12_taken_109 (k := 19) (by decide) fl_X12_283 rfl rfl ?_
  obtain ⟨qg10, h⟩ := grd_at h
  refine r_idiv dX12_taken_112 (nz_of qg10) ?_
  refine r_topi (fun yq11 eyq11 => ?_)
  replace h := bnd_at h eyq11
  refine r_istore (lo' := [(8, .int yq11), (9, .int x9), (1, .int x1), (2, .int x2), (3, .int x3), (4, .int x4), (5, .int x5), (6, .int x6), (7, .int x7), (0, .ref (ad 90))]) dX12_taken_113 (by decide) rfl ?_
  refine r_iinc (v := x9 + 1) (lo' := [(9, .int (x9 + 1)), (8, .int yq11), (1, .int x1), (2, .int x2), (3, .int x3), (4, .int x4), (5, .int x5), (6, .int x6), (7, .int x7), (0, .ref (ad 90))]) dX12_taken_115 1 rfl rfl (by decide) rfl ?_
  refine r_goto (t := 59) dX12_taken_118 (by decide) ?_
  exact ab_E.lo [1, 0, 2, 3, 4, 5, 6, 7, 8, 9] rfl (hh _ _ _ h)
set_option maxRecDepth 8000 in
def L_X12_taken_59 (F : Nat) (x1 : Int32) (x2 : Int32) (x3 : Int32) (x4 : Int32) (x5 : Int32) (x6 : Int32) (x7 : Int32) (kx : sS → Option (Int32 × sS)) : Nat → Int32 → Int32 → sS → Option (Int32 × sS)
  | 0, _, _, _ => none
  | n + 1, x8, x9, σ => if (x2 + x3) ≤ x9 then (kx σ) else (if x2 ≤ x9 then (grd (!decide ((vI σ 90 19) = (0 : Int32))) (grd (inb (x9 - x2) 10) (bnd (uI σ 140 (x9 - x2).toNatClampNeg (x8 - x8 / (vI σ 90 19) * (vI σ 90 19))) (fun σ9 => L_X12_taken_106 F x1 x2 x3 x4 x5 x6 x7 (L_X12_taken_59 F x1 x2 x3 x4 x5 x6 x7 kx n) kx x8 x9 σ9)))) else (grd (!decide ((vI σ 90 19) = (0 : Int32))) (grd (inb x9 10) (bnd (uI σ 139 x9.toNatClampNeg (x8 - x8 / (vI σ 90 19) * (vI σ 90 19))) (fun σ12 => L_X12_taken_106 F x1 x2 x3 x4 x5 x6 x7 (L_X12_taken_59 F x1 x2 x3 x4 x5 x6 x7 kx n) kx x8 x9 σ12)))))
set_option maxRecDepth 8000 in
theorem l_X12_taken_59 {ad : Nat → Nat} {F : Nat} {x1 : Int32} {x2 : Int32} {x3 : Int32} {x4 : Int32} {x5 : Int32} {x6 : Int32} {x7 : Int32} {z : (Int32 × sS)} {kx : sS → Option (Int32 × sS)} (hx : ∀  (σ : sS), kx σ = some z → ab_E (sR ad) mX12_taken 9 121 [(1, .int x1), (2, .int x2), (3, .int x3), (4, .int x4), (5, .int x5), (6, .int x6), (7, .int x7), (0, .ref (ad 90))] [] σ (fun r9 σ9 => r9 = some (.int z.1) ∧ σ9 = z.2)) : ∀ (n : Nat) (x8 : Int32) (x9 : Int32) (σ : sS), L_X12_taken_59 F x1 x2 x3 x4 x5 x6 x7 kx n x8 x9 σ = some z → ab_E (sR ad) mX12_taken 9 59 [(8, .int x8), (9, .int x9), (1, .int x1), (2, .int x2), (3, .int x3), (4, .int x4), (5, .int x5), (6, .int x6), (7, .int x7), (0, .ref (ad 90))] [] σ (fun r9 σ9 => r9 = some (.int z.1) ∧ σ9 = z.2) := by
  intro n
  induction n with
  | zero =>
    intro x8 x9 σ h
    rw [L_X12_taken_59] at h
    cases h
  | succ n ih =>
    intro x8 x9 σ h
    rw [L_X12_taken_59] at h
    refine r_iload dX12_taken_59 1 rfl ?_
    refine r_iload_n dX12_taken_61 3 rfl ?_
    refine r_iload_n dX12_taken_62 4 rfl ?_
    refine r_iadd dX12_taken_63 ?_
    refine r_icmp_ge (t := 121) dX12_taken_64 (by decide) (fun qc5 => ?_) (fun qc5 => ?_)
    · replace h := ifp h qc5
      exact ab_E.lo [2, 3, 4, 5, 6, 7, 8, 9] rfl (hx _ h)
    · replace h := ifn h qc5
      refine r_iload dX12_taken_67 1 rfl ?_
      refine r_iload_n dX12_taken_69 3 rfl ?_
      refine r_icmp_ge (t := 90) dX12_taken_70 (by decide) (fun qc6 => ?_) (fun qc6 => ?_)
      · replace h := ifp h qc6
        refine r_aload_n dX12_taken_90 9 rfl ?_
        refine s_getR (b := 140) ok_X12 dX12_taken_91 (k := 40) (by decide) fl_X12_70 rfl rfl rfl ?_
        refine r_iload dX12_taken_94 1 rfl ?_
        refine r_iload_n dX12_taken_96 3 rfl ?_
        refine r_isub dX12_taken_97 ?_
        refine r_iload dX12_taken_98 0 rfl ?_
        refine r_aload_n dX12_taken_100 9 rfl ?_
        refine s_getI ok_X12 dX12_taken_101 (k := 19) (by decide) fl_X12_283 rfl rfl ?_
        obtain ⟨qg7, h⟩ := grd_at h
        refine r_irem dX12_taken_104 (nz_of qg7) ?_
        obtain ⟨qg8, h⟩ := grd_at h
        refine s_iast dX12_taken_105 rfl (inb_of qg8) ?_
        refine r_st (fun σ9 eσ9 => ?_)
        replace h := bnd_at h eσ9
        exact ab_E.lo [0, 1, 2, 3, 4, 5, 6, 7, 8, 9] rfl (l_X12_taken_106 ih hx _ _ _ h)
      · replace h := ifn h qc6
        refine r_aload_n dX12_taken_73 9 rfl ?_
        refine s_getR (b := 139) ok_X12 dX12_taken_74 (k := 39) (by decide) fl_X12_67 rfl rfl rfl ?_
        refine r_iload dX12_taken_77 1 rfl ?_
        refine r_iload dX12_taken_79 0 rfl ?_
        refine r_aload_n dX12_taken_81 9 rfl ?_
        refine s_getI ok_X12 dX12_taken_82 (k := 19) (by decide) fl_X12_283 rfl rfl ?_
        obtain ⟨qg10, h⟩ := grd_at h
        refine r_irem dX12_taken_85 (nz_of qg10) ?_
        obtain ⟨qg11, h⟩ := grd_at h
        refine s_iast dX12_taken_86 rfl (inb_of qg11) ?_
        refine r_st (fun σ12 eσ12 => ?_)
        replace h := bnd_at h eσ12
        refine r_goto (t := 106) dX12_taken_87 (by decide) ?_
        exact ab_E.lo [0, 1, 2, 3, 4, 5, 6, 7, 8, 9] rfl (l_X12_taken_106 ih hx _ _ _ h)
set_option maxRecDepth 8000 in
def L_X12_taken_45 (F : Nat) (x1 : Int32) (x2 : Int32) (x3 : Int32) (x4 : Int32) (x5 : Int32) (kx : Int32 → sS → Option (Int32 × sS)) : Nat → Int32 → Int32 → sS → Option (Int32 × sS)
  | 0, _, _, _ => none
  | n + 1, x6, x7, σ => if x5 ≤ x7 then (kx x6 σ) else (L_X12_taken_59 F x1 x2 x3 x4 x5 x6 x7 (fun σ5 => bd2 (L_X12_isTaken F x1 x4 σ5) (fun rq7 σ8 => if rq7 = 0 then (bnd (x6 + 0) (fun yq10 => L_X12_taken_45 F x1 x2 x3 x4 x5 kx n yq10 (x7 + 1) σ8)) else (bnd (x6 + 1) (fun yq11 => L_X12_taken_45 F x1 x2 x3 x4 x5 kx n yq11 (x7 + 1) σ8)))) F x7 0 σ)
set_option maxRecDepth 8000 in
theorem l_X12_taken_45 {ad : Nat → Nat} {F : Nat} {x1 : Int32} {x2 : Int32} {x3 : Int32} {x4 : Int32} {x5 : Int32} {z : (Int32 × sS)} {kx : Int32 → sS → Option (Int32 × sS)} (hx : ∀ (x6 : Int32) (σ : sS), kx x6 σ = some z → ab_E (sR ad) mX12_taken 9 147 [(6, .int x6)] [] σ (fun r9 σ9 => r9 = some (.int z.1) ∧ σ9 = z.2)) : ∀ (n : Nat) (x6 : Int32) (x7 : Int32) (σ : sS), L_X12_taken_45 F x1 x2 x3 x4 x5 kx n x6 x7 σ = some z → ab_E (sR ad) mX12_taken 9 45 [(6, .int x6), (7, .int x7), (1, .int x1), (2, .int x2), (3, .int x3), (4, .int x4), (5, .int x5), (0, .ref (ad 90))] [] σ (fun r9 σ9 => r9 = some (.int z.1) ∧ σ9 = z.2) := by
  intro n
  induction n with
  | zero =>
    intro x6 x7 σ h
    rw [L_X12_taken_45] at h
    cases h
  | succ n ih =>
    intro x6 x7 σ h
    rw [L_X12_taken_45] at h
    refine r_iload dX12_taken_45 1 rfl ?_
    refine r_iload dX12_taken_47 6 rfl ?_
    refine r_icmp_ge (t := 147) dX12_taken_49 (by decide) (fun qc4 => ?_) (fun qc4 => ?_)
    · replace h := ifp h qc4
      exact ab_E.lo [0] rfl (hx _ _ h)
    · replace h := ifn h qc4
      refine r_iload dX12_taken_52 1 rfl ?_
      refine r_istore (lo' := [(8, .int x7), (6, .int x6), (7, .int x7), (1, .int x1), (2, .int x2), (3, .int x3), (4, .int x4), (5, .int x5), (0, .ref (ad 90))]) dX12_taken_54 (by decide) rfl ?_
      refine r_iconst (v := 0) dX12_taken_56 (by decide) ?_
      refine r_istore (lo' := [(9, .int 0), (8, .int x7), (6, .int x6), (7, .int x7), (1, .int x1), (2, .int x2), (3, .int x3), (4, .int x4), (5, .int x5), (0, .ref (ad 90))]) dX12_taken_57 (by decide) rfl ?_
      refine ab_E.lo [1, 0, 4, 5, 6, 7, 8, 2, 3, 9] rfl (l_X12_taken_59 (fun σ5 h => ?_) _ _ _ _ h)
      refine r_iload dX12_taken_121 5 rfl ?_
      refine r_aload_n dX12_taken_123 7 rfl ?_
      refine r_iload_n dX12_taken_124 0 rfl ?_
      refine r_iload dX12_taken_125 3 rfl ?_
      obtain ⟨rq7, σ8, qg6, h⟩ := bd2_at h
      refine x_callV (Y := mX12_isTaken) (d' := 8) dX12_taken_127 ml_X12_475 yv_X12_isTaken (by omega) rfl rfl (by simp [Value.category]) (sR_is rfl rfl) (lc_X12_isTaken qg6) ?_
      refine r_if_eq (t := 137) dX12_taken_130 (by decide) (fun qc9 => ?_) (fun qc9 => ?_)
      · replace h := ifp h qc9
        refine r_iconst (v := 0) dX12_taken_137 (by decide) ?_
        refine r_iadd dX12_taken_138 ?_
        refine r_topi (fun yq10 eyq10 => ?_)
        replace h := bnd_at h eyq10
        refine r_istore (lo' := [(6, .int yq10), (1, .int x1), (2, .int x2), (3, .int x3), (4, .int x4), (5, .int x5), (7, .int x7), (0, .ref (ad 90))]) dX12_taken_139 (by decide) rfl ?_
        refine r_iinc (v := x7 + 1) (lo' := [(7, .int (x7 + 1)), (6, .int yq10), (1, .int x1), (2, .int x2), (3, .int x3), (4, .int x4), (5, .int x5), (0, .ref (ad 90))]) dX12_taken_141 6 rfl rfl (by decide) rfl ?_
        refine r_goto (t := 45) dX12_taken_144 (by decide) ?_
        exact ab_E.lo [1, 0, 2, 3, 4, 5, 6, 7] rfl (ih _ _ _ h)
      · replace h := ifn h qc9
        refine r_iconst (v := 1) dX12_taken_133 (by decide) ?_
        refine r_goto (t := 138) dX12_taken_134 (by decide) ?_
        refine r_iadd dX12_taken_138 ?_
        refine r_topi (fun yq11 eyq11 => ?_)
        replace h := bnd_at h eyq11
        refine r_istore (lo' := [(6, .int yq11), (1, .int x1), (2, .int x2), (3, .int x3), (4, .int x4), (5, .int x5), (7, .int x7), (0, .ref (ad 90))]) dX12_taken_139 (by decide) rfl ?_
        refine r_iinc (v := x7 + 1) (lo' := [(7, .int (x7 + 1)), (6, .int yq11), (1, .int x1), (2, .int x2), (3, .int x3), (4, .int x4), (5, .int x5), (0, .ref (ad 90))]) dX12_taken_141 6 rfl rfl (by decide) rfl ?_
        refine r_goto (t := 45) dX12_taken_144 (by decide) ?_
        exact ab_E.lo [1, 0, 2, 3, 4, 5, 6, 7] rfl (ih _ _ _ h)
set_option maxRecDepth 8000 in
def L_X12_taken (F : Nat) (x1 : Int32) (x2 : Int32) (x3 : Int32) (x4 : Int32) (σ : sS) : Option (Int32 × sS) := L_X12_taken_6 F x1 x2 x3 x4 σ (fun yq1 => bnd (uI σ 90 41 x2) (fun σ2 => bnd (uI σ2 90 42 x3) (fun σ3 => L_X12_taken_45 F x1 x2 x3 x4 yq1 (fun yq4 σ5 => some ((yq4, σ5))) F 0 0 σ3))) F 1 0
set_option maxRecDepth 8000 in
theorem e_X12_taken {ad : Nat → Nat} {F : Nat} {x1 : Int32} {x2 : Int32} {x3 : Int32} {x4 : Int32} {σ : sS} {z : (Int32 × sS)} (h : L_X12_taken F x1 x2 x3 x4 σ = some z) : ab_E (sR ad) mX12_taken 9 0 [(0, .ref (ad 90)), (1, .int x1), (2, .int x2), (3, .int x3), (4, .int x4)] [] σ (fun r9 σ9 => r9 = some (.int z.1) ∧ σ9 = z.2) := by
  unfold L_X12_taken at h
  refine r_iconst (v := 1) dX12_taken_0 (by decide) ?_
  refine r_istore (lo' := [(5, .int 1), (0, .ref (ad 90)), (1, .int x1), (2, .int x2), (3, .int x3), (4, .int x4)]) dX12_taken_1 (by decide) rfl ?_
  refine r_iconst (v := 0) dX12_taken_3 (by decide) ?_
  refine r_istore (lo' := [(6, .int 0), (5, .int 1), (0, .ref (ad 90)), (1, .int x1), (2, .int x2), (3, .int x3), (4, .int x4)]) dX12_taken_4 (by decide) rfl ?_
  refine ab_E.lo [1, 0, 3, 4, 5, 6, 2] rfl (l_X12_taken_6 (fun yq1 h => ?_) _ _ _ h)
  refine r_iconst (v := 0) dX12_taken_29 (by decide) ?_
  refine r_istore (lo' := [(6, .int 0), (5, .int yq1), (1, .int x1), (2, .int x2), (3, .int x3), (4, .int x4), (0, .ref (ad 90))]) dX12_taken_30 (by decide) rfl ?_
  refine r_aload_n dX12_taken_32 6 rfl ?_
  refine r_iload_n dX12_taken_33 3 rfl ?_
  refine s_putI ok_X12 dX12_taken_34 (k := 41) (by decide) fl_X12_466 rfl rfl rfl rfl rfl ?_
  refine r_st (fun σ2 eσ2 => ?_)
  replace h := bnd_at h eσ2
  refine r_aload_n dX12_taken_37 6 rfl ?_
  refine r_iload_n dX12_taken_38 4 rfl ?_
  refine s_putI ok_X12 dX12_taken_39 (k := 42) (by decide) fl_X12_405 rfl rfl rfl rfl rfl ?_
  refine r_st (fun σ3 eσ3 => ?_)
  replace h := bnd_at h eσ3
  refine r_iconst (v := 0) dX12_taken_42 (by decide) ?_
  refine r_istore (lo' := [(7, .int 0), (6, .int 0), (5, .int yq1), (1, .int x1), (2, .int x2), (3, .int x3), (4, .int x4), (0, .ref (ad 90))]) dX12_taken_43 (by decide) rfl ?_
  refine ab_E.lo [1, 0, 3, 4, 5, 6, 2, 7] rfl (l_X12_taken_45 (fun yq4 σ5 h => ?_) _ _ _ _ h)
  refine r_iload dX12_taken_147 0 rfl ?_
  refine r_iret rfl dX12_taken_149 ?_
  exact lfI h
set_option maxRecDepth 8000 in
theorem lc_X12_taken {ad : Nat → Nat} {F : Nat} {x1 : Int32} {x2 : Int32} {x3 : Int32} {x4 : Int32} {σ τ : sS} {r : Int32} (h : L_X12_taken F x1 x2 x3 x4 σ = some (r, τ)) : ab_X (sR ad) 9 mX12_taken [.ref (ad 90), .int x1, .int x2, .int x3, .int x4] σ (some (.int r)) τ := ab_X.of (by decide) (Nat.le_of_ble_eq_true rfl) (e_X12_taken h)
