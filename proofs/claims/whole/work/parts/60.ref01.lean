/-! the reference, lifted, 1 -/
set_option maxRecDepth 8000 in
def L_X12_wordOf_4 (F : Nat) (x0 : Nat) (kx : Int64 → Option Int64) : Nat → Int64 → Int32 → Option Int64
  | 0, _, _ => none
  | n + 1, x1, x3 => if (nI (ab_len.getD x0 0)) ≤ x3 then (kx x1) else (grd (inb x3 (ab_len.getD x0 0)) (bnd ((((x1 * 32) + (((ab_byt.getD x0 []).getD x3.toNatClampNeg 0).toInt64)) - 97) + 1) (fun yq3 => L_X12_wordOf_4 F x0 kx n yq3 (x3 + 1))))
set_option maxRecDepth 8000 in
theorem l_X12_wordOf_4 {ad : Nat → Nat} {F : Nat} {x0 : Nat} {σ : sS} {z : Int64} (hi : x0 < 6) {kx : Int64 → Option Int64} (hx : ∀ (x1 : Int64), kx x1 = some z → ab_E (sR ad) mX12_wordOf 5 37 [(1, .long x1)] [] σ (fun r9 σ9 => r9 = some (.long z) ∧ σ9 = σ)) : ∀ (n : Nat) (x1 : Int64) (x3 : Int32), L_X12_wordOf_4 F x0 kx n x1 x3 = some z → ab_E (sR ad) mX12_wordOf 5 4 [(1, .long x1), (3, .int x3), (0, .ref (ad (200 + x0)))] [] σ (fun r9 σ9 => r9 = some (.long z) ∧ σ9 = σ) := by
  intro n
  induction n with
  | zero =>
    intro x1 x3 h
    rw [L_X12_wordOf_4] at h
    cases h
  | succ n ih =>
    intro x1 x3 h
    rw [L_X12_wordOf_4] at h
    refine r_iload_n dX12_wordOf_4 1 rfl ?_
    refine r_aload_n dX12_wordOf_5 2 rfl ?_
    refine x_callVs (Y := mJ0_length_8abf5) (d' := 2) (As := []) hi (fun g hg => sR_str hg x0) rfl dX12_wordOf_6 ml_X12_187 yv_J0_length_8abf5 (by omega) rfl rfl (by simp [Value.category]) (c_length σ hi) ?_
    refine r_icmp_ge (t := 37) dX12_wordOf_9 (by decide) (fun qc1 => ?_) (fun qc1 => ?_)
    · replace h := ifp h qc1
      exact ab_E.lo [0] rfl (hx _ h)
    · replace h := ifn h qc1
      refine r_lload_n dX12_wordOf_12 0 rfl ?_
      refine r_ldc2 (v := 32) dX12_wordOf_13 co_X12_174 ?_
      refine r_lmul dX12_wordOf_16 ?_
      refine r_aload_n dX12_wordOf_17 2 rfl ?_
      refine r_iload_n dX12_wordOf_18 1 rfl ?_
      obtain ⟨qg2, h⟩ := grd_at h
      refine x_callVs (Y := mJ0_charAt_5068e) (d' := 4) (As := [.int x3]) hi (fun g hg => sR_str hg x0) rfl dX12_wordOf_19 ml_X12_193 yv_J0_charAt_5068e (by omega) rfl rfl (by simp [Value.category]) (c_charAtI σ hi qg2) ?_
      refine r_i2l dX12_wordOf_22 ?_
      refine r_ladd dX12_wordOf_23 ?_
      refine r_ldc2 (v := 97) dX12_wordOf_24 co_X12_176 ?_
      refine r_lsub dX12_wordOf_27 ?_
      refine r_lconst (v := 1) dX12_wordOf_28 (by decide) ?_
      refine r_ladd dX12_wordOf_29 ?_
      refine r_topl (fun yq3 eyq3 => ?_)
      replace h := bnd_at h eyq3
      refine r_lstore_n (lo' := [(1, .long yq3), (3, .int x3), (0, .ref (ad (200 + x0)))]) dX12_wordOf_30 (by decide) rfl ?_
      refine r_iinc (v := x3 + 1) (lo' := [(3, .int (x3 + 1)), (1, .long yq3), (0, .ref (ad (200 + x0)))]) dX12_wordOf_31 1 rfl rfl (by decide) rfl ?_
      refine r_goto (t := 4) dX12_wordOf_34 (by decide) ?_
      exact ab_E.lo [1, 0, 2] rfl (ih _ _ h)
set_option maxRecDepth 8000 in
def L_X12_wordOf (F : Nat) (x0 : Nat) : Option Int64 := L_X12_wordOf_4 F x0 (fun yq1 => some yq1) F 0 0
set_option maxRecDepth 8000 in
theorem e_X12_wordOf {ad : Nat → Nat} {F : Nat} {x0 : Nat} {σ : sS} {z : Int64} (hi : x0 < 6) (h : L_X12_wordOf F x0 = some z) : ab_E (sR ad) mX12_wordOf 5 0 [(0, .ref (ad (200 + x0)))] [] σ (fun r9 σ9 => r9 = some (.long z) ∧ σ9 = σ) := by
  unfold L_X12_wordOf at h
  refine r_lconst (v := 0) dX12_wordOf_0 (by decide) ?_
  refine r_lstore_n (lo' := [(1, .long 0), (0, .ref (ad (200 + x0)))]) dX12_wordOf_1 (by decide) rfl ?_
  refine r_iconst (v := 0) dX12_wordOf_2 (by decide) ?_
  refine r_istore_n (lo' := [(3, .int 0), (1, .long 0), (0, .ref (ad (200 + x0)))]) dX12_wordOf_3 (by decide) rfl ?_
  refine ab_E.lo [1, 0, 2] rfl (l_X12_wordOf_4 hi (fun yq1 h => ?_) _ _ _ h)
  refine r_lload_n dX12_wordOf_37 0 rfl ?_
  refine r_lret rfl dX12_wordOf_38 ?_
  exact lfPL h
set_option maxRecDepth 8000 in
theorem lc_X12_wordOf {ad : Nat → Nat} {F : Nat} {x0 : Nat} {σ : sS} {r : Int64} (hi : x0 < 6) (h : L_X12_wordOf F x0 = some r) : ab_X (sR ad) 5 mX12_wordOf [.ref (ad (200 + x0))] σ (some (.long r)) σ := ab_X.of (by decide) (Nat.le_of_ble_eq_true rfl) (e_X12_wordOf hi h)
set_option maxRecDepth 8000 in
def L_X12_isWord (F : Nat) (x1 : Nat) (σ : sS) : Option Int32 := if (vI σ 90 7) = 0 then (if (vI σ 90 9) = 2 then (bd (L_X12_wordOf F x1) (fun rq4 => if (lg_cmp (vL σ 90 13) rq4) = 0 then (some ((1 : Int32))) else (some ((0 : Int32))))) else (some ((0 : Int32)))) else (some ((0 : Int32)))
set_option maxRecDepth 8000 in
theorem e_X12_isWord {ad : Nat → Nat} {F : Nat} {x1 : Nat} {σ : sS} {z : Int32} (hi : x1 < 6) (h : L_X12_isWord F x1 σ = some z) : ab_E (sR ad) mX12_isWord 6 0 [(0, .ref (ad 90)), (1, .ref (ad (200 + x1)))] [] σ (fun r9 σ9 => r9 = some (.int z) ∧ σ9 = σ) := by
  unfold L_X12_isWord at h
  refine r_aload_n dX12_isWord_0 0 rfl ?_
  refine s_getI ok_X12 dX12_isWord_1 (k := 7) (by decide) fl_X12_140 rfl rfl ?_
  refine r_if_ne (t := 31) dX12_isWord_4 (by decide) (fun qc1 => ?_) (fun qc1 => ?_)
  · replace h := ifn h qc1
    refine r_iconst (v := 0) dX12_isWord_31 (by decide) ?_
    refine r_zret rfl (by decide) dX12_isWord_32 ?_
    exact lfP h
  · replace h := ifp h qc1
    refine r_aload_n dX12_isWord_7 0 rfl ?_
    refine s_getI ok_X12 dX12_isWord_8 (k := 9) (by decide) fl_X12_163 rfl rfl ?_
    refine r_iconst (v := 2) dX12_isWord_11 (by decide) ?_
    refine r_icmp_ne (t := 31) dX12_isWord_12 (by decide) (fun qc2 => ?_) (fun qc2 => ?_)
    · replace h := ifn h qc2
      refine r_iconst (v := 0) dX12_isWord_31 (by decide) ?_
      refine r_zret rfl (by decide) dX12_isWord_32 ?_
      exact lfP h
    · replace h := ifp h qc2
      refine r_aload_n dX12_isWord_15 0 rfl ?_
      refine s_getL ok_X12 dX12_isWord_16 (k := 13) (by decide) fl_X12_170 rfl rfl ?_
      refine r_aload_n dX12_isWord_19 1 rfl ?_
      obtain ⟨rq4, qg3, h⟩ := bd_at h
      refine x_callS (Y := mX12_wordOf) (d' := 5) dX12_isWord_20 ml_X12_197 ys_X12_wordOf (by omega) rfl rfl (by simp [Value.category]) (lc_X12_wordOf hi qg3) ?_
      refine r_lcmp dX12_isWord_23 ?_
      refine r_if_ne (t := 31) dX12_isWord_24 (by decide) (fun qc5 => ?_) (fun qc5 => ?_)
      · replace h := ifn h qc5
        refine r_iconst (v := 0) dX12_isWord_31 (by decide) ?_
        refine r_zret rfl (by decide) dX12_isWord_32 ?_
        exact lfP h
      · replace h := ifp h qc5
        refine r_iconst (v := 1) dX12_isWord_27 (by decide) ?_
        refine r_goto (t := 32) dX12_isWord_28 (by decide) ?_
        refine r_zret rfl (by decide) dX12_isWord_32 ?_
        exact lfP h
set_option maxRecDepth 8000 in
theorem lc_X12_isWord {ad : Nat → Nat} {F : Nat} {x1 : Nat} {σ : sS} {r : Int32} (hi : x1 < 6) (h : L_X12_isWord F x1 σ = some r) : ab_X (sR ad) 6 mX12_isWord [.ref (ad 90), .ref (ad (200 + x1))] σ (some (.int r)) σ := ab_X.of (by decide) (Nat.le_of_ble_eq_true rfl) (e_X12_isWord hi h)
set_option maxRecDepth 8000 in
def L_X12_isSign (x1 : Int32) (σ : sS) : Int32 := if (vI σ 90 7) = 0 then (if (vI σ 90 9) = 4 then (if (vI σ 90 11) = x1 then ((1 : Int32)) else ((0 : Int32))) else ((0 : Int32))) else ((0 : Int32))
set_option maxRecDepth 8000 in
theorem e_X12_isSign {ad : Nat → Nat} {x1 : Int32} {σ : sS} {z : Int32} (h : L_X12_isSign x1 σ = z) : ab_E (sR ad) mX12_isSign 1 0 [(0, .ref (ad 90)), (1, .int x1)] [] σ (fun r9 σ9 => r9 = some (.int z) ∧ σ9 = σ) := by
  unfold L_X12_isSign at h
  refine r_aload_n dX12_isSign_0 0 rfl ?_
  refine s_getI ok_X12 dX12_isSign_1 (k := 7) (by decide) fl_X12_140 rfl rfl ?_
  refine r_if_ne (t := 27) dX12_isSign_4 (by decide) (fun qc1 => ?_) (fun qc1 => ?_)
  · replace h := ifn h qc1
    refine r_iconst (v := 0) dX12_isSign_27 (by decide) ?_
    refine r_zret rfl (by decide) dX12_isSign_28 ?_
    exact lfT h
  · replace h := ifp h qc1
    refine r_aload_n dX12_isSign_7 0 rfl ?_
    refine s_getI ok_X12 dX12_isSign_8 (k := 9) (by decide) fl_X12_163 rfl rfl ?_
    refine r_iconst (v := 4) dX12_isSign_11 (by decide) ?_
    refine r_icmp_ne (t := 27) dX12_isSign_12 (by decide) (fun qc2 => ?_) (fun qc2 => ?_)
    · replace h := ifn h qc2
      refine r_iconst (v := 0) dX12_isSign_27 (by decide) ?_
      refine r_zret rfl (by decide) dX12_isSign_28 ?_
      exact lfT h
    · replace h := ifp h qc2
      refine r_aload_n dX12_isSign_15 0 rfl ?_
      refine s_getI ok_X12 dX12_isSign_16 (k := 11) (by decide) fl_X12_184 rfl rfl ?_
      refine r_iload_n dX12_isSign_19 1 rfl ?_
      refine r_icmp_ne (t := 27) dX12_isSign_20 (by decide) (fun qc3 => ?_) (fun qc3 => ?_)
      · replace h := ifn h qc3
        refine r_iconst (v := 0) dX12_isSign_27 (by decide) ?_
        refine r_zret rfl (by decide) dX12_isSign_28 ?_
        exact lfT h
      · replace h := ifp h qc3
        refine r_iconst (v := 1) dX12_isSign_23 (by decide) ?_
        refine r_goto (t := 28) dX12_isSign_24 (by decide) ?_
        refine r_zret rfl (by decide) dX12_isSign_28 ?_
        exact lfT h
set_option maxRecDepth 8000 in
theorem lc_X12_isSign {ad : Nat → Nat} (x1 : Int32) (σ : sS) : ab_X (sR ad) 1 mX12_isSign [.ref (ad 90), .int x1] σ (some (.int (L_X12_isSign x1 σ))) σ := ab_X.of (by decide) (Nat.le_of_ble_eq_true rfl) (e_X12_isSign rfl)
set_option maxRecDepth 8000 in
def L_X12_needs (F : Nat) (x1 : Nat) (σ : sS) : Option sS := bd (L_X12_isWord F x1 σ) (fun rq2 => if rq2 = 0 then (bd (L_X12_flaw 1 σ) (fun σ7 => bd (L_X12_goOn F σ7) (fun σ9 => some σ9))) else (bd (L_X12_goOn F σ) (fun σ5 => some σ5)))
set_option maxRecDepth 8000 in
theorem e_X12_needs {ad : Nat → Nat} {F : Nat} {x1 : Nat} {σ : sS} {z : sS} (hi : x1 < 6) (h : L_X12_needs F x1 σ = some z) : ab_E (sR ad) mX12_needs 7 0 [(0, .ref (ad 90)), (1, .ref (ad (200 + x1)))] [] σ (fun r9 σ9 => r9 = none ∧ σ9 = z) := by
  unfold L_X12_needs at h
  refine r_aload_n dX12_needs_0 0 rfl ?_
  refine r_aload_n dX12_needs_1 1 rfl ?_
  obtain ⟨rq2, qg1, h⟩ := bd_at h
  refine x_callV (Y := mX12_isWord) (d' := 6) dX12_needs_2 ml_X12_201 yv_X12_isWord (by omega) rfl rfl (by simp [Value.category]) (sR_is rfl rfl) (lc_X12_isWord hi qg1) ?_
  refine r_if_ne (t := 13) dX12_needs_5 (by decide) (fun qc3 => ?_) (fun qc3 => ?_)
  · replace h := ifn h qc3
    refine r_aload_n dX12_needs_13 0 rfl ?_
    obtain ⟨σ5, qg4, h⟩ := bd_at h
    refine x_callV0 (Y := mX12_goOn) (d' := 3) dX12_needs_14 ml_X12_209 yv_X12_goOn (by omega) rfl rfl (by simp [Value.category]) (sR_is rfl rfl) (lc_X12_goOn qg4) ?_
    refine r_vret rfl dX12_needs_17 ?_
    exact lfV h
  · replace h := ifp h qc3
    refine r_aload_n dX12_needs_8 0 rfl ?_
    refine r_iconst (v := 1) dX12_needs_9 (by decide) ?_
    obtain ⟨σ7, qg6, h⟩ := bd_at h
    refine x_callV0 (Y := mX12_flaw) (d' := 2) dX12_needs_10 ml_X12_205 yv_X12_flaw (by omega) rfl rfl (by simp [Value.category]) (sR_is rfl rfl) (lc_X12_flaw qg6) ?_
    refine r_aload_n dX12_needs_13 0 rfl ?_
    obtain ⟨σ9, qg8, h⟩ := bd_at h
    refine x_callV0 (Y := mX12_goOn) (d' := 3) dX12_needs_14 ml_X12_209 yv_X12_goOn (by omega) rfl rfl (by simp [Value.category]) (sR_is rfl rfl) (lc_X12_goOn qg8) ?_
    refine r_vret rfl dX12_needs_17 ?_
    exact lfV h
set_option maxRecDepth 8000 in
theorem lc_X12_needs {ad : Nat → Nat} {F : Nat} {x1 : Nat} {σ τ : sS} (hi : x1 < 6) (h : L_X12_needs F x1 σ = some τ) : ab_X (sR ad) 7 mX12_needs [.ref (ad 90), .ref (ad (200 + x1))] σ none τ := ab_X.of (by decide) (Nat.le_of_ble_eq_true rfl) (e_X12_needs hi h)
set_option maxRecDepth 8000 in
def L_X12_needsEnd (σ : sS) : Option sS := if (vI σ 90 7) = 0 then (if (vI σ 90 9) = 1 then (some σ) else (bd (L_X12_flaw 1 σ) (fun σ4 => some σ4))) else (some σ)
set_option maxRecDepth 8000 in
theorem e_X12_needsEnd {ad : Nat → Nat}  {σ : sS} {z : sS} (h : L_X12_needsEnd σ = some z) : ab_E (sR ad) mX12_needsEnd 3 0 [(0, .ref (ad 90))] [] σ (fun r9 σ9 => r9 = none ∧ σ9 = z) := by
  unfold L_X12_needsEnd at h
  refine r_aload_n dX12_needsEnd_0 0 rfl ?_
  refine s_getI ok_X12 dX12_needsEnd_1 (k := 7) (by decide) fl_X12_140 rfl rfl ?_
  refine r_if_ne (t := 20) dX12_needsEnd_4 (by decide) (fun qc1 => ?_) (fun qc1 => ?_)
  · replace h := ifn h qc1
    refine r_vret rfl dX12_needsEnd_20 ?_
    exact lfV h
  · replace h := ifp h qc1
    refine r_aload_n dX12_needsEnd_7 0 rfl ?_
    refine s_getI ok_X12 dX12_needsEnd_8 (k := 9) (by decide) fl_X12_163 rfl rfl ?_
    refine r_iconst (v := 1) dX12_needsEnd_11 (by decide) ?_
    refine r_icmp_eq (t := 20) dX12_needsEnd_12 (by decide) (fun qc2 => ?_) (fun qc2 => ?_)
    · replace h := ifp h qc2
      refine r_vret rfl dX12_needsEnd_20 ?_
      exact lfV h
    · replace h := ifn h qc2
      refine r_aload_n dX12_needsEnd_15 0 rfl ?_
      refine r_iconst (v := 1) dX12_needsEnd_16 (by decide) ?_
      obtain ⟨σ4, qg3, h⟩ := bd_at h
      refine x_callV0 (Y := mX12_flaw) (d' := 2) dX12_needsEnd_17 ml_X12_205 yv_X12_flaw (by omega) rfl rfl (by simp [Value.category]) (sR_is rfl rfl) (lc_X12_flaw qg3) ?_
      refine r_vret rfl dX12_needsEnd_20 ?_
      exact lfV h
set_option maxRecDepth 8000 in
theorem lc_X12_needsEnd {ad : Nat → Nat}  {σ τ : sS} (h : L_X12_needsEnd σ = some τ) : ab_X (sR ad) 3 mX12_needsEnd [.ref (ad 90)] σ none τ := ab_X.of (by decide) (Nat.le_of_ble_eq_true rfl) (e_X12_needsEnd h)
set_option maxRecDepth 8000 in
def L_X12_readWhole_33 (F : Nat)  (σ : sS) : Option (Int32 × sS) := bnd (vI σ 90 12) (fun yq3 => bd (L_X12_goOn F σ) (fun σ5 => some ((yq3, σ5))))
set_option maxRecDepth 8000 in
theorem l_X12_readWhole_33 {ad : Nat → Nat} {F : Nat} {z : (Int32 × sS)}  (σ : sS) (h : L_X12_readWhole_33 F σ = some z) : ab_E (sR ad) mX12_readWhole 4 33 [(0, .ref (ad 90))] [] σ (fun r9 σ9 => r9 = some (.int z.1) ∧ σ9 = z.2) := by
  unfold L_X12_readWhole_33 at h
  refine r_aload_n dX12_readWhole_33 0 rfl ?_
  refine s_getI ok_X12 dX12_readWhole_34 (k := 12) (by decide) fl_X12_181 rfl rfl ?_
  refine r_topi (fun yq3 eyq3 => ?_)
  replace h := bnd_at h eyq3
  refine r_istore_n (lo' := [(3, .int yq3), (0, .ref (ad 90))]) dX12_readWhole_37 (by decide) rfl ?_
  refine r_aload_n dX12_readWhole_38 1 rfl ?_
  obtain ⟨σ5, qg4, h⟩ := bd_at h
  refine x_callV0 (Y := mX12_goOn) (d' := 3) dX12_readWhole_39 ml_X12_209 yv_X12_goOn (by omega) rfl rfl (by simp [Value.category]) (sR_is rfl rfl) (lc_X12_goOn qg4) ?_
  refine r_iload_n dX12_readWhole_42 0 rfl ?_
  refine r_iret rfl dX12_readWhole_43 ?_
  exact lfI h
set_option maxRecDepth 8000 in
def L_X12_readWhole (F : Nat) (x1 : Int32) (x2 : Int32) (σ : sS) : Option (Int32 × sS) := if (vI σ 90 9) = 3 then (if (L_X12_in (vI σ 90 12) x1 x2) = 0 then (bd (L_X12_flaw 2 σ) (fun σ4 => L_X12_readWhole_33 F σ4)) else (L_X12_readWhole_33 F σ)) else (bd (L_X12_flaw 1 σ) (fun σ6 => L_X12_readWhole_33 F σ6))
set_option maxRecDepth 8000 in
theorem e_X12_readWhole {ad : Nat → Nat} {F : Nat} {x1 : Int32} {x2 : Int32} {σ : sS} {z : (Int32 × sS)} (h : L_X12_readWhole F x1 x2 σ = some z) : ab_E (sR ad) mX12_readWhole 4 0 [(0, .ref (ad 90)), (1, .int x1), (2, .int x2)] [] σ (fun r9 σ9 => r9 = some (.int z.1) ∧ σ9 = z.2) := by
  unfold L_X12_readWhole at h
  refine r_aload_n dX12_readWhole_0 0 rfl ?_
  refine s_getI ok_X12 dX12_readWhole_1 (k := 9) (by decide) fl_X12_163 rfl rfl ?_
  refine r_iconst (v := 3) dX12_readWhole_4 (by decide) ?_
  refine r_icmp_eq (t := 16) dX12_readWhole_5 (by decide) (fun qc1 => ?_) (fun qc1 => ?_)
  · replace h := ifp h qc1
    refine r_aload_n dX12_readWhole_16 0 rfl ?_
    refine s_getI ok_X12 dX12_readWhole_17 (k := 12) (by decide) fl_X12_181 rfl rfl ?_
    refine r_iload_n dX12_readWhole_20 1 rfl ?_
    refine r_iload_n dX12_readWhole_21 2 rfl ?_
    refine x_callS (Y := mX12_in) (d' := 1) dX12_readWhole_22 ml_X12_156 ys_X12_in (by omega) rfl rfl (by simp [Value.category]) (lc_X12_in (vI σ 90 12) x1 x2 σ) ?_
    refine r_if_ne (t := 33) dX12_readWhole_25 (by decide) (fun qc2 => ?_) (fun qc2 => ?_)
    · replace h := ifn h qc2
      exact ab_E.lo [0] rfl (l_X12_readWhole_33 _ h)
    · replace h := ifp h qc2
      refine r_aload_n dX12_readWhole_28 0 rfl ?_
      refine r_iconst (v := 2) dX12_readWhole_29 (by decide) ?_
      obtain ⟨σ4, qg3, h⟩ := bd_at h
      refine x_callV0 (Y := mX12_flaw) (d' := 2) dX12_readWhole_30 ml_X12_205 yv_X12_flaw (by omega) rfl rfl (by simp [Value.category]) (sR_is rfl rfl) (lc_X12_flaw qg3) ?_
      exact ab_E.lo [0] rfl (l_X12_readWhole_33 _ h)
  · replace h := ifn h qc1
    refine r_aload_n dX12_readWhole_8 0 rfl ?_
    refine r_iconst (v := 1) dX12_readWhole_9 (by decide) ?_
    obtain ⟨σ6, qg5, h⟩ := bd_at h
    refine x_callV0 (Y := mX12_flaw) (d' := 2) dX12_readWhole_10 ml_X12_205 yv_X12_flaw (by omega) rfl rfl (by simp [Value.category]) (sR_is rfl rfl) (lc_X12_flaw qg5) ?_
    refine r_goto (t := 33) dX12_readWhole_13 (by decide) ?_
    exact ab_E.lo [0] rfl (l_X12_readWhole_33 _ h)
set_option maxRecDepth 8000 in
theorem lc_X12_readWhole {ad : Nat → Nat} {F : Nat} {x1 : Int32} {x2 : Int32} {σ τ : sS} {r : Int32} (h : L_X12_readWhole F x1 x2 σ = some (r, τ)) : ab_X (sR ad) 4 mX12_readWhole [.ref (ad 90), .int x1, .int x2] σ (some (.int r)) τ := ab_X.of (by decide) (Nat.le_of_ble_eq_true rfl) (e_X12_readWhole h)
set_option maxRecDepth 8000 in
def L_X12_begins (F : Nat) (x1 : Int32) (σ : sS) : Option sS := bnd (uI σ 90 5 x1) (fun σ1 => bnd (uI σ1 90 4 0) (fun σ2 => bnd (uI σ2 90 6 0) (fun σ3 => bnd (uI σ3 90 7 0) (fun σ4 => bd (L_X12_goOn F σ4) (fun σ6 => some σ6)))))
set_option maxRecDepth 8000 in
theorem e_X12_begins {ad : Nat → Nat} {F : Nat} {x1 : Int32} {σ : sS} {z : sS} (h : L_X12_begins F x1 σ = some z) : ab_E (sR ad) mX12_begins 4 0 [(0, .ref (ad 90)), (1, .int x1)] [] σ (fun r9 σ9 => r9 = none ∧ σ9 = z) := by
  unfold L_X12_begins at h
  refine r_aload_n dX12_begins_0 0 rfl ?_
  refine r_iload_n dX12_begins_1 1 rfl ?_
  refine s_putI ok_X12 dX12_begins_2 (k := 5) (by decide) fl_X12_153 rfl rfl rfl rfl rfl ?_
  refine r_st (fun σ1 eσ1 => ?_)
  replace h := bnd_at h eσ1
  refine r_aload_n dX12_begins_5 0 rfl ?_
  refine r_iconst (v := 0) dX12_begins_6 (by decide) ?_
  refine s_putI ok_X12 dX12_begins_7 (k := 4) (by decide) fl_X12_137 rfl rfl rfl rfl rfl ?_
  refine r_st (fun σ2 eσ2 => ?_)
  replace h := bnd_at h eσ2
  refine r_aload_n dX12_begins_10 0 rfl ?_
  refine r_iconst (v := 0) dX12_begins_11 (by decide) ?_
  refine s_putI ok_X12 dX12_begins_12 (k := 6) (by decide) fl_X12_160 rfl rfl rfl rfl rfl ?_
  refine r_st (fun σ3 eσ3 => ?_)
  replace h := bnd_at h eσ3
  refine r_aload_n dX12_begins_15 0 rfl ?_
  refine r_iconst (v := 0) dX12_begins_16 (by decide) ?_
  refine s_putI ok_X12 dX12_begins_17 (k := 7) (by decide) fl_X12_140 rfl rfl rfl rfl rfl ?_
  refine r_st (fun σ4 eσ4 => ?_)
  replace h := bnd_at h eσ4
  refine r_aload_n dX12_begins_20 0 rfl ?_
  obtain ⟨σ6, qg5, h⟩ := bd_at h
  refine x_callV0 (Y := mX12_goOn) (d' := 3) dX12_begins_21 ml_X12_209 yv_X12_goOn (by omega) rfl rfl (by simp [Value.category]) (sR_is rfl rfl) (lc_X12_goOn qg5) ?_
  refine r_vret rfl dX12_begins_24 ?_
  exact lfV h
set_option maxRecDepth 8000 in
theorem lc_X12_begins {ad : Nat → Nat} {F : Nat} {x1 : Int32} {σ τ : sS} (h : L_X12_begins F x1 σ = some τ) : ab_X (sR ad) 4 mX12_begins [.ref (ad 90), .int x1] σ none τ := ab_X.of (by decide) (Nat.le_of_ble_eq_true rfl) (e_X12_begins h)
set_option maxRecDepth 8000 in
def L_X12_isLong (x1 : Int32) (σ : sS) : Int32 := if (L_X12_in x1 0 (vI σ 90 4)) = 0 then ((1 : Int32)) else ((0 : Int32))
set_option maxRecDepth 8000 in
theorem e_X12_isLong {ad : Nat → Nat} {x1 : Int32} {σ : sS} {z : Int32} (h : L_X12_isLong x1 σ = z) : ab_E (sR ad) mX12_isLong 2 0 [(0, .ref (ad 90)), (1, .int x1)] [] σ (fun r9 σ9 => r9 = some (.int z) ∧ σ9 = σ) := by
  unfold L_X12_isLong at h
  refine r_iload_n dX12_isLong_0 1 rfl ?_
  refine r_iconst (v := 0) dX12_isLong_1 (by decide) ?_
  refine r_aload_n dX12_isLong_2 0 rfl ?_
  refine s_getI ok_X12 dX12_isLong_3 (k := 4) (by decide) fl_X12_137 rfl rfl ?_
  refine x_callS (Y := mX12_in) (d' := 1) dX12_isLong_6 ml_X12_156 ys_X12_in (by omega) rfl rfl (by simp [Value.category]) (lc_X12_in x1 0 (vI σ 90 4) σ) ?_
  refine r_if_ne (t := 16) dX12_isLong_9 (by decide) (fun qc1 => ?_) (fun qc1 => ?_)
  · replace h := ifn h qc1
    refine r_iconst (v := 0) dX12_isLong_16 (by decide) ?_
    refine r_zret rfl (by decide) dX12_isLong_17 ?_
    exact lfT h
  · replace h := ifp h qc1
    refine r_iconst (v := 1) dX12_isLong_12 (by decide) ?_
    refine r_goto (t := 17) dX12_isLong_13 (by decide) ?_
    refine r_zret rfl (by decide) dX12_isLong_17 ?_
    exact lfT h
set_option maxRecDepth 8000 in
theorem lc_X12_isLong {ad : Nat → Nat} (x1 : Int32) (σ : sS) : ab_X (sR ad) 2 mX12_isLong [.ref (ad 90), .int x1] σ (some (.int (L_X12_isLong x1 σ))) σ := ab_X.of (by decide) (Nat.le_of_ble_eq_true rfl) (e_X12_isLong rfl)
set_option maxRecDepth 8000 in
def L_X12_faulty (σ : sS) : Option (Int32 × sS) := bnd (uI σ 90 1 4) (fun σ1 => bnd (uI σ1 90 2 (vI σ1 90 8)) (fun σ2 => some (((-1), σ2))))
set_option maxRecDepth 8000 in
theorem e_X12_faulty {ad : Nat → Nat}  {σ : sS} {z : (Int32 × sS)} (h : L_X12_faulty σ = some z) : ab_E (sR ad) mX12_faulty 1 0 [(0, .ref (ad 90))] [] σ (fun r9 σ9 => r9 = some (.int z.1) ∧ σ9 = z.2) := by
  unfold L_X12_faulty at h
  refine r_aload_n dX12_faulty_0 0 rfl ?_
  refine r_iconst (v := 4) dX12_faulty_1 (by decide) ?_
  refine s_putI ok_X12 dX12_faulty_2 (k := 1) (by decide) fl_X12_134 rfl rfl rfl rfl rfl ?_
  refine r_st (fun σ1 eσ1 => ?_)
  replace h := bnd_at h eσ1
  refine r_aload_n dX12_faulty_5 0 rfl ?_
  refine r_aload_n dX12_faulty_6 0 rfl ?_
  refine s_getI ok_X12 dX12_faulty_7 (k := 8) (by decide) fl_X12_143 rfl rfl ?_
  refine s_putI ok_X12 dX12_faulty_10 (k := 2) (by decide) fl_X12_9 rfl rfl rfl rfl rfl ?_
  refine r_st (fun σ2 eσ2 => ?_)
  replace h := bnd_at h eσ2
  refine r_iconst (v := (-1)) dX12_faulty_13 (by decide) ?_
  refine r_iret rfl dX12_faulty_14 ?_
  exact lfI h
set_option maxRecDepth 8000 in
theorem lc_X12_faulty {ad : Nat → Nat}  {σ τ : sS} {r : Int32} (h : L_X12_faulty σ = some (r, τ)) : ab_X (sR ad) 1 mX12_faulty [.ref (ad 90)] σ (some (.int r)) τ := ab_X.of (by decide) (Nat.le_of_ble_eq_true rfl) (e_X12_faulty h)
set_option maxRecDepth 8000 in
def L_X12_fault (σ : sS) : Option (Int32 × sS) := bnd (uI σ 90 0 0) (fun σ1 => some ((vI σ1 90 7, σ1)))
set_option maxRecDepth 8000 in
theorem e_X12_fault {ad : Nat → Nat}  {σ : sS} {z : (Int32 × sS)} (h : L_X12_fault σ = some z) : ab_E (sR ad) mX12_fault 1 0 [(0, .ref (ad 90))] [] σ (fun r9 σ9 => r9 = some (.int z.1) ∧ σ9 = z.2) := by
  unfold L_X12_fault at h
  refine r_aload_n dX12_fault_0 0 rfl ?_
  refine r_iconst (v := 0) dX12_fault_1 (by decide) ?_
  refine s_putI ok_X12 dX12_fault_2 (k := 0) (by decide) fl_X12_131 rfl rfl rfl rfl rfl ?_
  refine r_st (fun σ1 eσ1 => ?_)
  replace h := bnd_at h eσ1
  refine r_aload_n dX12_fault_5 0 rfl ?_
  refine s_getI ok_X12 dX12_fault_6 (k := 7) (by decide) fl_X12_140 rfl rfl ?_
  refine r_iret rfl dX12_fault_9 ?_
  exact lfI h
set_option maxRecDepth 8000 in
theorem lc_X12_fault {ad : Nat → Nat}  {σ τ : sS} {r : Int32} (h : L_X12_fault σ = some (r, τ)) : ab_X (sR ad) 1 mX12_fault [.ref (ad 90)] σ (some (.int r)) τ := ab_X.of (by decide) (Nat.le_of_ble_eq_true rfl) (e_X12_fault h)
set_option maxRecDepth 8000 in
def L_X12_where (σ : sS) : Option (Int32 × sS) := bnd (uI σ 90 0 0) (fun σ1 => some ((vI σ1 90 2, σ1)))
set_option maxRecDepth 8000 in
theorem e_X12_where {ad : Nat → Nat}  {σ : sS} {z : (Int32 × sS)} (h : L_X12_where σ = some z) : ab_E (sR ad) mX12_where 1 0 [(0, .ref (ad 90))] [] σ (fun r9 σ9 => r9 = some (.int z.1) ∧ σ9 = z.2) := by
  unfold L_X12_where at h
  refine r_aload_n dX12_where_0 0 rfl ?_
  refine r_iconst (v := 0) dX12_where_1 (by decide) ?_
  refine s_putI ok_X12 dX12_where_2 (k := 0) (by decide) fl_X12_131 rfl rfl rfl rfl rfl ?_
  refine r_st (fun σ1 eσ1 => ?_)
  replace h := bnd_at h eσ1
  refine r_aload_n dX12_where_5 0 rfl ?_
  refine s_getI ok_X12 dX12_where_6 (k := 2) (by decide) fl_X12_9 rfl rfl ?_
  refine r_iret rfl dX12_where_9 ?_
  exact lfI h
set_option maxRecDepth 8000 in
theorem lc_X12_where {ad : Nat → Nat}  {σ τ : sS} {r : Int32} (h : L_X12_where σ = some (r, τ)) : ab_X (sR ad) 1 mX12_where [.ref (ad 90)] σ (some (.int r)) τ := ab_X.of (by decide) (Nat.le_of_ble_eq_true rfl) (e_X12_where h)
set_option maxRecDepth 8000 in
def L_X12_isOwn (F : Nat) (σ : sS) : Option Int32 := bd (L_X12_isWord F 0 σ) (fun rq2 => if rq2 = 0 then (bd (L_X12_isWord F 1 σ) (fun rq5 => if rq5 = 0 then (bd (L_X12_isWord F 2 σ) (fun rq8 => if rq8 = 0 then (bd (L_X12_isWord F 3 σ) (fun rq11 => if rq11 = 0 then (bd (L_X12_isWord F 4 σ) (fun rq14 => if rq14 = 0 then (bd (L_X12_isWord F 5 σ) (fun rq17 => if rq17 = 0 then (some ((0 : Int32))) else (some ((1 : Int32))))) else (some ((1 : Int32))))) else (some ((1 : Int32))))) else (some ((1 : Int32))))) else (some ((1 : Int32))))) else (some ((1 : Int32))))
set_option maxRecDepth 8000 in
theorem e_X12_isOwn {ad : Nat → Nat} {F : Nat}  {σ : sS} {z : Int32} (h : L_X12_isOwn F σ = some z) : ab_E (sR ad) mX12_isOwn 7 0 [(0, .ref (ad 90))] [] σ (fun r9 σ9 => r9 = some (.int z) ∧ σ9 = σ) := by
  unfold L_X12_isOwn at h
  refine r_aload_n dX12_isOwn_0 0 rfl ?_
  refine s_ldcS dX12_isOwn_1 sm_X12_227 ?_
  obtain ⟨rq2, qg1, h⟩ := bd_at h
  refine x_callV (Y := mX12_isWord) (d' := 6) dX12_isOwn_3 ml_X12_201 yv_X12_isWord (by omega) rfl rfl (by simp [Value.category]) (sR_is rfl rfl) (lc_X12_isWord (by decide) qg1) ?_
  refine r_if_ne (t := 54) dX12_isOwn_6 (by decide) (fun qc3 => ?_) (fun qc3 => ?_)
  · replace h := ifn h qc3
    refine r_iconst (v := 1) dX12_isOwn_54 (by decide) ?_
    refine r_goto (t := 59) dX12_isOwn_55 (by decide) ?_
    refine r_zret rfl (by decide) dX12_isOwn_59 ?_
    exact lfP h
  · replace h := ifp h qc3
    refine r_aload_n dX12_isOwn_9 0 rfl ?_
    refine s_ldcS dX12_isOwn_10 sm_X12_229 ?_
    obtain ⟨rq5, qg4, h⟩ := bd_at h
    refine x_callV (Y := mX12_isWord) (d' := 6) dX12_isOwn_12 ml_X12_201 yv_X12_isWord (by omega) rfl rfl (by simp [Value.category]) (sR_is rfl rfl) (lc_X12_isWord (by decide) qg4) ?_
    refine r_if_ne (t := 54) dX12_isOwn_15 (by decide) (fun qc6 => ?_) (fun qc6 => ?_)
    · replace h := ifn h qc6
      refine r_iconst (v := 1) dX12_isOwn_54 (by decide) ?_
      refine r_goto (t := 59) dX12_isOwn_55 (by decide) ?_
      refine r_zret rfl (by decide) dX12_isOwn_59 ?_
      exact lfP h
    · replace h := ifp h qc6
      refine r_aload_n dX12_isOwn_18 0 rfl ?_
      refine s_ldcS dX12_isOwn_19 sm_X12_231 ?_
      obtain ⟨rq8, qg7, h⟩ := bd_at h
      refine x_callV (Y := mX12_isWord) (d' := 6) dX12_isOwn_21 ml_X12_201 yv_X12_isWord (by omega) rfl rfl (by simp [Value.category]) (sR_is rfl rfl) (lc_X12_isWord (by decide) qg7) ?_
      refine r_if_ne (t := 54) dX12_isOwn_24 (by decide) (fun qc9 => ?_) (fun qc9 => ?_)
      · replace h := ifn h qc9
        refine r_iconst (v := 1) dX12_isOwn_54 (by decide) ?_
        refine r_goto (t := 59) dX12_isOwn_55 (by decide) ?_
        refine r_zret rfl (by decide) dX12_isOwn_59 ?_
        exact lfP h
      · replace h := ifp h qc9
        refine r_aload_n dX12_isOwn_27 0 rfl ?_
        refine s_ldcS dX12_isOwn_28 sm_X12_232 ?_
        obtain ⟨rq11, qg10, h⟩ := bd_at h
        refine x_callV (Y := mX12_isWord) (d' := 6) dX12_isOwn_30 ml_X12_201 yv_X12_isWord (by omega) rfl rfl (by simp [Value.category]) (sR_is rfl rfl) (lc_X12_isWord (by decide) qg10) ?_
        refine r_if_ne (t := 54) dX12_isOwn_33 (by decide) (fun qc12 => ?_) (fun qc12 => ?_)
        · replace h := ifn h qc12
          refine r_iconst (v := 1) dX12_isOwn_54 (by decide) ?_
          refine r_goto (t := 59) dX12_isOwn_55 (by decide) ?_
          refine r_zret rfl (by decide) dX12_isOwn_59 ?_
          exact lfP h
        · replace h := ifp h qc12
          refine r_aload_n dX12_isOwn_36 0 rfl ?_
          refine s_ldcS dX12_isOwn_37 sm_X12_233 ?_
          obtain ⟨rq14, qg13, h⟩ := bd_at h
          refine x_callV (Y := mX12_isWord) (d' := 6) dX12_isOwn_39 ml_X12_201 yv_X12_isWord (by omega) rfl rfl (by simp [Value.category]) (sR_is rfl rfl) (lc_X12_isWord (by decide) qg13) ?_
          refine r_if_ne (t := 54) dX12_isOwn_42 (by decide) (fun qc15 => ?_) (fun qc15 => ?_)
          · replace h := ifn h qc15
            refine r_iconst (v := 1) dX12_isOwn_54 (by decide) ?_
            refine r_goto (t := 59) dX12_isOwn_55 (by decide) ?_
            refine r_zret rfl (by decide) dX12_isOwn_59 ?_
            exact lfP h
          · replace h := ifp h qc15
            refine r_aload_n dX12_isOwn_45 0 rfl ?_
            refine s_ldcS dX12_isOwn_46 sm_X12_235 ?_
            obtain ⟨rq17, qg16, h⟩ := bd_at h
            refine x_callV (Y := mX12_isWord) (d' := 6) dX12_isOwn_48 ml_X12_201 yv_X12_isWord (by omega) rfl rfl (by simp [Value.category]) (sR_is rfl rfl) (lc_X12_isWord (by decide) qg16) ?_
            refine r_if_eq (t := 58) dX12_isOwn_51 (by decide) (fun qc18 => ?_) (fun qc18 => ?_)
            · replace h := ifp h qc18
              refine r_iconst (v := 0) dX12_isOwn_58 (by decide) ?_
              refine r_zret rfl (by decide) dX12_isOwn_59 ?_
              exact lfP h
            · replace h := ifn h qc18
              refine r_iconst (v := 1) dX12_isOwn_54 (by decide) ?_
              refine r_goto (t := 59) dX12_isOwn_55 (by decide) ?_
              refine r_zret rfl (by decide) dX12_isOwn_59 ?_
              exact lfP h
set_option maxRecDepth 8000 in
theorem lc_X12_isOwn {ad : Nat → Nat} {F : Nat}  {σ : sS} {r : Int32} (h : L_X12_isOwn F σ = some r) : ab_X (sR ad) 7 mX12_isOwn [.ref (ad 90)] σ (some (.int r)) σ := ab_X.of (by decide) (Nat.le_of_ble_eq_true rfl) (e_X12_isOwn h)
set_option maxRecDepth 8000 in
def L_X12_readAuto_58 (F : Nat) (kx : sS → Option sS) : Nat → Int32 → sS → Option sS
  | 0, _, _ => none
  | n + 1, x1, σ => if (vI σ 90 22) ≤ x1 then (kx σ) else (grd (inb x1 3) (if (lg_cmp (vL σ 118 x1.toNatClampNeg) (vL σ 90 13)) = 0 then (bd (L_X12_flaw 3 σ) (fun σ10 => L_X12_readAuto_58 F kx n (x1 + 1) σ10)) else (L_X12_readAuto_58 F kx n (x1 + 1) σ)))
set_option maxRecDepth 8000 in
theorem l_X12_readAuto_58 {ad : Nat → Nat} {F : Nat} {z : sS} {kx : sS → Option sS} (hx : ∀  (σ : sS), kx σ = some z → ab_E (sR ad) mX12_readAuto 8 91 [(0, .ref (ad 90))] [] σ (fun r9 σ9 => r9 = none ∧ σ9 = z)) : ∀ (n : Nat) (x1 : Int32) (σ : sS), L_X12_readAuto_58 F kx n x1 σ = some z → ab_E (sR ad) mX12_readAuto 8 58 [(1, .int x1), (0, .ref (ad 90))] [] σ (fun r9 σ9 => r9 = none ∧ σ9 = z) := by
  intro n
  induction n with
  | zero =>
    intro x1 σ h
    rw [L_X12_readAuto_58] at h
    cases h
  | succ n ih =>
    intro x1 σ h
    rw [L_X12_readAuto_58] at h
    refine r_iload_n dX12_readAuto_58 0 rfl ?_
    refine r_aload_n dX12_readAuto_59 1 rfl ?_
    refine s_getI ok_X12 dX12_readAuto_60 (k := 22) (by decide) fl_X12_215 rfl rfl ?_
    refine r_icmp_ge (t := 91) dX12_readAuto_63 (by decide) (fun qc6 => ?_) (fun qc6 => ?_)
    · replace h := ifp h qc6
      exact ab_E.lo [1] rfl (hx _ h)
    · replace h := ifn h qc6
      refine r_aload_n dX12_readAuto_66 1 rfl ?_
      refine s_getR (b := 118) ok_X12 dX12_readAuto_67 (k := 18) (by decide) fl_X12_29 rfl rfl rfl ?_
      refine r_iload_n dX12_readAuto_70 0 rfl ?_
      obtain ⟨qg7, h⟩ := grd_at h
      refine s_lald dX12_readAuto_71 rfl (inb_of qg7) ?_
      refine r_aload_n dX12_readAuto_72 1 rfl ?_
      refine s_getL ok_X12 dX12_readAuto_73 (k := 13) (by decide) fl_X12_170 rfl rfl ?_
      refine r_lcmp dX12_readAuto_76 ?_
      refine r_if_ne (t := 85) dX12_readAuto_77 (by decide) (fun qc8 => ?_) (fun qc8 => ?_)
      · replace h := ifn h qc8
        refine r_iinc (v := x1 + 1) (lo' := [(1, .int (x1 + 1)), (0, .ref (ad 90))]) dX12_readAuto_85 0 rfl rfl (by decide) rfl ?_
        refine r_goto (t := 58) dX12_readAuto_88 (by decide) ?_
        exact ab_E.lo [0, 1] rfl (ih _ _ h)
      · replace h := ifp h qc8
        refine r_aload_n dX12_readAuto_80 1 rfl ?_
        refine r_iconst (v := 3) dX12_readAuto_81 (by decide) ?_
        obtain ⟨σ10, qg9, h⟩ := bd_at h
        refine x_callV0 (Y := mX12_flaw) (d' := 2) dX12_readAuto_82 ml_X12_205 yv_X12_flaw (by omega) rfl rfl (by simp [Value.category]) (sR_is rfl rfl) (lc_X12_flaw qg9) ?_
        refine r_iinc (v := x1 + 1) (lo' := [(1, .int (x1 + 1)), (0, .ref (ad 90))]) dX12_readAuto_85 0 rfl rfl (by decide) rfl ?_
        refine r_goto (t := 58) dX12_readAuto_88 (by decide) ?_
        exact ab_E.lo [0, 1] rfl (ih _ _ h)
set_option maxRecDepth 8000 in
def L_X12_readAuto_25 (F : Nat)  (σ : sS) : Option sS := bd (L_X12_goOn F σ) (fun σ4 => if (vI σ4 90 7) = 0 then (if (vI σ4 90 9) = 2 then (bd (L_X12_isOwn F σ4) (fun rq48 => if rq48 = 0 then (L_X12_readAuto_58 F (fun σ50 => bnd (vL σ50 90 13) (fun yq51 => bd (L_X12_goOn F σ50) (fun σ53 => bd (L_X12_needs F 2 σ53) (fun σ55 => bd2 (L_X12_readWhole F 1 4 σ55) (fun rq57 σ58 => if (vI σ58 90 7) ≤ 0 then (grd (inb (vI σ58 90 22) 3) (bnd (uL σ58 118 (vI σ58 90 22).toNatClampNeg yq51) (fun σ61 => grd (inb ((3 : Int32) + (vI σ61 90 22)) 6) (bnd (uI σ61 114 ((3 : Int32) + (vI σ61 90 22)).toNatClampNeg rq57) (fun σ63 => grd (inb ((3 : Int32) + (vI σ63 90 22)) 6) (bnd (uI σ63 115 ((3 : Int32) + (vI σ63 90 22)).toNatClampNeg 0) (fun σ65 => grd (inb ((3 : Int32) + (vI σ65 90 22)) 6) (bnd (uI σ65 116 ((3 : Int32) + (vI σ65 90 22)).toNatClampNeg 0) (fun σ67 => bnd (uI σ67 90 22 ((vI σ67 90 22) + 1)) (fun σ68 => some σ68)))))))))) else (some σ58)))))) F 0 σ4) else (bd (L_X12_flaw 1 σ4) (fun σ70 => L_X12_readAuto_58 F (fun σ71 => bnd (vL σ71 90 13) (fun yq72 => bd (L_X12_goOn F σ71) (fun σ74 => bd (L_X12_needs F 2 σ74) (fun σ76 => bd2 (L_X12_readWhole F 1 4 σ76) (fun rq78 σ79 => if (vI σ79 90 7) ≤ 0 then (grd (inb (vI σ79 90 22) 3) (bnd (uL σ79 118 (vI σ79 90 22).toNatClampNeg yq72) (fun σ82 => grd (inb ((3 : Int32) + (vI σ82 90 22)) 6) (bnd (uI σ82 114 ((3 : Int32) + (vI σ82 90 22)).toNatClampNeg rq78) (fun σ84 => grd (inb ((3 : Int32) + (vI σ84 90 22)) 6) (bnd (uI σ84 115 ((3 : Int32) + (vI σ84 90 22)).toNatClampNeg 0) (fun σ86 => grd (inb ((3 : Int32) + (vI σ86 90 22)) 6) (bnd (uI σ86 116 ((3 : Int32) + (vI σ86 90 22)).toNatClampNeg 0) (fun σ88 => bnd (uI σ88 90 22 ((vI σ88 90 22) + 1)) (fun σ89 => some σ89)))))))))) else (some σ79)))))) F 0 σ70)))) else (bd (L_X12_flaw 1 σ4) (fun σ27 => L_X12_readAuto_58 F (fun σ28 => bnd (vL σ28 90 13) (fun yq29 => bd (L_X12_goOn F σ28) (fun σ31 => bd (L_X12_needs F 2 σ31) (fun σ33 => bd2 (L_X12_readWhole F 1 4 σ33) (fun rq35 σ36 => if (vI σ36 90 7) ≤ 0 then (grd (inb (vI σ36 90 22) 3) (bnd (uL σ36 118 (vI σ36 90 22).toNatClampNeg yq29) (fun σ39 => grd (inb ((3 : Int32) + (vI σ39 90 22)) 6) (bnd (uI σ39 114 ((3 : Int32) + (vI σ39 90 22)).toNatClampNeg rq35) (fun σ41 => grd (inb ((3 : Int32) + (vI σ41 90 22)) 6) (bnd (uI σ41 115 ((3 : Int32) + (vI σ41 90 22)).toNatClampNeg 0) (fun σ43 => grd (inb ((3 : Int32) + (vI σ43 90 22)) 6) (bnd (uI σ43 116 ((3 : Int32) + (vI σ43 90 22)).toNatClampNeg 0) (fun σ45 => bnd (uI σ45 90 22 ((vI σ45 90 22) + 1)) (fun σ46 => some σ46)))))))))) else (some σ36)))))) F 0 σ27))) else (L_X12_readAuto_58 F (fun σ6 => bnd (vL σ6 90 13) (fun yq7 => bd (L_X12_goOn F σ6) (fun σ9 => bd (L_X12_needs F 2 σ9) (fun σ11 => bd2 (L_X12_readWhole F 1 4 σ11) (fun rq13 σ14 => if (vI σ14 90 7) ≤ 0 then (grd (inb (vI σ14 90 22) 3) (bnd (uL σ14 118 (vI σ14 90 22).toNatClampNeg yq7) (fun σ17 => grd (inb ((3 : Int32) + (vI σ17 90 22)) 6) (bnd (uI σ17 114 ((3 : Int32) + (vI σ17 90 22)).toNatClampNeg rq13) (fun σ19 => grd (inb ((3 : Int32) + (vI σ19 90 22)) 6) (bnd (uI σ19 115 ((3 : Int32) + (vI σ19 90 22)).toNatClampNeg 0) (fun σ21 => grd (inb ((3 : Int32) + (vI σ21 90 22)) 6) (bnd (uI σ21 116 ((3 : Int32) + (vI σ21 90 22)).toNatClampNeg 0) (fun σ23 => bnd (uI σ23 90 22 ((vI σ23 90 22) + 1)) (fun σ24 => some σ24)))))))))) else (some σ14)))))) F 0 σ4))
set_option maxRecDepth 8000 in
theorem l_X12_readAuto_25 {ad : Nat → Nat} {F : Nat} {z : sS}  (σ : sS) (h : L_X12_readAuto_25 F σ = some z) : ab_E (sR ad) mX12_readAuto 8 25 [(0, .ref (ad 90))] [] σ (fun r9 σ9 => r9 = none ∧ σ9 = z) := by
  unfold L_X12_readAuto_25 at h
  refine r_aload_n dX12_readAuto_25 0 rfl ?_
  obtain ⟨σ4, qg3, h⟩ := bd_at h
  refine x_callV0 (Y := mX12_goOn) (d' := 3) dX12_readAuto_26 ml_X12_209 yv_X12_goOn (by omega) rfl rfl (by simp [Value.category]) (sR_is rfl rfl) (lc_X12_goOn qg3) ?_
  refine r_aload_n dX12_readAuto_29 0 rfl ?_
  refine s_getI ok_X12 dX12_readAuto_30 (k := 7) (by decide) fl_X12_140 rfl rfl ?_
  refine r_if_ne (t := 56) dX12_readAuto_33 (by decide) (fun qc5 => ?_) (fun qc5 => ?_)
  · replace h := ifn h qc5
    refine r_iconst (v := 0) dX12_readAuto_56 (by decide) ?_
    refine r_istore_n (lo' := [(1, .int 0), (0, .ref (ad 90))]) dX12_readAuto_57 (by decide) rfl ?_
    refine ab_E.lo [0, 1] rfl (l_X12_readAuto_58 (fun σ6 h => ?_) _ _ _ h)
    refine r_aload_n dX12_readAuto_91 0 rfl ?_
    refine s_getL ok_X12 dX12_readAuto_92 (k := 13) (by decide) fl_X12_170 rfl rfl ?_
    refine r_topl (fun yq7 eyq7 => ?_)
    replace h := bnd_at h eyq7
    refine r_lstore_n (lo' := [(1, .long yq7), (0, .ref (ad 90))]) dX12_readAuto_95 (by decide) rfl ?_
    refine r_aload_n dX12_readAuto_96 1 rfl ?_
    obtain ⟨σ9, qg8, h⟩ := bd_at h
    refine x_callV0 (Y := mX12_goOn) (d' := 3) dX12_readAuto_97 ml_X12_209 yv_X12_goOn (by omega) rfl rfl (by simp [Value.category]) (sR_is rfl rfl) (lc_X12_goOn qg8) ?_
    refine r_aload_n dX12_readAuto_100 1 rfl ?_
    refine s_ldcS dX12_readAuto_101 sm_X12_231 ?_
    obtain ⟨σ11, qg10, h⟩ := bd_at h
    refine x_callV0 (Y := mX12_needs) (d' := 7) dX12_readAuto_103 ml_X12_257 yv_X12_needs (by omega) rfl rfl (by simp [Value.category]) (sR_is rfl rfl) (lc_X12_needs (by decide) qg10) ?_
    refine r_aload_n dX12_readAuto_106 1 rfl ?_
    refine r_iconst (v := 1) dX12_readAuto_107 (by decide) ?_
    refine r_iconst (v := 4) dX12_readAuto_108 (by decide) ?_
    obtain ⟨rq13, σ14, qg12, h⟩ := bd2_at h
    refine x_callV (Y := mX12_readWhole) (d' := 4) dX12_readAuto_109 ml_X12_249 yv_X12_readWhole (by omega) rfl rfl (by simp [Value.category]) (sR_is rfl rfl) (lc_X12_readWhole qg12) ?_
    refine r_istore_n (lo' := [(3, .int rq13), (1, .long yq7), (0, .ref (ad 90))]) dX12_readAuto_112 (by decide) rfl ?_
    refine r_aload_n dX12_readAuto_113 2 rfl ?_
    refine s_getI ok_X12 dX12_readAuto_114 (k := 7) (by decide) fl_X12_140 rfl rfl ?_
    refine r_if_le (t := 121) dX12_readAuto_117 (by decide) (fun qc15 => ?_) (fun qc15 => ?_)
    · replace h := ifp h qc15
      refine r_aload_n dX12_readAuto_121 2 rfl ?_
      refine s_getR (b := 118) ok_X12 dX12_readAuto_122 (k := 18) (by decide) fl_X12_29 rfl rfl rfl ?_
      refine r_aload_n dX12_readAuto_125 2 rfl ?_
      refine s_getI ok_X12 dX12_readAuto_126 (k := 22) (by decide) fl_X12_215 rfl rfl ?_
      refine r_lload_n dX12_readAuto_129 1 rfl ?_
      obtain ⟨qg16, h⟩ := grd_at h
      refine s_last dX12_readAuto_130 rfl (inb_of qg16) ?_
      refine r_st (fun σ17 eσ17 => ?_)
      replace h := bnd_at h eσ17
      refine r_aload_n dX12_readAuto_131 2 rfl ?_
      refine s_getR (b := 114) ok_X12 dX12_readAuto_132 (k := 14) (by decide) fl_X12_17 rfl rfl rfl ?_
      refine r_iconst (v := 3) dX12_readAuto_135 (by decide) ?_
      refine r_aload_n dX12_readAuto_136 2 rfl ?_
      refine s_getI ok_X12 dX12_readAuto_137 (k := 22) (by decide) fl_X12_215 rfl rfl ?_
      refine r_iadd dX12_readAuto_140 ?_
      refine r_iload_n dX12_readAuto_141 0 rfl ?_
      obtain ⟨qg18, h⟩ := grd_at h
      refine s_iast dX12_readAuto_142 rfl (inb_of qg18) ?_
      refine r_st (fun σ19 eσ19 => ?_)
      replace h := bnd_at h eσ19
      refine r_aload_n dX12_readAuto_143 2 rfl ?_
      refine s_getR (b := 115) ok_X12 dX12_readAuto_144 (k := 15) (by decide) fl_X12_20 rfl rfl rfl ?_
      refine r_iconst (v := 3) dX12_readAuto_147 (by decide) ?_
      refine r_aload_n dX12_readAuto_148 2 rfl ?_
      refine s_getI ok_X12 dX12_readAuto_149 (k := 22) (by decide) fl_X12_215 rfl rfl ?_
      refine r_iadd dX12_readAuto_152 ?_
      refine r_iconst (v := 0) dX12_readAuto_153 (by decide) ?_
      obtain ⟨qg20, h⟩ := grd_at h
      refine s_iast dX12_readAuto_154 rfl (inb_of qg20) ?_
      refine r_st (fun σ21 eσ21 => ?_)
      replace h := bnd_at h eσ21
      refine r_aload_n dX12_readAuto_155 2 rfl ?_
      refine s_getR (b := 116) ok_X12 dX12_readAuto_156 (k := 16) (by decide) fl_X12_23 rfl rfl rfl ?_
      refine r_iconst (v := 3) dX12_readAuto_159 (by decide) ?_
      refine r_aload_n dX12_readAuto_160 2 rfl ?_
      refine s_getI ok_X12 dX12_readAuto_161 (k := 22) (by decide) fl_X12_215 rfl rfl ?_
      refine r_iadd dX12_readAuto_164 ?_
      refine r_iconst (v := 0) dX12_readAuto_165 (by decide) ?_
      obtain ⟨qg22, h⟩ := grd_at h
      refine s_iast dX12_readAuto_166 rfl (inb_of qg22) ?_
      refine r_st (fun σ23 eσ23 => ?_)
      replace h := bnd_at h eσ23
      refine r_aload_n dX12_readAuto_167 2 rfl ?_
      refine r_dup dX12_readAuto_168 rfl ?_
      refine s_getI ok_X12 dX12_readAuto_169 (k := 22) (by decide) fl_X12_215 rfl rfl ?_
      refine r_iconst (v := 1) dX12_readAuto_172 (by decide) ?_
      refine r_iadd dX12_readAuto_173 ?_
      refine s_putI ok_X12 dX12_readAuto_174 (k := 22) (by decide) fl_X12_215 rfl rfl rfl rfl rfl ?_
      refine r_st (fun σ24 eσ24 => ?_)
      replace h := bnd_at h eσ24
      refine r_vret rfl dX12_readAuto_177 ?_
      exact lfV h
    · replace h := ifn h qc15
      refine r_vret rfl dX12_readAuto_120 ?_
      exact lfV h
  · replace h := ifp h qc5
    refine r_aload_n dX12_readAuto_36 0 rfl ?_
    refine s_getI ok_X12 dX12_readAuto_37 (k := 9) (by decide) fl_X12_163 rfl rfl ?_
    refine r_iconst (v := 2) dX12_readAuto_40 (by decide) ?_
    refine r_icmp_ne (t := 51) dX12_readAuto_41 (by decide) (fun qc25 => ?_) (fun qc25 => ?_)
    · replace h := ifn h qc25
      refine r_aload_n dX12_readAuto_51 0 rfl ?_
      refine r_iconst (v := 1) dX12_readAuto_52 (by decide) ?_
      obtain ⟨σ27, qg26, h⟩ := bd_at h
      refine x_callV0 (Y := mX12_flaw) (d' := 2) dX12_readAuto_53 ml_X12_205 yv_X12_flaw (by omega) rfl rfl (by simp [Value.category]) (sR_is rfl rfl) (lc_X12_flaw qg26) ?_
      refine r_iconst (v := 0) dX12_readAuto_56 (by decide) ?_
      refine r_istore_n (lo' := [(1, .int 0), (0, .ref (ad 90))]) dX12_readAuto_57 (by decide) rfl ?_
      refine ab_E.lo [0, 1] rfl (l_X12_readAuto_58 (fun σ28 h => ?_) _ _ _ h)
      refine r_aload_n dX12_readAuto_91 0 rfl ?_
      refine s_getL ok_X12 dX12_readAuto_92 (k := 13) (by decide) fl_X12_170 rfl rfl ?_
      refine r_topl (fun yq29 eyq29 => ?_)
      replace h := bnd_at h eyq29
      refine r_lstore_n (lo' := [(1, .long yq29), (0, .ref (ad 90))]) dX12_readAuto_95 (by decide) rfl ?_
      refine r_aload_n dX12_readAuto_96 1 rfl ?_
      obtain ⟨σ31, qg30, h⟩ := bd_at h
      refine x_callV0 (Y := mX12_goOn) (d' := 3) dX12_readAuto_97 ml_X12_209 yv_X12_goOn (by omega) rfl rfl (by simp [Value.category]) (sR_is rfl rfl) (lc_X12_goOn qg30) ?_
      refine r_aload_n dX12_readAuto_100 1 rfl ?_
      refine s_ldcS dX12_readAuto_101 sm_X12_231 ?_
      obtain ⟨σ33, qg32, h⟩ := bd_at h
      refine x_callV0 (Y := mX12_needs) (d' := 7) dX12_readAuto_103 ml_X12_257 yv_X12_needs (by omega) rfl rfl (by simp [Value.category]) (sR_is rfl rfl) (lc_X12_needs (by decide) qg32) ?_
      refine r_aload_n dX12_readAuto_106 1 rfl ?_
      refine r_iconst (v := 1) dX12_readAuto_107 (by decide) ?_
      refine r_iconst (v := 4) dX12_readAuto_108 (by decide) ?_
      obtain ⟨rq35, σ36, qg34, h⟩ := bd2_at h
      refine x_callV (Y := mX12_readWhole) (d' := 4) dX12_readAuto_109 ml_X12_249 yv_X12_readWhole (by omega) rfl rfl (by simp [Value.category]) (sR_is rfl rfl) (lc_X12_readWhole qg34) ?_
      refine r_istore_n (lo' := [(3, .int rq35), (1, .long yq29), (0, .ref (ad 90))]) dX12_readAuto_112 (by decide) rfl ?_
      refine r_aload_n dX12_readAuto_113 2 rfl ?_
      refine s_getI ok_X12 dX12_readAuto_114 (k := 7) (by decide) fl_X12_140 rfl rfl ?_
      refine r_if_le (t := 121) dX12_readAuto_117 (by decide) (fun qc37 => ?_) (fun qc37 => ?_)
      · replace h := ifp h qc37
        refine r_aload_n dX12_readAuto_121 2 rfl ?_
        refine s_getR (b := 118) ok_X12 dX12_readAuto_122 (k := 18) (by decide) fl_X12_29 rfl rfl rfl ?_
        refine r_aload_n dX12_readAuto_125 2 rfl ?_
        refine s_getI ok_X12 dX12_readAuto_126 (k := 22) (by decide) fl_X12_215 rfl rfl ?_
        refine r_lload_n dX12_readAuto_129 1 rfl ?_
        obtain ⟨qg38, h⟩ := grd_at h
        refine s_last dX12_readAuto_130 rfl (inb_of qg38) ?_
        refine r_st (fun σ39 eσ39 => ?_)
        replace h := bnd_at h eσ39
        refine r_aload_n dX12_readAuto_131 2 rfl ?_
        refine s_getR (b := 114) ok_X12 dX12_readAuto_132 (k := 14) (by decide) fl_X12_17 rfl rfl rfl ?_
        refine r_iconst (v := 3) dX12_readAuto_135 (by decide) ?_
        refine r_aload_n dX12_readAuto_136 2 rfl ?_
        refine s_getI ok_X12 dX12_readAuto_137 (k := 22) (by decide) fl_X12_215 rfl rfl ?_
        refine r_iadd dX12_readAuto_140 ?_
        refine r_iload_n dX12_readAuto_141 0 rfl ?_
        obtain ⟨qg40, h⟩ := grd_at h
        refine s_iast dX12_readAuto_142 rfl (inb_of qg40) ?_
        refine r_st (fun σ41 eσ41 => ?_)
        replace h := bnd_at h eσ41
        refine r_aload_n dX12_readAuto_143 2 rfl ?_
        refine s_getR (b := 115) ok_X12 dX12_readAuto_144 (k := 15) (by decide) fl_X12_20 rfl rfl rfl ?_
        refine r_iconst (v := 3) dX12_readAuto_147 (by decide) ?_
        refine r_aload_n dX12_readAuto_148 2 rfl ?_
        refine s_getI ok_X12 dX12_readAuto_149 (k := 22) (by decide) fl_X12_215 rfl rfl ?_
        refine r_iadd dX12_readAuto_152 ?_
        refine r_iconst (v := 0) dX12_readAuto_153 (by decide) ?_
        obtain ⟨qg42, h⟩ := grd_at h
        refine s_iast dX12_readAuto_154 rfl (inb_of qg42) ?_
        refine r_st (fun σ43 eσ43 => ?_)
        replace h := bnd_at h eσ43
        refine r_aload_n dX12_readAuto_155 2 rfl ?_
        refine s_getR (b := 116) ok_X12 dX12_readAuto_156 (k := 16) (by decide) fl_X12_23 rfl rfl rfl ?_
        refine r_iconst (v := 3) dX12_readAuto_159 (by decide) ?_
        refine r_aload_n dX12_readAuto_160 2 rfl ?_
        refine s_getI ok_X12 dX12_readAuto_161 (k := 22) (by decide) fl_X12_215 rfl rfl ?_
        refine r_iadd dX12_readAuto_164 ?_
        refine r_iconst (v := 0) dX12_readAuto_165 (by decide) ?_
        obtain ⟨qg44, h⟩ := grd_at h
        refine s_iast dX12_readAuto_166 rfl (inb_of qg44) ?_
        refine r_st (fun σ45 eσ45 => ?_)
        replace h := bnd_at h eσ45
        refine r_aload_n dX12_readAuto_167 2 rfl ?_
        refine r_dup dX12_readAuto_168 rfl ?_
        refine s_getI ok_X12 dX12_readAuto_169 (k := 22) (by decide) fl_X12_215 rfl rfl ?_
        refine r_iconst (v := 1) dX12_readAuto_172 (by decide) ?_
        refine r_iadd dX12_readAuto_173 ?_
        refine s_putI ok_X12 dX12_readAuto_174 (k := 22) (by decide) fl_X12_215 rfl rfl rfl rfl rfl ?_
        refine r_st (fun σ46 eσ46 => ?_)
        replace h := bnd_at h eσ46
        refine r_vret rfl dX12_readAuto_177 ?_
        exact lfV h
      · replace h := ifn h qc37
        refine r_vret rfl dX12_readAuto_120 ?_
        exact lfV h
    · replace h := ifp h qc25
      refine r_aload_n dX12_readAuto_44 0 rfl ?_
      obtain ⟨rq48, qg47, h⟩ := bd_at h
      refine x_callV (Y := mX12_isOwn) (d' := 7) dX12_readAuto_45 ml_X12_253 yv_X12_isOwn (by omega) rfl rfl (by simp [Value.category]) (sR_is rfl rfl) (lc_X12_isOwn qg47) ?_
      refine r_if_eq (t := 56) dX12_readAuto_48 (by decide) (fun qc49 => ?_) (fun qc49 => ?_)
      · replace h := ifp h qc49
        refine r_iconst (v := 0) dX12_readAuto_56 (by decide) ?_
        refine r_istore_n (lo' := [(1, .int 0), (0, .ref (ad 90))]) dX12_readAuto_57 (by decide) rfl ?_
        refine ab_E.lo [0, 1] rfl (l_X12_readAuto_58 (fun σ50 h => ?_) _ _ _ h)
        refine r_aload_n dX12_readAuto_91 0 rfl ?_
        refine s_getL ok_X12 dX12_readAuto_92 (k := 13) (by decide) fl_X12_170 rfl rfl ?_
        refine r_topl (fun yq51 eyq51 => ?_)
        replace h := bnd_at h eyq51
        refine r_lstore_n (lo' := [(1, .long yq51), (0, .ref (ad 90))]) dX12_readAuto_95 (by decide) rfl ?_
        refine r_aload_n dX12_readAuto_96 1 rfl ?_
        obtain ⟨σ53, qg52, h⟩ := bd_at h
        refine x_callV0 (Y := mX12_goOn) (d' := 3) dX12_readAuto_97 ml_X12_209 yv_X12_goOn (by omega) rfl rfl (by simp [Value.category]) (sR_is rfl rfl) (lc_X12_goOn qg52) ?_
        refine r_aload_n dX12_readAuto_100 1 rfl ?_
        refine s_ldcS dX12_readAuto_101 sm_X12_231 ?_
        obtain ⟨σ55, qg54, h⟩ := bd_at h
        refine x_callV0 (Y := mX12_needs) (d' := 7) dX12_readAuto_103 ml_X12_257 yv_X12_needs (by omega) rfl rfl (by simp [Value.category]) (sR_is rfl rfl) (lc_X12_needs (by decide) qg54) ?_
        refine r_aload_n dX12_readAuto_106 1 rfl ?_
        refine r_iconst (v := 1) dX12_readAuto_107 (by decide) ?_
        refine r_iconst (v := 4) dX12_readAuto_108 (by decide) ?_
        obtain ⟨rq57, σ58, qg56, h⟩ := bd2_at h
        refine x_callV (Y := mX12_readWhole) (d' := 4) dX12_readAuto_109 ml_X12_249 yv_X12_readWhole (by omega) rfl rfl (by simp [Value.category]) (sR_is rfl rfl) (lc_X12_readWhole qg56) ?_
        refine r_istore_n (lo' := [(3, .int rq57), (1, .long yq51), (0, .ref (ad 90))]) dX12_readAuto_112 (by decide) rfl ?_
        refine r_aload_n dX12_readAuto_113 2 rfl ?_
        refine s_getI ok_X12 dX12_readAuto_114 (k := 7) (by decide) fl_X12_140 rfl rfl ?_
        refine r_if_le (t := 121) dX12_readAuto_117 (by decide) (fun qc59 => ?_) (fun qc59 => ?_)
        · replace h := ifp h qc59
          refine r_aload_n dX12_readAuto_121 2 rfl ?_
          refine s_getR (b := 118) ok_X12 dX12_readAuto_122 (k := 18) (by decide) fl_X12_29 rfl rfl rfl ?_
          refine r_aload_n dX12_readAuto_125 2 rfl ?_
          refine s_getI ok_X12 dX12_readAuto_126 (k := 22) (by decide) fl_X12_215 rfl rfl ?_
          refine r_lload_n dX12_readAuto_129 1 rfl ?_
          obtain ⟨qg60, h⟩ := grd_at h
          refine s_last dX12_readAuto_130 rfl (inb_of qg60) ?_
          refine r_st (fun σ61 eσ61 => ?_)
          replace h := bnd_at h eσ61
          refine r_aload_n dX12_readAuto_131 2 rfl ?_
          refine s_getR (b := 114) ok_X12 dX12_readAuto_132 (k := 14) (by decide) fl_X12_17 rfl rfl rfl ?_
          refine r_iconst (v := 3) dX12_readAuto_135 (by decide) ?_
          refine r_aload_n dX12_readAuto_136 2 rfl ?_
          refine s_getI ok_X12 dX12_readAuto_137 (k := 22) (by decide) fl_X12_215 rfl rfl ?_
          refine r_iadd dX12_readAuto_140 ?_
          refine r_iload_n dX12_readAuto_141 0 rfl ?_
          obtain ⟨qg62, h⟩ := grd_at h
          refine s_iast dX12_readAuto_142 rfl (inb_of qg62) ?_
          refine r_st (fun σ63 eσ63 => ?_)
          replace h := bnd_at h eσ63
          refine r_aload_n dX12_readAuto_143 2 rfl ?_
          refine s_getR (b := 115) ok_X12 dX12_readAuto_144 (k := 15) (by decide) fl_X12_20 rfl rfl rfl ?_
          refine r_iconst (v := 3) dX12_readAuto_147 (by decide) ?_
          refine r_aload_n dX12_readAuto_148 2 rfl ?_
          refine s_getI ok_X12 dX12_readAuto_149 (k := 22) (by decide) fl_X12_215 rfl rfl ?_
          refine r_iadd dX12_readAuto_152 ?_
          refine r_iconst (v := 0) dX12_readAuto_153 (by decide) ?_
          obtain ⟨qg64, h⟩ := grd_at h
          refine s_iast dX12_readAuto_154 rfl (inb_of qg64) ?_
          refine r_st (fun σ65 eσ65 => ?_)
          replace h := bnd_at h eσ65
          refine r_aload_n dX12_readAuto_155 2 rfl ?_
          refine s_getR (b := 116) ok_X12 dX12_readAuto_156 (k := 16) (by decide) fl_X12_23 rfl rfl rfl ?_
          refine r_iconst (v := 3) dX12_readAuto_159 (by decide) ?_
          refine r_aload_n dX12_readAuto_160 2 rfl ?_
          refine s_getI ok_X12 dX12_readAuto_161 (k := 22) (by decide) fl_X12_215 rfl rfl ?_
          refine r_iadd dX12_readAuto_164 ?_
          refine r_iconst (v := 0) dX12_readAuto_165 (by decide) ?_
          obtain ⟨qg66, h⟩ := grd_at h
          refine s_iast dX12_readAuto_166 rfl (inb_of qg66) ?_
          refine r_st (fun σ67 eσ67 => ?_)
          replace h := bnd_at h eσ67
          refine r_aload_n dX12_readAuto_167 2 rfl ?_
          refine r_dup dX12_readAuto_168 rfl ?_
          refine s_getI ok_X12 dX12_readAuto_169 (k := 22) (by decide) fl_X12_215 rfl rfl ?_
          refine r_iconst (v := 1) dX12_readAuto_172 (by decide) ?_
          refine r_iadd dX12_readAuto_173 ?_
          refine s_putI ok_X12 dX12_readAuto_174 (k := 22) (by decide) fl_X12_215 rfl rfl rfl rfl rfl ?_
          refine r_st (fun σ68 eσ68 => ?_)
          replace h := bnd_at h eσ68
          refine r_vret rfl dX12_readAuto_177 ?_
          exact lfV h
        · replace h := ifn h qc59
          refine r_vret rfl dX12_readAuto_120 ?_
          exact lfV h
      · replace h := ifn h qc49
        refine r_aload_n dX12_readAuto_51 0 rfl ?_
        refine r_iconst (v := 1) dX12_readAuto_52 (by decide) ?_
        obtain ⟨σ70, qg69, h⟩ := bd_at h
        refine x_callV0 (Y := mX12_flaw) (d' := 2) dX12_readAuto_53 ml_X12_205 yv_X12_flaw (by omega) rfl rfl (by simp [Value.category]) (sR_is rfl rfl) (lc_X12_flaw qg69) ?_
        refine r_iconst (v := 0) dX12_readAuto_56 (by decide) ?_
        refine r_istore_n (lo' := [(1, .int 0), (0, .ref (ad 90))]) dX12_readAuto_57 (by decide) rfl ?_
        refine ab_E.lo [0, 1] rfl (l_X12_readAuto_58 (fun σ71 h => ?_) _ _ _ h)
        refine r_aload_n dX12_readAuto_91 0 rfl ?_
        refine s_getL ok_X12 dX12_readAuto_92 (k := 13) (by decide) fl_X12_170 rfl rfl ?_
        refine r_topl (fun yq72 eyq72 => ?_)
        replace h := bnd_at h eyq72
        refine r_lstore_n (lo' := [(1, .long yq72), (0, .ref (ad 90))]) dX12_readAuto_95 (by decide) rfl ?_
        refine r_aload_n dX12_readAuto_96 1 rfl ?_
        obtain ⟨σ74, qg73, h⟩ := bd_at h
        refine x_callV0 (Y := mX12_goOn) (d' := 3) dX12_readAuto_97 ml_X12_209 yv_X12_goOn (by omega) rfl rfl (by simp [Value.category]) (sR_is rfl rfl) (lc_X12_goOn qg73) ?_
        refine r_aload_n dX12_readAuto_100 1 rfl ?_
        refine s_ldcS dX12_readAuto_101 sm_X12_231 ?_
        obtain ⟨σ76, qg75, h⟩ := bd_at h
        refine x_callV0 (Y := mX12_needs) (d' := 7) dX12_readAuto_103 ml_X12_257 yv_X12_needs (by omega) rfl rfl (by simp [Value.category]) (sR_is rfl rfl) (lc_X12_needs (by decide) qg75) ?_
        refine r_aload_n dX12_readAuto_106 1 rfl ?_
        refine r_iconst (v := 1) dX12_readAuto_107 (by decide) ?_
        refine r_iconst (v := 4) dX12_readAuto_108 (by decide) ?_
        obtain ⟨rq78, σ79, qg77, h⟩ := bd2_at h
        refine x_callV (Y := mX12_readWhole) (d' := 4) dX12_readAuto_109 ml_X12_249 yv_X12_readWhole (by omega) rfl rfl (by simp [Value.category]) (sR_is rfl rfl) (lc_X12_readWhole qg77) ?_
        refine r_istore_n (lo' := [(3, .int rq78), (1, .long yq72), (0, .ref (ad 90))]) dX12_readAuto_112 (by decide) rfl ?_
        refine r_aload_n dX12_readAuto_113 2 rfl ?_
        refine s_getI ok_X12 dX12_readAuto_114 (k := 7) (by decide) fl_X12_140 rfl rfl ?_
        refine r_if_le (t := 121) dX12_readAuto_117 (by decide) (fun qc80 => ?_) (fun qc80 => ?_)
        · replace h := ifp h qc80
          refine r_aload_n dX12_readAuto_121 2 rfl ?_
          refine s_getR (b := 118) ok_X12 dX12_readAuto_122 (k := 18) (by decide) fl_X12_29 rfl rfl rfl ?_
          refine r_aload_n dX12_readAuto_125 2 rfl ?_
          refine s_getI ok_X12 dX12_readAuto_126 (k := 22) (by decide) fl_X12_215 rfl rfl ?_
          refine r_lload_n dX12_readAuto_129 1 rfl ?_
          obtain ⟨qg81, h⟩ := grd_at h
          refine s_last dX12_readAuto_130 rfl (inb_of qg81) ?_
          refine r_st (fun σ82 eσ82 => ?_)
          replace h := bnd_at h eσ82
          refine r_aload_n dX12_readAuto_131 2 rfl ?_
          refine s_getR (b := 114) ok_X12 dX12_readAuto_132 (k := 14) (by decide) fl_X12_17 rfl rfl rfl ?_
          refine r_iconst (v := 3) dX12_readAuto_135 (by decide) ?_
          refine r_aload_n dX12_readAuto_136 2 rfl ?_
          refine s_getI ok_X12 dX12_readAuto_137 (k := 22) (by decide) fl_X12_215 rfl rfl ?_
          refine r_iadd dX12_readAuto_140 ?_
          refine r_iload_n dX12_readAuto_141 0 rfl ?_
          obtain ⟨qg83, h⟩ := grd_at h
          refine s_iast dX12_readAuto_142 rfl (inb_of qg83) ?_
          refine r_st (fun σ84 eσ84 => ?_)
          replace h := bnd_at h eσ84
          refine r_aload_n dX12_readAuto_143 2 rfl ?_
          refine s_getR (b := 115) ok_X12 dX12_readAuto_144 (k := 15) (by decide) fl_X12_20 rfl rfl rfl ?_
          refine r_iconst (v := 3) dX12_readAuto_147 (by decide) ?_
          refine r_aload_n dX12_readAuto_148 2 rfl ?_
          refine s_getI ok_X12 dX12_readAuto_149 (k := 22) (by decide) fl_X12_215 rfl rfl ?_
          refine r_iadd dX12_readAuto_152 ?_
          refine r_iconst (v := 0) dX12_readAuto_153 (by decide) ?_
          obtain ⟨qg85, h⟩ := grd_at h
          refine s_iast dX12_readAuto_154 rfl (inb_of qg85) ?_
          refine r_st (fun σ86 eσ86 => ?_)
          replace h := bnd_at h eσ86
          refine r_aload_n dX12_readAuto_155 2 rfl ?_
          refine s_getR (b := 116) ok_X12 dX12_readAuto_156 (k := 16) (by decide) fl_X12_23 rfl rfl rfl ?_
          refine r_iconst (v := 3) dX12_readAuto_159 (by decide) ?_
          refine r_aload_n dX12_readAuto_160 2 rfl ?_
          refine s_getI ok_X12 dX12_readAuto_161 (k := 22) (by decide) fl_X12_215 rfl rfl ?_
          refine r_iadd dX12_readAuto_164 ?_
          refine r_iconst (v := 0) dX12_readAuto_165 (by decide) ?_
          obtain ⟨qg87, h⟩ := grd_at h
          refine s_iast dX12_readAuto_166 rfl (inb_of qg87) ?_
          refine r_st (fun σ88 eσ88 => ?_)
          replace h := bnd_at h eσ88
          refine r_aload_n dX12_readAuto_167 2 rfl ?_
          refine r_dup dX12_readAuto_168 rfl ?_
          refine s_getI ok_X12 dX12_readAuto_169 (k := 22) (by decide) fl_X12_215 rfl rfl ?_
          refine r_iconst (v := 1) dX12_readAuto_172 (by decide) ?_
          refine r_iadd dX12_readAuto_173 ?_
          refine s_putI ok_X12 dX12_readAuto_174 (k := 22) (by decide) fl_X12_215 rfl rfl rfl rfl rfl ?_
          refine r_st (fun σ89 eσ89 => ?_)
          replace h := bnd_at h eσ89
          refine r_vret rfl dX12_readAuto_177 ?_
          exact lfV h
        · replace h := ifn h qc80
          refine r_vret rfl dX12_readAuto_120 ?_
          exact lfV h
set_option maxRecDepth 8000 in
def L_X12_readAuto_13 (F : Nat)  (σ : sS) : Option sS := if (vI σ 90 21) = 0 then (bd (L_X12_flaw 5 σ) (fun σ4 => L_X12_readAuto_25 F σ4)) else (L_X12_readAuto_25 F σ)
set_option maxRecDepth 8000 in
theorem l_X12_readAuto_13 {ad : Nat → Nat} {F : Nat} {z : sS}  (σ : sS) (h : L_X12_readAuto_13 F σ = some z) : ab_E (sR ad) mX12_readAuto 8 13 [(0, .ref (ad 90))] [] σ (fun r9 σ9 => r9 = none ∧ σ9 = z) := by
  unfold L_X12_readAuto_13 at h
  refine r_aload_n dX12_readAuto_13 0 rfl ?_
  refine s_getI ok_X12 dX12_readAuto_14 (k := 21) (by decide) fl_X12_212 rfl rfl ?_
  refine r_if_ne (t := 25) dX12_readAuto_17 (by decide) (fun qc2 => ?_) (fun qc2 => ?_)
  · replace h := ifn h qc2
    exact ab_E.lo [0] rfl (l_X12_readAuto_25 _ h)
  · replace h := ifp h qc2
    refine r_aload_n dX12_readAuto_20 0 rfl ?_
    refine r_iconst (v := 5) dX12_readAuto_21 (by decide) ?_
    obtain ⟨σ4, qg3, h⟩ := bd_at h
    refine x_callV0 (Y := mX12_flaw) (d' := 2) dX12_readAuto_22 ml_X12_205 yv_X12_flaw (by omega) rfl rfl (by simp [Value.category]) (sR_is rfl rfl) (lc_X12_flaw qg3) ?_
    exact ab_E.lo [0] rfl (l_X12_readAuto_25 _ h)
set_option maxRecDepth 8000 in
def L_X12_readAuto (F : Nat) (σ : sS) : Option sS := if (vI σ 90 22) = 3 then (bd (L_X12_flaw 4 σ) (fun σ3 => L_X12_readAuto_13 F σ3)) else (L_X12_readAuto_13 F σ)
set_option maxRecDepth 8000 in
theorem e_X12_readAuto {ad : Nat → Nat} {F : Nat}  {σ : sS} {z : sS} (h : L_X12_readAuto F σ = some z) : ab_E (sR ad) mX12_readAuto 8 0 [(0, .ref (ad 90))] [] σ (fun r9 σ9 => r9 = none ∧ σ9 = z) := by
  unfold L_X12_readAuto at h
  refine r_aload_n dX12_readAuto_0 0 rfl ?_
  refine s_getI ok_X12 dX12_readAuto_1 (k := 22) (by decide) fl_X12_215 rfl rfl ?_
  refine r_iconst (v := 3) dX12_readAuto_4 (by decide) ?_
  refine r_icmp_ne (t := 13) dX12_readAuto_5 (by decide) (fun qc1 => ?_) (fun qc1 => ?_)
  · replace h := ifn h qc1
    exact ab_E.lo [0] rfl (l_X12_readAuto_13 _ h)
  · replace h := ifp h qc1
    refine r_aload_n dX12_readAuto_8 0 rfl ?_
    refine r_iconst (v := 4) dX12_readAuto_9 (by decide) ?_
    obtain ⟨σ3, qg2, h⟩ := bd_at h
    refine x_callV0 (Y := mX12_flaw) (d' := 2) dX12_readAuto_10 ml_X12_205 yv_X12_flaw (by omega) rfl rfl (by simp [Value.category]) (sR_is rfl rfl) (lc_X12_flaw qg2) ?_
    exact ab_E.lo [0] rfl (l_X12_readAuto_13 _ h)
set_option maxRecDepth 8000 in
theorem lc_X12_readAuto {ad : Nat → Nat} {F : Nat}  {σ τ : sS} (h : L_X12_readAuto F σ = some τ) : ab_X (sR ad) 8 mX12_readAuto [.ref (ad 90)] σ none τ := ab_X.of (by decide) (Nat.le_of_ble_eq_true rfl) (e_X12_readAuto h)
