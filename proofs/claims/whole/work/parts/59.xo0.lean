/-! OddRanks, lifted -/
set_option maxRecDepth 8000 in
noncomputable def L_X11_feed (x1 : Int32) (x2 : Int32) (x3 : Int32) (x4 : Int32) (x5 : Int32) (σ : sS) : Option (Int32 × sS) := if (if 400 < vI σ 1 3 + 20 then (0 : Int32) else 1) = 0 then (some (((-1), σ))) else (bnd (t_ap σ x1) (fun σ2 => bnd (t_ap σ2 x2) (fun σ3 => bnd (t_ap σ3 x3) (fun σ4 => bnd (t_ap σ4 x4) (fun σ5 => bnd (t_ap σ5 x5) (fun σ6 => some ((vI σ6 1 3, σ6))))))))
set_option maxRecDepth 8000 in
theorem e_X11_feed {ad : Nat → Nat} {x1 : Int32} {x2 : Int32} {x3 : Int32} {x4 : Int32} {x5 : Int32} {σ : sS} {z : (Int32 × sS)} (h : L_X11_feed x1 x2 x3 x4 x5 σ = some z) : ab_E (sR ad) mX11_feed 3 0 [(0, .ref (ad 0)), (1, .int x1), (2, .int x2), (3, .int x3), (4, .int x4), (5, .int x5)] [] σ (fun r9 σ9 => r9 = some (.int z.1) ∧ σ9 = z.2) := by
  unfold L_X11_feed at h
  refine r_aload_n dX11_feed_0 0 rfl ?_
  refine s_getR (b := 1) ok_X11 dX11_feed_1 (k := 0) (by decide) fl_X11_10 rfl rfl rfl ?_
  refine x_callV (Y := mX9_hasRoom) (d' := 1) dX11_feed_4 ml_X11_87 yv_X9_hasRoom (by omega) rfl rfl (by simp [Value.category]) (sR_is rfl rfl) (c_X9_hasRoom σ) ?_
  refine r_if_ne (t := 12) dX11_feed_7 (by decide) (fun qc1 => ?_) (fun qc1 => ?_)
  · replace h := ifn h qc1
    refine r_aload_n dX11_feed_12 0 rfl ?_
    refine s_getR (b := 1) ok_X11 dX11_feed_13 (k := 0) (by decide) fl_X11_10 rfl rfl rfl ?_
    refine r_iload_n dX11_feed_16 1 rfl ?_
    refine x_callV0 (Y := mX9_append) (d' := 2) dX11_feed_17 ml_X11_91 yv_X9_append (by omega) rfl rfl (by simp [Value.category]) (sR_is rfl rfl) (c_X9_append σ x1) ?_
    refine r_st (fun σ2 eσ2 => ?_)
    replace h := bnd_at h eσ2
    refine r_aload_n dX11_feed_20 0 rfl ?_
    refine s_getR (b := 1) ok_X11 dX11_feed_21 (k := 0) (by decide) fl_X11_10 rfl rfl rfl ?_
    refine r_iload_n dX11_feed_24 2 rfl ?_
    refine x_callV0 (Y := mX9_append) (d' := 2) dX11_feed_25 ml_X11_91 yv_X9_append (by omega) rfl rfl (by simp [Value.category]) (sR_is rfl rfl) (c_X9_append σ2 x2) ?_
    refine r_st (fun σ3 eσ3 => ?_)
    replace h := bnd_at h eσ3
    refine r_aload_n dX11_feed_28 0 rfl ?_
    refine s_getR (b := 1) ok_X11 dX11_feed_29 (k := 0) (by decide) fl_X11_10 rfl rfl rfl ?_
    refine r_iload_n dX11_feed_32 3 rfl ?_
    refine x_callV0 (Y := mX9_append) (d' := 2) dX11_feed_33 ml_X11_91 yv_X9_append (by omega) rfl rfl (by simp [Value.category]) (sR_is rfl rfl) (c_X9_append σ3 x3) ?_
    refine r_st (fun σ4 eσ4 => ?_)
    replace h := bnd_at h eσ4
    refine r_aload_n dX11_feed_36 0 rfl ?_
    refine s_getR (b := 1) ok_X11 dX11_feed_37 (k := 0) (by decide) fl_X11_10 rfl rfl rfl ?_
    refine r_iload dX11_feed_40 4 rfl ?_
    refine x_callV0 (Y := mX9_append) (d' := 2) dX11_feed_42 ml_X11_91 yv_X9_append (by omega) rfl rfl (by simp [Value.category]) (sR_is rfl rfl) (c_X9_append σ4 x4) ?_
    refine r_st (fun σ5 eσ5 => ?_)
    replace h := bnd_at h eσ5
    refine r_aload_n dX11_feed_45 0 rfl ?_
    refine s_getR (b := 1) ok_X11 dX11_feed_46 (k := 0) (by decide) fl_X11_10 rfl rfl rfl ?_
    refine r_iload dX11_feed_49 5 rfl ?_
    refine x_callV0 (Y := mX9_append) (d' := 2) dX11_feed_51 ml_X11_91 yv_X9_append (by omega) rfl rfl (by simp [Value.category]) (sR_is rfl rfl) (c_X9_append σ5 x5) ?_
    refine r_st (fun σ6 eσ6 => ?_)
    replace h := bnd_at h eσ6
    refine r_aload_n dX11_feed_54 0 rfl ?_
    refine s_getR (b := 1) ok_X11 dX11_feed_55 (k := 0) (by decide) fl_X11_10 rfl rfl rfl ?_
    refine s_getI ok_X9 dX11_feed_58 (k := 3) (by decide) fl_X11_94 rfl rfl ?_
    refine r_iret rfl dX11_feed_61 ?_
    exact lfI h
  · replace h := ifp h qc1
    refine r_iconst (v := (-1)) dX11_feed_10 (by decide) ?_
    refine r_iret rfl dX11_feed_11 ?_
    exact lfI h
set_option maxRecDepth 8000 in
theorem lc_X11_feed {ad : Nat → Nat} {x1 : Int32} {x2 : Int32} {x3 : Int32} {x4 : Int32} {x5 : Int32} {σ τ : sS} {r : Int32} (h : L_X11_feed x1 x2 x3 x4 x5 σ = some (r, τ)) : ab_X (sR ad) 3 mX11_feed [.ref (ad 0), .int x1, .int x2, .int x3, .int x4, .int x5] σ (some (.int r)) τ := ab_X.of (by decide) (Nat.le_of_ble_eq_true rfl) (e_X11_feed h)
set_option maxRecDepth 8000 in
noncomputable def L_X11_answer (x1 : Int32) (σ : sS) : Option (Int32 × sS) := bnd (uI σ 0 10 0) (fun σ1 => some ((x1, σ1)))
set_option maxRecDepth 8000 in
theorem e_X11_answer {ad : Nat → Nat} {x1 : Int32} {σ : sS} {z : (Int32 × sS)} (h : L_X11_answer x1 σ = some z) : ab_E (sR ad) mX11_answer 1 0 [(0, .ref (ad 0)), (1, .int x1)] [] σ (fun r9 σ9 => r9 = some (.int z.1) ∧ σ9 = z.2) := by
  unfold L_X11_answer at h
  refine r_aload_n dX11_answer_0 0 rfl ?_
  refine r_iconst (v := 0) dX11_answer_1 (by decide) ?_
  refine s_putI ok_X11 dX11_answer_2 (k := 10) (by decide) fl_X11_132 rfl rfl rfl rfl rfl ?_
  refine r_st (fun σ1 eσ1 => ?_)
  replace h := bnd_at h eσ1
  refine r_iload_n dX11_answer_5 1 rfl ?_
  refine r_iret rfl dX11_answer_6 ?_
  exact lfI h
set_option maxRecDepth 8000 in
theorem lc_X11_answer {ad : Nat → Nat} {x1 : Int32} {σ τ : sS} {r : Int32} (h : L_X11_answer x1 σ = some (r, τ)) : ab_X (sR ad) 1 mX11_answer [.ref (ad 0), .int x1] σ (some (.int r)) τ := ab_X.of (by decide) (Nat.le_of_ble_eq_true rfl) (e_X11_answer h)
set_option maxRecDepth 8000 in
noncomputable def L_X11_refuse (x1 : Int32) (σ : sS) : Option (Int32 × sS) := bnd (uI σ 0 10 x1) (fun σ1 => some (((-1), σ1)))
set_option maxRecDepth 8000 in
theorem e_X11_refuse {ad : Nat → Nat} {x1 : Int32} {σ : sS} {z : (Int32 × sS)} (h : L_X11_refuse x1 σ = some z) : ab_E (sR ad) mX11_refuse 1 0 [(0, .ref (ad 0)), (1, .int x1)] [] σ (fun r9 σ9 => r9 = some (.int z.1) ∧ σ9 = z.2) := by
  unfold L_X11_refuse at h
  refine r_aload_n dX11_refuse_0 0 rfl ?_
  refine r_iload_n dX11_refuse_1 1 rfl ?_
  refine s_putI ok_X11 dX11_refuse_2 (k := 10) (by decide) fl_X11_132 rfl rfl rfl rfl rfl ?_
  refine r_st (fun σ1 eσ1 => ?_)
  replace h := bnd_at h eσ1
  refine r_iconst (v := (-1)) dX11_refuse_5 (by decide) ?_
  refine r_iret rfl dX11_refuse_6 ?_
  exact lfI h
set_option maxRecDepth 8000 in
theorem lc_X11_refuse {ad : Nat → Nat} {x1 : Int32} {σ τ : sS} {r : Int32} (h : L_X11_refuse x1 σ = some (r, τ)) : ab_X (sR ad) 1 mX11_refuse [.ref (ad 0), .int x1] σ (some (.int r)) τ := ab_X.of (by decide) (Nat.le_of_ble_eq_true rfl) (e_X11_refuse h)
set_option maxRecDepth 8000 in
noncomputable def L_X11_automata_54 (F : Nat) (kx : sS → Option (Int32 × sS)) : Nat → Int32 → sS → Option (Int32 × sS)
  | 0, _, _ => none
  | n + 1, x2, σ => if (vI σ 0 9) ≤ x2 then (kx σ) else (if 3 ≤ x2 then (kx σ) else (grd (inb x2 3) (bnd (27 + x2.toNatClampNeg) (fun ia11 => grd (isAu ia11) (grd (inb x2 3) (bnd (9 + x2.toNatClampNeg) (fun ia14 => grd (isAu ia14) (bnd (a_to σ ia11 ia14) (fun σ16 => grd (inb x2 3) (bnd (33 + x2.toNatClampNeg) (fun ic18 => grd (isCo ic18) (bnd (uI σ16 ic18 6 0) (fun σ20 => L_X11_automata_54 F kx n (x2 + 1) σ20)))))))))))))
set_option maxRecDepth 8000 in
theorem l_X11_automata_54 {ad : Nat → Nat} {F : Nat} {z : (Int32 × sS)} {kx : sS → Option (Int32 × sS)} (hx : ∀  (σ : sS), kx σ = some z → ab_E (sR ad) mX11_automata 11 100 [(0, .ref (ad 0))] [] σ (fun r9 σ9 => r9 = some (.int z.1) ∧ σ9 = z.2)) : ∀ (n : Nat) (x2 : Int32) (σ : sS), L_X11_automata_54 F kx n x2 σ = some z → ab_E (sR ad) mX11_automata 11 54 [(2, .int x2), (0, .ref (ad 0))] [] σ (fun r9 σ9 => r9 = some (.int z.1) ∧ σ9 = z.2) := by
  intro n
  induction n with
  | zero =>
    intro x2 σ h
    rw [L_X11_automata_54] at h
    cases h
  | succ n ih =>
    intro x2 σ h
    rw [L_X11_automata_54] at h
    refine r_iload_n dX11_automata_54 0 rfl ?_
    refine r_aload_n dX11_automata_55 1 rfl ?_
    refine s_getI ok_X11 dX11_automata_56 (k := 9) (by decide) fl_X11_115 rfl rfl ?_
    refine r_icmp_ge (t := 100) dX11_automata_59 (by decide) (fun qc8 => ?_) (fun qc8 => ?_)
    · replace h := ifp h qc8
      exact ab_E.lo [1] rfl (hx _ h)
    · replace h := ifn h qc8
      refine r_iload_n dX11_automata_62 0 rfl ?_
      refine r_iconst (v := 3) dX11_automata_63 (by decide) ?_
      refine r_icmp_ge (t := 100) dX11_automata_64 (by decide) (fun qc9 => ?_) (fun qc9 => ?_)
      · replace h := ifp h qc9
        exact ab_E.lo [1] rfl (hx _ h)
      · replace h := ifn h qc9
        refine r_aload_n dX11_automata_67 1 rfl ?_
        refine s_getR (b := 17) ok_X11 dX11_automata_68 (k := 3) (by decide) fl_X11_34 rfl rfl rfl ?_
        refine r_iload_n dX11_automata_71 0 rfl ?_
        obtain ⟨qg10, h⟩ := grd_at h
        refine s_aald5 (b := 27 + x2.toNatClampNeg) dX11_automata_72 rfl (inb_of qg10) (sr_17 (inb_sp qg10).2) ?_
        refine r_topr (fun ia11 eia11 => ?_)
        replace h := bnd_at h eia11
        obtain ⟨qg12, h⟩ := grd_at h
        refine r_aload_n dX11_automata_73 1 rfl ?_
        refine s_getR (b := 3) ok_X11 dX11_automata_74 (k := 1) (by decide) fl_X11_21 rfl rfl rfl ?_
        refine s_getR (b := 8) ok_X5 dX11_automata_77 (k := 3) (by decide) fl_X11_116 rfl rfl rfl ?_
        refine r_iload_n dX11_automata_80 0 rfl ?_
        obtain ⟨qg13, h⟩ := grd_at h
        refine s_aald5 (b := 9 + x2.toNatClampNeg) dX11_automata_81 rfl (inb_of qg13) (sr_8 (inb_sp qg13).2) ?_
        refine r_topr (fun ia14 eia14 => ?_)
        replace h := bnd_at h eia14
        obtain ⟨qg15, h⟩ := grd_at h
        refine x_callV0 (Y := mX0_takeOver) (d' := 2) dX11_automata_82 ml_X11_119 yv_X0_takeOver (by omega) rfl rfl (by simp [Value.category]) (sR_is (isAu_of qg12) rfl) (c_X0_takeOver σ (isAu_of qg12) (isAu_of qg15)) ?_
        refine r_st (fun σ16 eσ16 => ?_)
        replace h := bnd_at h eσ16
        refine r_aload_n dX11_automata_85 1 rfl ?_
        refine s_getR (b := 18) ok_X11 dX11_automata_86 (k := 4) (by decide) fl_X11_40 rfl rfl rfl ?_
        refine r_iload_n dX11_automata_89 0 rfl ?_
        obtain ⟨qg17, h⟩ := grd_at h
        refine s_aald6 (b := 33 + x2.toNatClampNeg) dX11_automata_90 rfl (inb_of qg17) (sr_18 (inb_sp qg17).2) ?_
        refine r_topr (fun ic18 eic18 => ?_)
        replace h := bnd_at h eic18
        obtain ⟨qg19, h⟩ := grd_at h
        refine x_callV0 (Y := mX1_forget) (d' := 1) dX11_automata_91 ml_X11_123 yv_X1_forget (by omega) rfl rfl (by simp [Value.category]) (sR_is (isCo_of qg19) rfl) (c_X1_forget σ16 (isCo_of qg19)) ?_
        refine r_st (fun σ20 eσ20 => ?_)
        replace h := bnd_at h eσ20
        refine r_iinc (v := x2 + 1) (lo' := [(2, .int (x2 + 1)), (0, .ref (ad 0))]) dX11_automata_94 0 rfl rfl (by decide) rfl ?_
        refine r_goto (t := 54) dX11_automata_97 (by decide) ?_
        exact ab_E.lo [0, 1] rfl (ih _ _ h)
set_option maxRecDepth 8000 in
noncomputable def L_X11_automata (F : Nat) (x1 : Int32) (σ : sS) : Option (Int32 × sS) := if (if x1 < 0 then (0 : Int32) else if vI σ 1 3 < x1 then 0 else 1) = 0 then (bd2 (L_X11_refuse 2 σ) (fun rq16 σ17 => some ((rq16, σ17)))) else (bnd (t_open σ x1) (fun σ2 => bd2 (L_X5_readAutomata F σ2) (fun rq4 σ5 => if rq4 = 0 then (bd2 (L_X11_refuse 4 σ5) (fun rq13 σ14 => some ((rq13, σ14)))) else (bnd (uI σ5 0 9 (vI σ5 3 6)) (fun σ7 => L_X11_automata_54 F (fun σ8 => bd2 (L_X11_answer (vI σ8 0 9) σ8) (fun rq10 σ11 => some ((rq10, σ11)))) F 0 σ7)))))
set_option maxRecDepth 8000 in
theorem e_X11_automata {ad : Nat → Nat} {F : Nat} {x1 : Int32} {σ : sS} {z : (Int32 × sS)} (h : L_X11_automata F x1 σ = some z) : ab_E (sR ad) mX11_automata 11 0 [(0, .ref (ad 0)), (1, .int x1)] [] σ (fun r9 σ9 => r9 = some (.int z.1) ∧ σ9 = z.2) := by
  unfold L_X11_automata at h
  refine r_aload_n dX11_automata_0 0 rfl ?_
  refine s_getR (b := 1) ok_X11 dX11_automata_1 (k := 0) (by decide) fl_X11_10 rfl rfl rfl ?_
  refine r_iload_n dX11_automata_4 1 rfl ?_
  refine x_callV (Y := mX9_holds) (d' := 1) dX11_automata_5 ml_X11_98 yv_X9_holds (by omega) rfl rfl (by simp [Value.category]) (sR_is rfl rfl) (c_X9_holds σ x1) ?_
  refine r_if_ne (t := 17) dX11_automata_8 (by decide) (fun qc1 => ?_) (fun qc1 => ?_)
  · replace h := ifn h qc1
    refine r_aload_n dX11_automata_17 0 rfl ?_
    refine s_getR (b := 1) ok_X11 dX11_automata_18 (k := 0) (by decide) fl_X11_10 rfl rfl rfl ?_
    refine r_iload_n dX11_automata_21 1 rfl ?_
    refine x_callV0 (Y := mX9_open) (d' := 1) dX11_automata_22 ml_X11_106 yv_X9_open (by omega) rfl rfl (by simp [Value.category]) (sR_is rfl rfl) (c_X9_open σ x1) ?_
    refine r_st (fun σ2 eσ2 => ?_)
    replace h := bnd_at h eσ2
    refine r_aload_n dX11_automata_25 0 rfl ?_
    refine s_getR (b := 3) ok_X11 dX11_automata_26 (k := 1) (by decide) fl_X11_21 rfl rfl rfl ?_
    obtain ⟨rq4, σ5, qg3, h⟩ := bd2_at h
    refine x_callV (Y := mX5_readAutomata) (d' := 10) dX11_automata_29 ml_X11_109 yv_X5_readAutomata (by omega) rfl rfl (by simp [Value.category]) (sR_is rfl rfl) (lc_X5_readAutomata qg3) ?_
    refine r_if_ne (t := 41) dX11_automata_32 (by decide) (fun qc6 => ?_) (fun qc6 => ?_)
    · replace h := ifn h qc6
      refine r_aload_n dX11_automata_41 0 rfl ?_
      refine r_aload_n dX11_automata_42 0 rfl ?_
      refine s_getR (b := 3) ok_X11 dX11_automata_43 (k := 1) (by decide) fl_X11_21 rfl rfl rfl ?_
      refine s_getI ok_X5 dX11_automata_46 (k := 6) (by decide) fl_X11_112 rfl rfl ?_
      refine s_putI ok_X11 dX11_automata_49 (k := 9) (by decide) fl_X11_115 rfl rfl rfl rfl rfl ?_
      refine r_st (fun σ7 eσ7 => ?_)
      replace h := bnd_at h eσ7
      refine r_iconst (v := 0) dX11_automata_52 (by decide) ?_
      refine r_istore_n (lo' := [(2, .int 0), (0, .ref (ad 0)), (1, .int x1)]) dX11_automata_53 (by decide) rfl ?_
      refine ab_E.lo [0, 1] rfl (l_X11_automata_54 (fun σ8 h => ?_) _ _ _ h)
      refine r_aload_n dX11_automata_100 0 rfl ?_
      refine r_aload_n dX11_automata_101 0 rfl ?_
      refine s_getI ok_X11 dX11_automata_102 (k := 9) (by decide) fl_X11_115 rfl rfl ?_
      obtain ⟨rq10, σ11, qg9, h⟩ := bd2_at h
      refine x_callV (Y := mX11_answer) (d' := 1) dX11_automata_105 ml_X11_126 yv_X11_answer (by omega) rfl rfl (by simp [Value.category]) (sR_is rfl rfl) (lc_X11_answer qg9) ?_
      refine r_iret rfl dX11_automata_108 ?_
      exact lfI h
    · replace h := ifp h qc6
      refine r_aload_n dX11_automata_35 0 rfl ?_
      refine r_iconst (v := 4) dX11_automata_36 (by decide) ?_
      obtain ⟨rq13, σ14, qg12, h⟩ := bd2_at h
      refine x_callV (Y := mX11_refuse) (d' := 1) dX11_automata_37 ml_X11_102 yv_X11_refuse (by omega) rfl rfl (by simp [Value.category]) (sR_is rfl rfl) (lc_X11_refuse qg12) ?_
      refine r_iret rfl dX11_automata_40 ?_
      exact lfI h
  · replace h := ifp h qc1
    refine r_aload_n dX11_automata_11 0 rfl ?_
    refine r_iconst (v := 2) dX11_automata_12 (by decide) ?_
    obtain ⟨rq16, σ17, qg15, h⟩ := bd2_at h
    refine x_callV (Y := mX11_refuse) (d' := 1) dX11_automata_13 ml_X11_102 yv_X11_refuse (by omega) rfl rfl (by simp [Value.category]) (sR_is rfl rfl) (lc_X11_refuse qg15) ?_
    refine r_iret rfl dX11_automata_16 ?_
    exact lfI h
set_option maxRecDepth 8000 in
theorem lc_X11_automata {ad : Nat → Nat} {F : Nat} {x1 : Int32} {σ τ : sS} {r : Int32} (h : L_X11_automata F x1 σ = some (r, τ)) : ab_X (sR ad) 11 mX11_automata [.ref (ad 0), .int x1] σ (some (.int r)) τ := ab_X.of (by decide) (Nat.le_of_ble_eq_true rfl) (e_X11_automata h)
set_option maxRecDepth 8000 in
noncomputable def L_X11_fault (σ : sS) : Int32 := vI σ 1 7
set_option maxRecDepth 8000 in
theorem e_X11_fault {ad : Nat → Nat}  {σ : sS} {z : Int32} (h : L_X11_fault σ = z) : ab_E (sR ad) mX11_fault 1 0 [(0, .ref (ad 0))] [] σ (fun r9 σ9 => r9 = some (.int z) ∧ σ9 = σ) := by
  unfold L_X11_fault at h
  refine r_aload_n dX11_fault_0 0 rfl ?_
  refine s_getR (b := 1) ok_X11 dX11_fault_1 (k := 0) (by decide) fl_X11_10 rfl rfl rfl ?_
  refine s_getI ok_X9 dX11_fault_4 (k := 7) (by decide) fl_X11_129 rfl rfl ?_
  refine r_iret rfl dX11_fault_7 ?_
  exact lfT h
set_option maxRecDepth 8000 in
theorem lc_X11_fault {ad : Nat → Nat}  (σ : sS) : ab_X (sR ad) 1 mX11_fault [.ref (ad 0)] σ (some (.int (L_X11_fault σ))) σ := ab_X.of (by decide) (Nat.le_of_ble_eq_true rfl) (e_X11_fault rfl)
set_option maxRecDepth 8000 in
noncomputable def L_X11_where (σ : sS) : Int32 := if (vI σ 0 10) = 4 then (vI σ 1 8) else ((-1 : Int32))
set_option maxRecDepth 8000 in
theorem e_X11_where {ad : Nat → Nat}  {σ : sS} {z : Int32} (h : L_X11_where σ = z) : ab_E (sR ad) mX11_where 1 0 [(0, .ref (ad 0))] [] σ (fun r9 σ9 => r9 = some (.int z) ∧ σ9 = σ) := by
  unfold L_X11_where at h
  refine r_aload_n dX11_where_0 0 rfl ?_
  refine s_getI ok_X11 dX11_where_1 (k := 10) (by decide) fl_X11_132 rfl rfl ?_
  refine r_iconst (v := 4) dX11_where_4 (by decide) ?_
  refine r_icmp_ne (t := 18) dX11_where_5 (by decide) (fun qc1 => ?_) (fun qc1 => ?_)
  · replace h := ifn h qc1
    refine r_iconst (v := (-1)) dX11_where_18 (by decide) ?_
    refine r_iret rfl dX11_where_19 ?_
    exact lfT h
  · replace h := ifp h qc1
    refine r_aload_n dX11_where_8 0 rfl ?_
    refine s_getR (b := 1) ok_X11 dX11_where_9 (k := 0) (by decide) fl_X11_10 rfl rfl rfl ?_
    refine s_getI ok_X9 dX11_where_12 (k := 8) (by decide) fl_X11_135 rfl rfl ?_
    refine r_goto (t := 19) dX11_where_15 (by decide) ?_
    refine r_iret rfl dX11_where_19 ?_
    exact lfT h
set_option maxRecDepth 8000 in
theorem lc_X11_where {ad : Nat → Nat}  (σ : sS) : ab_X (sR ad) 1 mX11_where [.ref (ad 0)] σ (some (.int (L_X11_where σ))) σ := ab_X.of (by decide) (Nat.le_of_ble_eq_true rfl) (e_X11_where rfl)
set_option maxRecDepth 8000 in
noncomputable def L_X11_automaton (x1 : Int32) (x2 : Int32) (σ : sS) : Option (Int32 × sS) := if q_at σ x1 = true then (bnd (27 + x1.toNatClampNeg) (fun ia2 => grd (isAu ia2) (if x2 < 0 then (bd2 (L_X11_refuse 1 σ) (fun rq6 σ7 => some ((rq6, σ7)))) else (if x2 ≤ 4 then (if x2 = 0 then (bd2 (L_X11_answer (vI σ ia2 1) σ) (fun rq11 σ12 => some ((rq11, σ12)))) else (if x2 = 1 then (bd2 (L_X11_answer (vI σ ia2 3) σ) (fun rq14 σ15 => some ((rq14, σ15)))) else (if x2 = 2 then (bd2 (L_X11_answer (vI σ ia2 4) σ) (fun rq17 σ18 => some ((rq17, σ18)))) else (if x2 = 3 then (bd2 (L_X11_answer (a_ct σ ia2) σ) (fun rq20 σ21 => some ((rq20, σ21)))) else (bd2 (L_X11_answer (vI σ ia2 2) σ) (fun rq23 σ24 => some ((rq23, σ24)))))))) else (bd2 (L_X11_refuse 1 σ) (fun rq26 σ27 => some ((rq26, σ27)))))))) else (bd2 (L_X11_refuse 1 σ) (fun rq29 σ30 => some ((rq29, σ30))))
set_option maxRecDepth 8000 in
theorem e_X11_automaton {ad : Nat → Nat} {x1 : Int32} {x2 : Int32} {σ : sS} {z : (Int32 × sS)} (h : L_X11_automaton x1 x2 σ = some z) : ab_E (sR ad) mX11_automaton 3 0 [(0, .ref (ad 0)), (1, .int x1), (2, .int x2)] [] σ (fun r9 σ9 => r9 = some (.int z.1) ∧ σ9 = z.2) := by
  unfold L_X11_automaton at h
  refine r_aload_n dX11_automaton_0 0 rfl ?_
  refine r_iload_n dX11_automaton_1 1 rfl ?_
  by_cases qm1 : q_at σ x1 = true
  · replace h := ifp h qm1
    refine x_callV (Y := mX11_machineAt) (d' := 1) dX11_automaton_2 ml_X11_138 yv_X11_machineAt (by omega) rfl rfl (by simp [Value.category]) (sR_is rfl rfl) (c_X11_machineAt σ qm1) ?_
    refine r_topr (fun ia2 eia2 => ?_)
    replace h := bnd_at h eia2
    obtain ⟨qg3, h⟩ := grd_at h
    refine r_astore_n (lo' := [(3, .ref (ad ia2)), (0, .ref (ad 0)), (1, .int x1), (2, .int x2)]) dX11_automaton_5 (by decide) rfl ?_
    refine r_aload_n dX11_automaton_6 0 rfl ?_
    refine r_ifnull dX11_automaton_7 ?_
    refine r_iload_n dX11_automaton_10 3 rfl ?_
    refine r_if_lt (t := 19) dX11_automaton_11 (by decide) (fun qc4 => ?_) (fun qc4 => ?_)
    · replace h := ifp h qc4
      refine r_aload_n dX11_automaton_19 1 rfl ?_
      refine r_iconst (v := 1) dX11_automaton_20 (by decide) ?_
      obtain ⟨rq6, σ7, qg5, h⟩ := bd2_at h
      refine x_callV (Y := mX11_refuse) (d' := 1) dX11_automaton_21 ml_X11_102 yv_X11_refuse (by omega) rfl rfl (by simp [Value.category]) (sR_is rfl rfl) (lc_X11_refuse qg5) ?_
      refine r_iret rfl dX11_automaton_24 ?_
      exact lfI h
    · replace h := ifn h qc4
      refine r_iload_n dX11_automaton_14 3 rfl ?_
      refine r_iconst (v := 4) dX11_automaton_15 (by decide) ?_
      refine r_icmp_le (t := 25) dX11_automaton_16 (by decide) (fun qc8 => ?_) (fun qc8 => ?_)
      · replace h := ifp h qc8
        refine r_iload_n dX11_automaton_25 3 rfl ?_
        by_cases qw9_0 : x2 = 0
        · replace h := ifp h qw9_0
          refine r_tableIn (t := 56) (off := 30) dX11_automaton_26 (by rw [qw9_0]; decide) (by rw [qw9_0]; decide) (by rw [qw9_0]; rfl) (by decide) ?_
          refine r_aload_n dX11_automaton_56 1 rfl ?_
          refine r_aload_n dX11_automaton_57 0 rfl ?_
          refine s_getI ok_X0 dX11_automaton_58 (k := 1) (by decide) fl_X11_142 (isAu_of qg3) rfl ?_
          obtain ⟨rq11, σ12, qg10, h⟩ := bd2_at h
          refine x_callV (Y := mX11_answer) (d' := 1) dX11_automaton_61 ml_X11_126 yv_X11_answer (by omega) rfl rfl (by simp [Value.category]) (sR_is rfl rfl) (lc_X11_answer qg10) ?_
          refine r_iret rfl dX11_automaton_64 ?_
          exact lfI h
        replace h := ifn h qw9_0
        by_cases qw9_1 : x2 = 1
        · replace h := ifp h qw9_1
          refine r_tableIn (t := 65) (off := 39) dX11_automaton_26 (by rw [qw9_1]; decide) (by rw [qw9_1]; decide) (by rw [qw9_1]; rfl) (by decide) ?_
          refine r_aload_n dX11_automaton_65 1 rfl ?_
          refine r_aload_n dX11_automaton_66 0 rfl ?_
          refine s_getI ok_X0 dX11_automaton_67 (k := 3) (by decide) fl_X11_145 (isAu_of qg3) rfl ?_
          obtain ⟨rq14, σ15, qg13, h⟩ := bd2_at h
          refine x_callV (Y := mX11_answer) (d' := 1) dX11_automaton_70 ml_X11_126 yv_X11_answer (by omega) rfl rfl (by simp [Value.category]) (sR_is rfl rfl) (lc_X11_answer qg13) ?_
          refine r_iret rfl dX11_automaton_73 ?_
          exact lfI h
        replace h := ifn h qw9_1
        by_cases qw9_2 : x2 = 2
        · replace h := ifp h qw9_2
          refine r_tableIn (t := 74) (off := 48) dX11_automaton_26 (by rw [qw9_2]; decide) (by rw [qw9_2]; decide) (by rw [qw9_2]; rfl) (by decide) ?_
          refine r_aload_n dX11_automaton_74 1 rfl ?_
          refine r_aload_n dX11_automaton_75 0 rfl ?_
          refine s_getI ok_X0 dX11_automaton_76 (k := 4) (by decide) fl_X11_148 (isAu_of qg3) rfl ?_
          obtain ⟨rq17, σ18, qg16, h⟩ := bd2_at h
          refine x_callV (Y := mX11_answer) (d' := 1) dX11_automaton_79 ml_X11_126 yv_X11_answer (by omega) rfl rfl (by simp [Value.category]) (sR_is rfl rfl) (lc_X11_answer qg16) ?_
          refine r_iret rfl dX11_automaton_82 ?_
          exact lfI h
        replace h := ifn h qw9_2
        by_cases qw9_3 : x2 = 3
        · replace h := ifp h qw9_3
          refine r_tableIn (t := 83) (off := 57) dX11_automaton_26 (by rw [qw9_3]; decide) (by rw [qw9_3]; decide) (by rw [qw9_3]; rfl) (by decide) ?_
          refine r_aload_n dX11_automaton_83 1 rfl ?_
          refine r_aload_n dX11_automaton_84 0 rfl ?_
          refine x_callV (Y := mX0_arrowCount) (d' := 2) dX11_automaton_85 ml_X11_151 yv_X0_arrowCount (by omega) rfl rfl (by simp [Value.category]) (sR_is (isAu_of qg3) rfl) (c_X0_arrowCount σ (isAu_of qg3)) ?_
          obtain ⟨rq20, σ21, qg19, h⟩ := bd2_at h
          refine x_callV (Y := mX11_answer) (d' := 1) dX11_automaton_88 ml_X11_126 yv_X11_answer (by omega) rfl rfl (by simp [Value.category]) (sR_is rfl rfl) (lc_X11_answer qg19) ?_
          refine r_iret rfl dX11_automaton_91 ?_
          exact lfI h
        replace h := ifn h qw9_3
        refine r_tableOut (t := 92) dX11_automaton_26 (tb_o4 qw9_0 qw9_1 qw9_2 qw9_3) (by decide) ?_
        refine r_aload_n dX11_automaton_92 1 rfl ?_
        refine r_aload_n dX11_automaton_93 0 rfl ?_
        refine s_getI ok_X0 dX11_automaton_94 (k := 2) (by decide) fl_X11_155 (isAu_of qg3) rfl ?_
        obtain ⟨rq23, σ24, qg22, h⟩ := bd2_at h
        refine x_callV (Y := mX11_answer) (d' := 1) dX11_automaton_97 ml_X11_126 yv_X11_answer (by omega) rfl rfl (by simp [Value.category]) (sR_is rfl rfl) (lc_X11_answer qg22) ?_
        refine r_iret rfl dX11_automaton_100 ?_
        exact lfI h
      · replace h := ifn h qc8
        refine r_aload_n dX11_automaton_19 1 rfl ?_
        refine r_iconst (v := 1) dX11_automaton_20 (by decide) ?_
        obtain ⟨rq26, σ27, qg25, h⟩ := bd2_at h
        refine x_callV (Y := mX11_refuse) (d' := 1) dX11_automaton_21 ml_X11_102 yv_X11_refuse (by omega) rfl rfl (by simp [Value.category]) (sR_is rfl rfl) (lc_X11_refuse qg25) ?_
        refine r_iret rfl dX11_automaton_24 ?_
        exact lfI h
  · replace h := ifn h qm1
    refine x_callV (Y := mX11_machineAt) (d' := 1) dX11_automaton_2 ml_X11_138 yv_X11_machineAt (by omega) rfl rfl (by simp [Value.category]) (sR_is rfl rfl) (c_X11_machineAtN σ qm1) ?_
    refine r_astore_nN (lo' := [(3, .null), (0, .ref (ad 0)), (1, .int x1), (2, .int x2)]) dX11_automaton_5 (by decide) rfl ?_
    refine r_aload_nN dX11_automaton_6 0 rfl ?_
    refine r_ifnullN (t := 19) dX11_automaton_7 (by decide) ?_
    refine r_aload_n dX11_automaton_19 1 rfl ?_
    refine r_iconst (v := 1) dX11_automaton_20 (by decide) ?_
    obtain ⟨rq29, σ30, qg28, h⟩ := bd2_at h
    refine x_callV (Y := mX11_refuse) (d' := 1) dX11_automaton_21 ml_X11_102 yv_X11_refuse (by omega) rfl rfl (by simp [Value.category]) (sR_is rfl rfl) (lc_X11_refuse qg28) ?_
    refine r_iret rfl dX11_automaton_24 ?_
    exact lfI h
set_option maxRecDepth 8000 in
theorem lc_X11_automaton {ad : Nat → Nat} {x1 : Int32} {x2 : Int32} {σ τ : sS} {r : Int32} (h : L_X11_automaton x1 x2 σ = some (r, τ)) : ab_X (sR ad) 3 mX11_automaton [.ref (ad 0), .int x1, .int x2] σ (some (.int r)) τ := ab_X.of (by decide) (Nat.le_of_ble_eq_true rfl) (e_X11_automaton h)
set_option maxRecDepth 8000 in
noncomputable def L_X11_edge (x1 : Int32) (x2 : Int32) (x3 : Int32) (x4 : Int32) (σ : sS) : Option (Int32 × sS) := if q_at σ x1 = true then (bnd (27 + x1.toNatClampNeg) (fun ia2 => grd (isAu ia2) (if (a_ha σ ia2 x2 x3 x4) = 0 then (bd2 (L_X11_refuse 1 σ) (fun rq13 σ14 => some ((rq13, σ14)))) else (if (a_jn σ ia2 x2 x3 x4) = 0 then (bd2 (L_X11_answer 0 σ) (fun rq7 σ8 => some ((rq7, σ8)))) else (bd2 (L_X11_answer 1 σ) (fun rq10 σ11 => some ((rq10, σ11)))))))) else (bd2 (L_X11_refuse 1 σ) (fun rq16 σ17 => some ((rq16, σ17))))
set_option maxRecDepth 8000 in
theorem e_X11_edge {ad : Nat → Nat} {x1 : Int32} {x2 : Int32} {x3 : Int32} {x4 : Int32} {σ : sS} {z : (Int32 × sS)} (h : L_X11_edge x1 x2 x3 x4 σ = some z) : ab_E (sR ad) mX11_edge 4 0 [(0, .ref (ad 0)), (1, .int x1), (2, .int x2), (3, .int x3), (4, .int x4)] [] σ (fun r9 σ9 => r9 = some (.int z.1) ∧ σ9 = z.2) := by
  unfold L_X11_edge at h
  refine r_aload_n dX11_edge_0 0 rfl ?_
  refine r_iload_n dX11_edge_1 1 rfl ?_
  by_cases qm1 : q_at σ x1 = true
  · replace h := ifp h qm1
    refine x_callV (Y := mX11_machineAt) (d' := 1) dX11_edge_2 ml_X11_138 yv_X11_machineAt (by omega) rfl rfl (by simp [Value.category]) (sR_is rfl rfl) (c_X11_machineAt σ qm1) ?_
    refine r_topr (fun ia2 eia2 => ?_)
    replace h := bnd_at h eia2
    obtain ⟨qg3, h⟩ := grd_at h
    refine r_astore (lo' := [(5, .ref (ad ia2)), (0, .ref (ad 0)), (1, .int x1), (2, .int x2), (3, .int x3), (4, .int x4)]) dX11_edge_5 (by decide) rfl ?_
    refine r_aload dX11_edge_7 0 rfl ?_
    refine r_ifnull dX11_edge_9 ?_
    refine r_aload dX11_edge_12 0 rfl ?_
    refine r_iload_n dX11_edge_14 3 rfl ?_
    refine r_iload_n dX11_edge_15 4 rfl ?_
    refine r_iload dX11_edge_16 5 rfl ?_
    refine x_callV (Y := mX0_hasArrow) (d' := 2) dX11_edge_18 ml_X11_158 yv_X0_hasArrow (by omega) rfl rfl (by simp [Value.category]) (sR_is (isAu_of qg3) rfl) (c_X0_hasArrow σ (isAu_of qg3) x2 x3 x4) ?_
    refine r_if_ne (t := 30) dX11_edge_21 (by decide) (fun qc4 => ?_) (fun qc4 => ?_)
    · replace h := ifn h qc4
      refine r_aload_n dX11_edge_30 1 rfl ?_
      refine r_aload dX11_edge_31 0 rfl ?_
      refine r_iload_n dX11_edge_33 3 rfl ?_
      refine r_iload_n dX11_edge_34 4 rfl ?_
      refine r_iload dX11_edge_35 5 rfl ?_
      refine x_callV (Y := mX0_joins) (d' := 3) dX11_edge_37 ml_X11_162 yv_X0_joins (by omega) rfl rfl (by simp [Value.category]) (sR_is (isAu_of qg3) rfl) (c_X0_joins σ (isAu_of qg3) x2 x3 x4) ?_
      refine r_if_eq (t := 47) dX11_edge_40 (by decide) (fun qc5 => ?_) (fun qc5 => ?_)
      · replace h := ifp h qc5
        refine r_iconst (v := 0) dX11_edge_47 (by decide) ?_
        obtain ⟨rq7, σ8, qg6, h⟩ := bd2_at h
        refine x_callV (Y := mX11_answer) (d' := 1) dX11_edge_48 ml_X11_126 yv_X11_answer (by omega) rfl rfl (by simp [Value.category]) (sR_is rfl rfl) (lc_X11_answer qg6) ?_
        refine r_iret rfl dX11_edge_51 ?_
        exact lfI h
      · replace h := ifn h qc5
        refine r_iconst (v := 1) dX11_edge_43 (by decide) ?_
        refine r_goto (t := 48) dX11_edge_44 (by decide) ?_
        obtain ⟨rq10, σ11, qg9, h⟩ := bd2_at h
        refine x_callV (Y := mX11_answer) (d' := 1) dX11_edge_48 ml_X11_126 yv_X11_answer (by omega) rfl rfl (by simp [Value.category]) (sR_is rfl rfl) (lc_X11_answer qg9) ?_
        refine r_iret rfl dX11_edge_51 ?_
        exact lfI h
    · replace h := ifp h qc4
      refine r_aload_n dX11_edge_24 1 rfl ?_
      refine r_iconst (v := 1) dX11_edge_25 (by decide) ?_
      obtain ⟨rq13, σ14, qg12, h⟩ := bd2_at h
      refine x_callV (Y := mX11_refuse) (d' := 1) dX11_edge_26 ml_X11_102 yv_X11_refuse (by omega) rfl rfl (by simp [Value.category]) (sR_is rfl rfl) (lc_X11_refuse qg12) ?_
      refine r_iret rfl dX11_edge_29 ?_
      exact lfI h
  · replace h := ifn h qm1
    refine x_callV (Y := mX11_machineAt) (d' := 1) dX11_edge_2 ml_X11_138 yv_X11_machineAt (by omega) rfl rfl (by simp [Value.category]) (sR_is rfl rfl) (c_X11_machineAtN σ qm1) ?_
    refine r_astoreN (lo' := [(5, .null), (0, .ref (ad 0)), (1, .int x1), (2, .int x2), (3, .int x3), (4, .int x4)]) dX11_edge_5 (by decide) rfl ?_
    refine r_aloadN dX11_edge_7 0 rfl ?_
    refine r_ifnullN (t := 24) dX11_edge_9 (by decide) ?_
    refine r_aload_n dX11_edge_24 1 rfl ?_
    refine r_iconst (v := 1) dX11_edge_25 (by decide) ?_
    obtain ⟨rq16, σ17, qg15, h⟩ := bd2_at h
    refine x_callV (Y := mX11_refuse) (d' := 1) dX11_edge_26 ml_X11_102 yv_X11_refuse (by omega) rfl rfl (by simp [Value.category]) (sR_is rfl rfl) (lc_X11_refuse qg15) ?_
    refine r_iret rfl dX11_edge_29 ?_
    exact lfI h
set_option maxRecDepth 8000 in
theorem lc_X11_edge {ad : Nat → Nat} {x1 : Int32} {x2 : Int32} {x3 : Int32} {x4 : Int32} {σ τ : sS} {r : Int32} (h : L_X11_edge x1 x2 x3 x4 σ = some (r, τ)) : ab_X (sR ad) 4 mX11_edge [.ref (ad 0), .int x1, .int x2, .int x3, .int x4] σ (some (.int r)) τ := ab_X.of (by decide) (Nat.le_of_ble_eq_true rfl) (e_X11_edge h)
set_option maxRecDepth 8000 in
noncomputable def L_X11_after (x1 : Int32) (x2 : Int32) (x3 : Int32) (σ : sS) : Option (Int32 × sS) := if q_at σ x1 = true then (bnd (27 + x1.toNatClampNeg) (fun ia2 => grd (isAu ia2) (if (a_hg σ ia2 x3) = 0 then (bd2 (L_X11_refuse 1 σ) (fun rq15 σ16 => some ((rq15, σ16)))) else (if (a_ht σ ia2 x2) = 0 then (bd2 (L_X11_refuse 2 σ) (fun rq12 σ13 => some ((rq12, σ13)))) else (bd (L_X0_reach ia2 x2 x3 σ) (fun rq7 => bd2 (L_X11_answer rq7 σ) (fun rq9 σ10 => some ((rq9, σ10))))))))) else (bd2 (L_X11_refuse 1 σ) (fun rq18 σ19 => some ((rq18, σ19))))
set_option maxRecDepth 8000 in
theorem e_X11_after {ad : Nat → Nat} {x1 : Int32} {x2 : Int32} {x3 : Int32} {σ : sS} {z : (Int32 × sS)} (h : L_X11_after x1 x2 x3 σ = some z) : ab_E (sR ad) mX11_after 4 0 [(0, .ref (ad 0)), (1, .int x1), (2, .int x2), (3, .int x3)] [] σ (fun r9 σ9 => r9 = some (.int z.1) ∧ σ9 = z.2) := by
  unfold L_X11_after at h
  refine r_aload_n dX11_after_0 0 rfl ?_
  refine r_iload_n dX11_after_1 1 rfl ?_
  by_cases qm1 : q_at σ x1 = true
  · replace h := ifp h qm1
    refine x_callV (Y := mX11_machineAt) (d' := 1) dX11_after_2 ml_X11_138 yv_X11_machineAt (by omega) rfl rfl (by simp [Value.category]) (sR_is rfl rfl) (c_X11_machineAt σ qm1) ?_
    refine r_topr (fun ia2 eia2 => ?_)
    replace h := bnd_at h eia2
    obtain ⟨qg3, h⟩ := grd_at h
    refine r_astore (lo' := [(4, .ref (ad ia2)), (0, .ref (ad 0)), (1, .int x1), (2, .int x2), (3, .int x3)]) dX11_after_5 (by decide) rfl ?_
    refine r_aload dX11_after_7 0 rfl ?_
    refine r_ifnull dX11_after_9 ?_
    refine r_aload dX11_after_12 0 rfl ?_
    refine r_iload_n dX11_after_14 4 rfl ?_
    refine x_callV (Y := mX0_hasSign) (d' := 1) dX11_after_15 ml_X11_165 yv_X0_hasSign (by omega) rfl rfl (by simp [Value.category]) (sR_is (isAu_of qg3) rfl) (c_X0_hasSign σ (isAu_of qg3) x3) ?_
    refine r_if_ne (t := 27) dX11_after_18 (by decide) (fun qc4 => ?_) (fun qc4 => ?_)
    · replace h := ifn h qc4
      refine r_aload dX11_after_27 0 rfl ?_
      refine r_iload_n dX11_after_29 3 rfl ?_
      refine x_callV (Y := mX0_hasSet) (d' := 1) dX11_after_30 ml_X11_168 yv_X0_hasSet (by omega) rfl rfl (by simp [Value.category]) (sR_is (isAu_of qg3) rfl) (c_X0_hasSet σ (isAu_of qg3) x2) ?_
      refine r_if_ne (t := 42) dX11_after_33 (by decide) (fun qc5 => ?_) (fun qc5 => ?_)
      · replace h := ifn h qc5
        refine r_aload_n dX11_after_42 1 rfl ?_
        refine r_aload dX11_after_43 0 rfl ?_
        refine r_iload_n dX11_after_45 3 rfl ?_
        refine r_iload_n dX11_after_46 4 rfl ?_
        obtain ⟨rq7, qg6, h⟩ := bd_at h
        refine x_callV (Y := mX0_reach) (d' := 3) dX11_after_47 ml_X11_171 yv_X0_reach (by omega) rfl rfl (by simp [Value.category]) (sR_is (isAu_of qg3) rfl) (lc_X0_reach (isAu_of qg3) qg6) ?_
        obtain ⟨rq9, σ10, qg8, h⟩ := bd2_at h
        refine x_callV (Y := mX11_answer) (d' := 1) dX11_after_50 ml_X11_126 yv_X11_answer (by omega) rfl rfl (by simp [Value.category]) (sR_is rfl rfl) (lc_X11_answer qg8) ?_
        refine r_iret rfl dX11_after_53 ?_
        exact lfI h
      · replace h := ifp h qc5
        refine r_aload_n dX11_after_36 1 rfl ?_
        refine r_iconst (v := 2) dX11_after_37 (by decide) ?_
        obtain ⟨rq12, σ13, qg11, h⟩ := bd2_at h
        refine x_callV (Y := mX11_refuse) (d' := 1) dX11_after_38 ml_X11_102 yv_X11_refuse (by omega) rfl rfl (by simp [Value.category]) (sR_is rfl rfl) (lc_X11_refuse qg11) ?_
        refine r_iret rfl dX11_after_41 ?_
        exact lfI h
    · replace h := ifp h qc4
      refine r_aload_n dX11_after_21 1 rfl ?_
      refine r_iconst (v := 1) dX11_after_22 (by decide) ?_
      obtain ⟨rq15, σ16, qg14, h⟩ := bd2_at h
      refine x_callV (Y := mX11_refuse) (d' := 1) dX11_after_23 ml_X11_102 yv_X11_refuse (by omega) rfl rfl (by simp [Value.category]) (sR_is rfl rfl) (lc_X11_refuse qg14) ?_
      refine r_iret rfl dX11_after_26 ?_
      exact lfI h
  · replace h := ifn h qm1
    refine x_callV (Y := mX11_machineAt) (d' := 1) dX11_after_2 ml_X11_138 yv_X11_machineAt (by omega) rfl rfl (by simp [Value.category]) (sR_is rfl rfl) (c_X11_machineAtN σ qm1) ?_
    refine r_astoreN (lo' := [(4, .null), (0, .ref (ad 0)), (1, .int x1), (2, .int x2), (3, .int x3)]) dX11_after_5 (by decide) rfl ?_
    refine r_aloadN dX11_after_7 0 rfl ?_
    refine r_ifnullN (t := 21) dX11_after_9 (by decide) ?_
    refine r_aload_n dX11_after_21 1 rfl ?_
    refine r_iconst (v := 1) dX11_after_22 (by decide) ?_
    obtain ⟨rq18, σ19, qg17, h⟩ := bd2_at h
    refine x_callV (Y := mX11_refuse) (d' := 1) dX11_after_23 ml_X11_102 yv_X11_refuse (by omega) rfl rfl (by simp [Value.category]) (sR_is rfl rfl) (lc_X11_refuse qg17) ?_
    refine r_iret rfl dX11_after_26 ?_
    exact lfI h
set_option maxRecDepth 8000 in
theorem lc_X11_after {ad : Nat → Nat} {x1 : Int32} {x2 : Int32} {x3 : Int32} {σ τ : sS} {r : Int32} (h : L_X11_after x1 x2 x3 σ = some (r, τ)) : ab_X (sR ad) 4 mX11_after [.ref (ad 0), .int x1, .int x2, .int x3] σ (some (.int r)) τ := ab_X.of (by decide) (Nat.le_of_ble_eq_true rfl) (e_X11_after h)
set_option maxRecDepth 8000 in
noncomputable def L_X11_bound (x1 : Int32) (x2 : Int32) (σ : sS) : Option (Int32 × sS) := if q_at σ x1 = true then (bnd (27 + x1.toNatClampNeg) (fun ia2 => grd (isAu ia2) (if (a_ht σ ia2 x2) = 0 then (bd2 (L_X11_refuse 2 σ) (fun rq14 σ15 => some ((rq14, σ15)))) else (bnd (k_gt x2 (vI σ ia2 4)) (fun yq5 => if yq5 ≤ 0 then (bd2 (L_X11_answer (-2) σ) (fun rq8 σ9 => some ((rq8, σ9)))) else (bd2 (L_X11_answer yq5 σ) (fun rq11 σ12 => some ((rq11, σ12))))))))) else (bd2 (L_X11_refuse 1 σ) (fun rq17 σ18 => some ((rq17, σ18))))
set_option maxRecDepth 8000 in
theorem e_X11_bound {ad : Nat → Nat} {x1 : Int32} {x2 : Int32} {σ : sS} {z : (Int32 × sS)} (h : L_X11_bound x1 x2 σ = some z) : ab_E (sR ad) mX11_bound 3 0 [(0, .ref (ad 0)), (1, .int x1), (2, .int x2)] [] σ (fun r9 σ9 => r9 = some (.int z.1) ∧ σ9 = z.2) := by
  unfold L_X11_bound at h
  refine r_aload_n dX11_bound_0 0 rfl ?_
  refine r_iload_n dX11_bound_1 1 rfl ?_
  by_cases qm1 : q_at σ x1 = true
  · replace h := ifp h qm1
    refine x_callV (Y := mX11_machineAt) (d' := 1) dX11_bound_2 ml_X11_138 yv_X11_machineAt (by omega) rfl rfl (by simp [Value.category]) (sR_is rfl rfl) (c_X11_machineAt σ qm1) ?_
    refine r_topr (fun ia2 eia2 => ?_)
    replace h := bnd_at h eia2
    obtain ⟨qg3, h⟩ := grd_at h
    refine r_astore_n (lo' := [(3, .ref (ad ia2)), (0, .ref (ad 0)), (1, .int x1), (2, .int x2)]) dX11_bound_5 (by decide) rfl ?_
    refine r_aload_n dX11_bound_6 0 rfl ?_
    refine r_ifnonnull (t := 16) dX11_bound_7 (by decide) ?_
    refine r_aload_n dX11_bound_16 0 rfl ?_
    refine r_iload_n dX11_bound_17 3 rfl ?_
    refine x_callV (Y := mX0_hasSet) (d' := 1) dX11_bound_18 ml_X11_168 yv_X0_hasSet (by omega) rfl rfl (by simp [Value.category]) (sR_is (isAu_of qg3) rfl) (c_X0_hasSet σ (isAu_of qg3) x2) ?_
    refine r_if_ne (t := 30) dX11_bound_21 (by decide) (fun qc4 => ?_) (fun qc4 => ?_)
    · replace h := ifn h qc4
      refine r_iload_n dX11_bound_30 3 rfl ?_
      refine r_aload_n dX11_bound_31 0 rfl ?_
      refine s_getI ok_X0 dX11_bound_32 (k := 4) (by decide) fl_X11_148 (isAu_of qg3) rfl ?_
      refine x_callS (Y := mX4_greatestTight) (d' := 2) dX11_bound_35 ml_X11_175 ys_X4_greatestTight (by omega) rfl rfl (by simp [Value.category]) (c_X4_greatestTight σ x2 (vI σ ia2 4)) ?_
      refine r_topi (fun yq5 eyq5 => ?_)
      replace h := bnd_at h eyq5
      refine r_istore (lo' := [(4, .int yq5), (3, .ref (ad ia2)), (0, .ref (ad 0)), (1, .int x1), (2, .int x2)]) dX11_bound_38 (by decide) rfl ?_
      refine r_aload_n dX11_bound_40 2 rfl ?_
      refine r_iload dX11_bound_41 0 rfl ?_
      refine r_if_le (t := 51) dX11_bound_43 (by decide) (fun qc6 => ?_) (fun qc6 => ?_)
      · replace h := ifp h qc6
        refine r_bipush (v := (-2)) dX11_bound_51 (by decide) ?_
        obtain ⟨rq8, σ9, qg7, h⟩ := bd2_at h
        refine x_callV (Y := mX11_answer) (d' := 1) dX11_bound_53 ml_X11_126 yv_X11_answer (by omega) rfl rfl (by simp [Value.category]) (sR_is rfl rfl) (lc_X11_answer qg7) ?_
        refine r_iret rfl dX11_bound_56 ?_
        exact lfI h
      · replace h := ifn h qc6
        refine r_iload dX11_bound_46 0 rfl ?_
        refine r_goto (t := 53) dX11_bound_48 (by decide) ?_
        obtain ⟨rq11, σ12, qg10, h⟩ := bd2_at h
        refine x_callV (Y := mX11_answer) (d' := 1) dX11_bound_53 ml_X11_126 yv_X11_answer (by omega) rfl rfl (by simp [Value.category]) (sR_is rfl rfl) (lc_X11_answer qg10) ?_
        refine r_iret rfl dX11_bound_56 ?_
        exact lfI h
    · replace h := ifp h qc4
      refine r_aload_n dX11_bound_24 1 rfl ?_
      refine r_iconst (v := 2) dX11_bound_25 (by decide) ?_
      obtain ⟨rq14, σ15, qg13, h⟩ := bd2_at h
      refine x_callV (Y := mX11_refuse) (d' := 1) dX11_bound_26 ml_X11_102 yv_X11_refuse (by omega) rfl rfl (by simp [Value.category]) (sR_is rfl rfl) (lc_X11_refuse qg13) ?_
      refine r_iret rfl dX11_bound_29 ?_
      exact lfI h
  · replace h := ifn h qm1
    refine x_callV (Y := mX11_machineAt) (d' := 1) dX11_bound_2 ml_X11_138 yv_X11_machineAt (by omega) rfl rfl (by simp [Value.category]) (sR_is rfl rfl) (c_X11_machineAtN σ qm1) ?_
    refine r_astore_nN (lo' := [(3, .null), (0, .ref (ad 0)), (1, .int x1), (2, .int x2)]) dX11_bound_5 (by decide) rfl ?_
    refine r_aload_nN dX11_bound_6 0 rfl ?_
    refine r_ifnonnullN dX11_bound_7 ?_
    refine r_aload_n dX11_bound_10 1 rfl ?_
    refine r_iconst (v := 1) dX11_bound_11 (by decide) ?_
    obtain ⟨rq17, σ18, qg16, h⟩ := bd2_at h
    refine x_callV (Y := mX11_refuse) (d' := 1) dX11_bound_12 ml_X11_102 yv_X11_refuse (by omega) rfl rfl (by simp [Value.category]) (sR_is rfl rfl) (lc_X11_refuse qg16) ?_
    refine r_iret rfl dX11_bound_15 ?_
    exact lfI h
set_option maxRecDepth 8000 in
theorem lc_X11_bound {ad : Nat → Nat} {x1 : Int32} {x2 : Int32} {σ τ : sS} {r : Int32} (h : L_X11_bound x1 x2 σ = some (r, τ)) : ab_X (sR ad) 3 mX11_bound [.ref (ad 0), .int x1, .int x2] σ (some (.int r)) τ := ab_X.of (by decide) (Nat.le_of_ble_eq_true rfl) (e_X11_bound h)
set_option maxRecDepth 8000 in
noncomputable def L_X11_isGreatest (x0 : Int32) : Int32 := if x0 < 1 then ((0 : Int32)) else (if 7 < x0 then ((0 : Int32)) else (if (x0 &&& 1) = 1 then ((1 : Int32)) else ((0 : Int32))))
set_option maxRecDepth 8000 in
theorem e_X11_isGreatest {ad : Nat → Nat} {x0 : Int32} {σ : sS} {z : Int32} (h : L_X11_isGreatest x0 = z) : ab_E (sR ad) mX11_isGreatest 1 0 [(0, .int x0)] [] σ (fun r9 σ9 => r9 = some (.int z) ∧ σ9 = σ) := by
  unfold L_X11_isGreatest at h
  refine r_iload_n dX11_isGreatest_0 0 rfl ?_
  refine r_iconst (v := 1) dX11_isGreatest_1 (by decide) ?_
  refine r_icmp_lt (t := 22) dX11_isGreatest_2 (by decide) (fun qc1 => ?_) (fun qc1 => ?_)
  · replace h := ifp h qc1
    refine r_iconst (v := 0) dX11_isGreatest_22 (by decide) ?_
    refine r_zret rfl (by decide) dX11_isGreatest_23 ?_
    exact lfT h
  · replace h := ifn h qc1
    refine r_iload_n dX11_isGreatest_5 0 rfl ?_
    refine r_bipush (v := 7) dX11_isGreatest_6 (by decide) ?_
    refine r_icmp_gt (t := 22) dX11_isGreatest_8 (by decide) (fun qc2 => ?_) (fun qc2 => ?_)
    · replace h := ifp h qc2
      refine r_iconst (v := 0) dX11_isGreatest_22 (by decide) ?_
      refine r_zret rfl (by decide) dX11_isGreatest_23 ?_
      exact lfT h
    · replace h := ifn h qc2
      refine r_iload_n dX11_isGreatest_11 0 rfl ?_
      refine r_iconst (v := 1) dX11_isGreatest_12 (by decide) ?_
      refine r_iand dX11_isGreatest_13 ?_
      refine r_iconst (v := 1) dX11_isGreatest_14 (by decide) ?_
      refine r_icmp_ne (t := 22) dX11_isGreatest_15 (by decide) (fun qc3 => ?_) (fun qc3 => ?_)
      · replace h := ifn h qc3
        refine r_iconst (v := 0) dX11_isGreatest_22 (by decide) ?_
        refine r_zret rfl (by decide) dX11_isGreatest_23 ?_
        exact lfT h
      · replace h := ifp h qc3
        refine r_iconst (v := 1) dX11_isGreatest_18 (by decide) ?_
        refine r_goto (t := 23) dX11_isGreatest_19 (by decide) ?_
        refine r_zret rfl (by decide) dX11_isGreatest_23 ?_
        exact lfT h
set_option maxRecDepth 8000 in
theorem lc_X11_isGreatest {ad : Nat → Nat} (x0 : Int32) (σ : sS) : ab_X (sR ad) 1 mX11_isGreatest [.int x0] σ (some (.int (L_X11_isGreatest x0))) σ := ab_X.of (by decide) (Nat.le_of_ble_eq_true rfl) (e_X11_isGreatest rfl)
set_option maxRecDepth 8000 in
noncomputable def L_X11_rankings (x1 : Int32) (x2 : Int32) (x3 : Int32) (σ : sS) : Option (Int32 × sS) := if q_at σ x1 = true then (bnd (27 + x1.toNatClampNeg) (fun ia2 => grd (isAu ia2) (if (a_ht σ ia2 x2) = 0 then (bd2 (L_X11_refuse 2 σ) (fun rq6 σ7 => some ((rq6, σ7)))) else (if (L_X11_isGreatest x3) = 0 then (bd2 (L_X11_refuse 2 σ) (fun rq14 σ15 => some ((rq14, σ15)))) else (bnd (k_fu σ x2 (vI σ ia2 4) x3 (k_lv x3)) (fun σ9 => bd2 (L_X11_answer (vI σ9 15 1) σ9) (fun rq11 σ12 => some ((rq11, σ12))))))))) else (bd2 (L_X11_refuse 1 σ) (fun rq17 σ18 => some ((rq17, σ18))))
set_option maxRecDepth 8000 in
theorem e_X11_rankings {ad : Nat → Nat} {x1 : Int32} {x2 : Int32} {x3 : Int32} {σ : sS} {z : (Int32 × sS)} (h : L_X11_rankings x1 x2 x3 σ = some z) : ab_E (sR ad) mX11_rankings 8 0 [(0, .ref (ad 0)), (1, .int x1), (2, .int x2), (3, .int x3)] [] σ (fun r9 σ9 => r9 = some (.int z.1) ∧ σ9 = z.2) := by
  unfold L_X11_rankings at h
  refine r_aload_n dX11_rankings_0 0 rfl ?_
  refine r_iload_n dX11_rankings_1 1 rfl ?_
  by_cases qm1 : q_at σ x1 = true
  · replace h := ifp h qm1
    refine x_callV (Y := mX11_machineAt) (d' := 1) dX11_rankings_2 ml_X11_138 yv_X11_machineAt (by omega) rfl rfl (by simp [Value.category]) (sR_is rfl rfl) (c_X11_machineAt σ qm1) ?_
    refine r_topr (fun ia2 eia2 => ?_)
    replace h := bnd_at h eia2
    obtain ⟨qg3, h⟩ := grd_at h
    refine r_astore (lo' := [(4, .ref (ad ia2)), (0, .ref (ad 0)), (1, .int x1), (2, .int x2), (3, .int x3)]) dX11_rankings_5 (by decide) rfl ?_
    refine r_aload dX11_rankings_7 0 rfl ?_
    refine r_ifnonnull (t := 18) dX11_rankings_9 (by decide) ?_
    refine r_aload dX11_rankings_18 0 rfl ?_
    refine r_iload_n dX11_rankings_20 3 rfl ?_
    refine x_callV (Y := mX0_hasSet) (d' := 1) dX11_rankings_21 ml_X11_168 yv_X0_hasSet (by omega) rfl rfl (by simp [Value.category]) (sR_is (isAu_of qg3) rfl) (c_X0_hasSet σ (isAu_of qg3) x2) ?_
    refine r_if_eq (t := 34) dX11_rankings_24 (by decide) (fun qc4 => ?_) (fun qc4 => ?_)
    · replace h := ifp h qc4
      refine r_aload_n dX11_rankings_34 1 rfl ?_
      refine r_iconst (v := 2) dX11_rankings_35 (by decide) ?_
      obtain ⟨rq6, σ7, qg5, h⟩ := bd2_at h
      refine x_callV (Y := mX11_refuse) (d' := 1) dX11_rankings_36 ml_X11_102 yv_X11_refuse (by omega) rfl rfl (by simp [Value.category]) (sR_is rfl rfl) (lc_X11_refuse qg5) ?_
      refine r_iret rfl dX11_rankings_39 ?_
      exact lfI h
    · replace h := ifn h qc4
      refine r_iload_n dX11_rankings_27 4 rfl ?_
      refine x_callS (Y := mX11_isGreatest) (d' := 1) dX11_rankings_28 ml_X11_178 ys_X11_isGreatest (by omega) rfl rfl (by simp [Value.category]) (lc_X11_isGreatest x3 σ) ?_
      refine r_if_ne (t := 40) dX11_rankings_31 (by decide) (fun qc8 => ?_) (fun qc8 => ?_)
      · replace h := ifn h qc8
        refine r_aload_n dX11_rankings_40 1 rfl ?_
        refine s_getR (b := 15) ok_X11 dX11_rankings_41 (k := 2) (by decide) fl_X11_28 rfl rfl rfl ?_
        refine r_iload_n dX11_rankings_44 3 rfl ?_
        refine r_aload dX11_rankings_45 0 rfl ?_
        refine s_getI ok_X0 dX11_rankings_47 (k := 4) (by decide) fl_X11_148 (isAu_of qg3) rfl ?_
        refine r_iload_n dX11_rankings_50 4 rfl ?_
        refine r_iload_n dX11_rankings_51 4 rfl ?_
        refine x_callS (Y := mX4_level) (d' := 2) dX11_rankings_52 ml_X11_181 ys_X4_level (by omega) rfl rfl (by simp [Value.category]) (c_X4_level σ x3) ?_
        refine x_callV0 (Y := mX4_findUnder) (d' := 7) dX11_rankings_55 ml_X11_184 yv_X4_findUnder (by omega) rfl rfl (by simp [Value.category]) (sR_is rfl rfl) (c_X4_findUnder σ x2 (vI σ ia2 4) x3 (k_lv x3)) ?_
        refine r_st (fun σ9 eσ9 => ?_)
        replace h := bnd_at h eσ9
        refine r_aload_n dX11_rankings_58 1 rfl ?_
        refine r_aload_n dX11_rankings_59 1 rfl ?_
        refine s_getR (b := 15) ok_X11 dX11_rankings_60 (k := 2) (by decide) fl_X11_28 rfl rfl rfl ?_
        refine s_getI ok_X4 dX11_rankings_63 (k := 1) (by decide) fl_X11_188 rfl rfl ?_
        obtain ⟨rq11, σ12, qg10, h⟩ := bd2_at h
        refine x_callV (Y := mX11_answer) (d' := 1) dX11_rankings_66 ml_X11_126 yv_X11_answer (by omega) rfl rfl (by simp [Value.category]) (sR_is rfl rfl) (lc_X11_answer qg10) ?_
        refine r_iret rfl dX11_rankings_69 ?_
        exact lfI h
      · replace h := ifp h qc8
        refine r_aload_n dX11_rankings_34 1 rfl ?_
        refine r_iconst (v := 2) dX11_rankings_35 (by decide) ?_
        obtain ⟨rq14, σ15, qg13, h⟩ := bd2_at h
        refine x_callV (Y := mX11_refuse) (d' := 1) dX11_rankings_36 ml_X11_102 yv_X11_refuse (by omega) rfl rfl (by simp [Value.category]) (sR_is rfl rfl) (lc_X11_refuse qg13) ?_
        refine r_iret rfl dX11_rankings_39 ?_
        exact lfI h
  · replace h := ifn h qm1
    refine x_callV (Y := mX11_machineAt) (d' := 1) dX11_rankings_2 ml_X11_138 yv_X11_machineAt (by omega) rfl rfl (by simp [Value.category]) (sR_is rfl rfl) (c_X11_machineAtN σ qm1) ?_
    refine r_astoreN (lo' := [(4, .null), (0, .ref (ad 0)), (1, .int x1), (2, .int x2), (3, .int x3)]) dX11_rankings_5 (by decide) rfl ?_
    refine r_aloadN dX11_rankings_7 0 rfl ?_
    refine r_ifnonnullN dX11_rankings_9 ?_
    refine r_aload_n dX11_rankings_12 1 rfl ?_
    refine r_iconst (v := 1) dX11_rankings_13 (by decide) ?_
    obtain ⟨rq17, σ18, qg16, h⟩ := bd2_at h
    refine x_callV (Y := mX11_refuse) (d' := 1) dX11_rankings_14 ml_X11_102 yv_X11_refuse (by omega) rfl rfl (by simp [Value.category]) (sR_is rfl rfl) (lc_X11_refuse qg16) ?_
    refine r_iret rfl dX11_rankings_17 ?_
    exact lfI h
set_option maxRecDepth 8000 in
theorem lc_X11_rankings {ad : Nat → Nat} {x1 : Int32} {x2 : Int32} {x3 : Int32} {σ τ : sS} {r : Int32} (h : L_X11_rankings x1 x2 x3 σ = some (r, τ)) : ab_X (sR ad) 8 mX11_rankings [.ref (ad 0), .int x1, .int x2, .int x3] σ (some (.int r)) τ := ab_X.of (by decide) (Nat.le_of_ble_eq_true rfl) (e_X11_rankings h)
