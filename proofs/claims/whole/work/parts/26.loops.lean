/-! graphs, whichever they are; Loops -/
/-- a method of the graph at id G answers by f, changes nothing -/
def gr_m (ad : Nat → Nat) (G : Nat) (J : sS → Prop) (x : MethodName) (n d' : Nat) (f : sS → List Int32 → Int32) : Prop := ∃ (Y : ab_M) (d0 : Nat), d0 ≤ d' ∧ ab_yU x Y n ∧ (∀ σ, ab_is (sR ad) σ (ad G) Y.1.cls) ∧ ∀ (σ : sS) (as : List Int32), J σ → as.length = n → ab_X (sR ad) d0 Y (.ref (ad G) :: as.map Value.int) σ (some (.int (f σ as))) σ
theorem x_callG {ad : Nat → Nat} {X : ab_M} {d d' pc idx n G : Nat} {lo : List (Nat × Value)} {st0 rest : List Value} {σ : sS} {Q : Option Value → sS → Prop} {J : sS → Prop} {x : MethodName} {f : sS → List Int32 → Int32} (as : List Int32) (hg : gr_m ad G J x n d' f) (hd : decode X.2.1 pc = .ok (.invokevirtual idx, 3)) (hw : Cond.methodLink X.1.cls idx x ∈ ab_tb) (hdd : d' + 1 ≤ d) (hJ : J σ) (hn : as.length = n) (hst : st0 = (as.map Value.int).reverse ++ .ref (ad G) :: rest) (hr : (rest.map fun v => v.category).sum ≤ 8) (K : ab_E (sR ad) X d (pc + 3) lo (.int (f σ as) :: rest) σ Q) : ab_E (sR ad) X d pc lo st0 σ Q := by
  obtain ⟨Y, d0, h0, y, hi, hC⟩ := hg
  exact x_callU (Y := Y) hd hw y (Nat.le_trans (Nat.succ_le_succ h0) hdd) (by rw [List.length_map]; exact hn) hst hr (hi σ) (hC σ as hJ hn) K
/-- nothing has changed but Loops and its rows -/
def lrel (σ τ : sS) : Prop := (∀ b, (b < 19 ∨ 25 < b) → vI τ b = vI σ b ∧ vU τ b = vU σ b ∧ vC τ b = vC σ b) ∧ τ.2.1 = σ.2.1 ∧ τ.2.2.1 = σ.2.2.1
theorem lrel.rf {σ : sS} : lrel σ σ := ⟨fun _ _ => ⟨rfl, rfl, rfl⟩, rfl, rfl⟩
theorem lrel.tr {σ τ υ : sS} (h : lrel σ τ) (k : lrel τ υ) : lrel σ υ := ⟨fun b hb => ⟨(k.1 b hb).1.trans (h.1 b hb).1, (k.1 b hb).2.1.trans (h.1 b hb).2.1, (k.1 b hb).2.2.trans (h.1 b hb).2.2⟩, k.2.1.trans h.2.1, k.2.2.trans h.2.2⟩
theorem lrel.of2 {σ τ : sS} (h2 : τ.2 = σ.2) (h1 : ∀ b, (b < 19 ∨ 25 < b) → vI τ b = vI σ b) : lrel σ τ := ⟨fun b hb => ⟨h1 b hb, by unfold vU; rw [h2], by unfold vC; rw [h2]⟩, by rw [h2], by rw [h2]⟩
theorem lrel.rp {σ : sS} {r : Nat} {i x : Int32} (h1 : 19 ≤ r) (h2 : r ≤ 25) : lrel σ (rp σ r i x) := lrel.of2 rp_2 (fun b hb => rp_I (by omega))
theorem lrel.uI {σ : sS} {k : Nat} {x : Int32} : lrel σ (uI σ 19 k x) := lrel.of2 rfl (fun b hb => vI_r (by omega))
def l_hs (σ : sS) (v f : Int32) : Int32 := if rg σ 22 v &&& f = 0 then 0 else 1
def l_ra (σ : sS) (v f : Int32) : sS := rp σ 22 v (rg σ 22 v ||| f)
set_option maxRecDepth 4000 in
theorem c_X3_has {ad : Nat → Nat} (σ : sS) (v f : Int32)  : ab_X (sR ad) 2 mX3_has [.ref (ad 19), .int v, .int f] σ (some (.int (l_hs σ v f))) σ := by
  refine ab_X.of (by decide) (Nat.le_of_ble_eq_true rfl) ?_
  refine r_aload_n dX3_has_0 0 rfl ?_
  refine s_getR (b := 22) ok_X3 dX3_has_1 (k := 2) (by decide) fl_X3_21 rfl rfl rfl ?_
  refine r_iload_n dX3_has_4 1 rfl ?_
  refine x_callV (Y := mX7_get) (d' := 1) dX3_has_5 ml_X3_63 yv_X7_get (by omega) rfl rfl (by simp [Value.category]) (sR_isR rfl) (c_get rfl v) ?_
  refine r_iload_n dX3_has_8 2 rfl ?_
  refine r_iand dX3_has_9 ?_
  refine r_if_eq (t := 17) dX3_has_10 (by decide) (fun c1 => ?_) (fun c1 => ?_)
  · have c1 : ((rg σ 22 v) &&& f) = 0 := c1
    refine r_iconst (v := 0) dX3_has_17 (by decide) ?_
    refine r_zret rfl (by decide) dX3_has_18 ?_
    exact ⟨by unfold l_hs; simp only [eq_true c1, ↓reduceIte], rfl⟩
  · have c1 : ¬ (((rg σ 22 v) &&& f) = 0) := c1
    refine r_iconst (v := 1) dX3_has_13 (by decide) ?_
    refine r_goto (t := 18) dX3_has_14 (by decide) ?_
    refine r_zret rfl (by decide) dX3_has_18 ?_
    exact ⟨by unfold l_hs; simp only [eq_false c1, ↓reduceIte], rfl⟩
theorem l_hs01 (σ : sS) (v f : Int32) : narrow .boolean (.int (l_hs σ v f)) = .int (l_hs σ v f) := by
  unfold l_hs
  by_cases h : rg σ 22 v &&& f = 0
  · rw [if_pos h]; decide
  · rw [if_neg h]; decide
set_option maxRecDepth 4000 in
theorem c_X3_isGood {ad : Nat → Nat} (σ : sS) (v : Int32)  : ab_X (sR ad) 3 mX3_isGood [.ref (ad 19), .int v] σ (some (.int (l_hs σ v 8))) σ := by
  refine ab_X.of (by decide) (Nat.le_of_ble_eq_true rfl) ?_
  refine r_aload_n dX3_isGood_0 0 rfl ?_
  refine r_iload_n dX3_isGood_1 1 rfl ?_
  refine r_bipush (v := 8) dX3_isGood_2 (by decide) ?_
  refine x_callV (Y := mX3_has) (d' := 2) dX3_isGood_4 ml_X3_33 yv_X3_has (by omega) rfl rfl (by simp [Value.category]) (sR_is rfl rfl) (c_X3_has σ v 8) ?_
  refine r_zret rfl (l_hs01 _ _ _) dX3_isGood_7 ?_
  exact ⟨rfl, rfl⟩
set_option maxRecDepth 4000 in
theorem c_X3_isOnLoop {ad : Nat → Nat} (σ : sS) (v : Int32)  : ab_X (sR ad) 3 mX3_isOnLoop [.ref (ad 19), .int v] σ (some (.int (l_hs σ v 4))) σ := by
  refine ab_X.of (by decide) (Nat.le_of_ble_eq_true rfl) ?_
  refine r_aload_n dX3_isOnLoop_0 0 rfl ?_
  refine r_iload_n dX3_isOnLoop_1 1 rfl ?_
  refine r_iconst (v := 4) dX3_isOnLoop_2 (by decide) ?_
  refine x_callV (Y := mX3_has) (d' := 2) dX3_isOnLoop_3 ml_X3_33 yv_X3_has (by omega) rfl rfl (by simp [Value.category]) (sR_is rfl rfl) (c_X3_has σ v 4) ?_
  refine r_zret rfl (l_hs01 _ _ _) dX3_isOnLoop_6 ?_
  exact ⟨rfl, rfl⟩
set_option maxRecDepth 4000 in
theorem c_X3_raise {ad : Nat → Nat} (σ : sS) (v f : Int32)  : ab_X (sR ad) 2 mX3_raise [.ref (ad 19), .int v, .int f] σ none (l_ra σ v f) := by
  refine ab_X.of (by decide) (Nat.le_of_ble_eq_true rfl) ?_
  refine r_aload_n dX3_raise_0 0 rfl ?_
  refine s_getR (b := 22) ok_X3 dX3_raise_1 (k := 2) (by decide) fl_X3_21 rfl rfl rfl ?_
  refine r_iload_n dX3_raise_4 1 rfl ?_
  refine r_aload_n dX3_raise_5 0 rfl ?_
  refine s_getR (b := 22) ok_X3 dX3_raise_6 (k := 2) (by decide) fl_X3_21 rfl rfl rfl ?_
  refine r_iload_n dX3_raise_9 1 rfl ?_
  refine x_callV (Y := mX7_get) (d' := 1) dX3_raise_10 ml_X3_63 yv_X7_get (by omega) rfl rfl (by simp [Value.category]) (sR_isR rfl) (c_get rfl v) ?_
  refine r_iload_n dX3_raise_13 2 rfl ?_
  refine r_ior dX3_raise_14 ?_
  refine x_callV0 (Y := mX7_put) (d' := 1) dX3_raise_15 ml_X3_86 yv_X7_put (by omega) rfl rfl (by simp [Value.category]) (sR_isR rfl) (c_put rfl v ((rg σ 22 v) ||| f)) ?_
  refine r_vret rfl dX3_raise_18 ?_
  exact ⟨rfl, rfl⟩
def l_e1 (σ : sS) : sS := uI σ 19 8 (vI σ 19 8 + 1)
def l_e2 (σ : sS) (v : Int32) : sS := rp (rp (l_e1 σ) 20 v (vI (l_e1 σ) 19 8)) 21 v (vI (rp (l_e1 σ) 20 v (vI (l_e1 σ) 19 8)) 19 8)
def l_e3 (σ : sS) (v : Int32) : sS := rp (l_ra σ v 1) 24 (vI (l_ra σ v 1) 19 6) v
def l_e4 (σ : sS) : sS := uI σ 19 6 (vI σ 19 6 + 1)
def l_e5 (σ : sS) (v : Int32) : sS := rp σ 25 (vI σ 19 7) v
def l_e6 (σ : sS) : sS := uI σ 19 7 (vI σ 19 7 + 1)
def l_en (σ : sS) (v : Int32) : sS := l_e6 (l_e5 (l_e4 (l_e3 (l_e2 σ v) v)) v)
set_option maxRecDepth 4000 in
theorem c_X3_enter {ad : Nat → Nat} (σ : sS) (v : Int32)  : ab_X (sR ad) 3 mX3_enter [.ref (ad 19), .int v] σ none (l_en σ v) := by
  refine ab_X.of (by decide) (Nat.le_of_ble_eq_true rfl) ?_
  refine r_aload_n dX3_enter_0 0 rfl ?_
  refine r_dup dX3_enter_1 rfl ?_
  refine s_getI ok_X3 dX3_enter_2 (k := 8) (by decide) fl_X3_56 rfl rfl ?_
  refine r_iconst (v := 1) dX3_enter_5 (by decide) ?_
  refine r_iadd dX3_enter_6 ?_
  refine s_putI ok_X3 dX3_enter_7 (k := 8) (by decide) fl_X3_56 rfl rfl rfl rfl rfl ?_
  refine r_st (fun σ1 eσ1 => ?_)
  refine r_aload_n dX3_enter_10 0 rfl ?_
  refine s_getR (b := 20) ok_X3 dX3_enter_11 (k := 0) (by decide) fl_X3_14 rfl rfl rfl ?_
  refine r_iload_n dX3_enter_14 1 rfl ?_
  refine r_aload_n dX3_enter_15 0 rfl ?_
  refine s_getI ok_X3 dX3_enter_16 (k := 8) (by decide) fl_X3_56 rfl rfl ?_
  refine x_callV0 (Y := mX7_put) (d' := 1) dX3_enter_19 ml_X3_86 yv_X7_put (by omega) rfl rfl (by simp [Value.category]) (sR_isR rfl) (c_put rfl v (vI σ1 19 8)) ?_
  refine r_st (fun σ2 eσ2 => ?_)
  refine r_aload_n dX3_enter_22 0 rfl ?_
  refine s_getR (b := 21) ok_X3 dX3_enter_23 (k := 1) (by decide) fl_X3_18 rfl rfl rfl ?_
  refine r_iload_n dX3_enter_26 1 rfl ?_
  refine r_aload_n dX3_enter_27 0 rfl ?_
  refine s_getI ok_X3 dX3_enter_28 (k := 8) (by decide) fl_X3_56 rfl rfl ?_
  refine x_callV0 (Y := mX7_put) (d' := 1) dX3_enter_31 ml_X3_86 yv_X7_put (by omega) rfl rfl (by simp [Value.category]) (sR_isR rfl) (c_put rfl v (vI σ2 19 8)) ?_
  refine r_st (fun σ3 eσ3 => ?_)
  refine r_aload_n dX3_enter_34 0 rfl ?_
  refine r_iload_n dX3_enter_35 1 rfl ?_
  refine r_iconst (v := 1) dX3_enter_36 (by decide) ?_
  refine x_callV0 (Y := mX3_raise) (d' := 2) dX3_enter_37 ml_X3_96 yv_X3_raise (by omega) rfl rfl (by simp [Value.category]) (sR_is rfl rfl) (c_X3_raise σ3 v 1) ?_
  refine r_st (fun σ4 eσ4 => ?_)
  refine r_aload_n dX3_enter_40 0 rfl ?_
  refine s_getR (b := 24) ok_X3 dX3_enter_41 (k := 4) (by decide) fl_X3_27 rfl rfl rfl ?_
  refine r_aload_n dX3_enter_44 0 rfl ?_
  refine s_getI ok_X3 dX3_enter_45 (k := 6) (by decide) fl_X3_49 rfl rfl ?_
  refine r_iload_n dX3_enter_48 1 rfl ?_
  refine x_callV0 (Y := mX7_put) (d' := 1) dX3_enter_49 ml_X3_86 yv_X7_put (by omega) rfl rfl (by simp [Value.category]) (sR_isR rfl) (c_put rfl (vI σ4 19 6) v) ?_
  refine r_st (fun σ5 eσ5 => ?_)
  refine r_aload_n dX3_enter_52 0 rfl ?_
  refine r_dup dX3_enter_53 rfl ?_
  refine s_getI ok_X3 dX3_enter_54 (k := 6) (by decide) fl_X3_49 rfl rfl ?_
  refine r_iconst (v := 1) dX3_enter_57 (by decide) ?_
  refine r_iadd dX3_enter_58 ?_
  refine s_putI ok_X3 dX3_enter_59 (k := 6) (by decide) fl_X3_49 rfl rfl rfl rfl rfl ?_
  refine r_st (fun σ6 eσ6 => ?_)
  refine r_aload_n dX3_enter_62 0 rfl ?_
  refine s_getR (b := 25) ok_X3 dX3_enter_63 (k := 5) (by decide) fl_X3_30 rfl rfl rfl ?_
  refine r_aload_n dX3_enter_66 0 rfl ?_
  refine s_getI ok_X3 dX3_enter_67 (k := 7) (by decide) fl_X3_53 rfl rfl ?_
  refine r_iload_n dX3_enter_70 1 rfl ?_
  refine x_callV0 (Y := mX7_put) (d' := 1) dX3_enter_71 ml_X3_86 yv_X7_put (by omega) rfl rfl (by simp [Value.category]) (sR_isR rfl) (c_put rfl (vI σ6 19 7) v) ?_
  refine r_st (fun σ7 eσ7 => ?_)
  refine r_aload_n dX3_enter_74 0 rfl ?_
  refine r_dup dX3_enter_75 rfl ?_
  refine s_getI ok_X3 dX3_enter_76 (k := 7) (by decide) fl_X3_53 rfl rfl ?_
  refine r_iconst (v := 1) dX3_enter_79 (by decide) ?_
  refine r_iadd dX3_enter_80 ?_
  refine s_putI ok_X3 dX3_enter_81 (k := 7) (by decide) fl_X3_53 rfl rfl rfl rfl rfl ?_
  refine r_st (fun σ8 eσ8 => ?_)
  refine r_vret rfl dX3_enter_84 ?_
  subst_vars; exact ⟨rfl, rfl⟩
def l_la (σ : sS) (v t : Int32) : sS := if t = v then l_ra σ v 2 else if rg σ 22 t &&& 1 = 0 then (if rg σ 22 t &&& 8 = 0 then σ else l_ra σ v 8) else rp σ 21 v (mnI (rg σ 21 v) (rg σ 20 t))
set_option maxRecDepth 4000 in
theorem c_X3_lookAt {ad : Nat → Nat} (σ : sS) (v t : Int32)  : ab_X (sR ad) 3 mX3_lookAt [.ref (ad 19), .int v, .int t] σ none (l_la σ v t) := by
  refine ab_X.of (by decide) (Nat.le_of_ble_eq_true rfl) ?_
  refine r_aload_n dX3_lookAt_0 0 rfl ?_
  refine s_getR (b := 22) ok_X3 dX3_lookAt_1 (k := 2) (by decide) fl_X3_21 rfl rfl rfl ?_
  refine r_iload_n dX3_lookAt_4 2 rfl ?_
  refine x_callV (Y := mX7_get) (d' := 1) dX3_lookAt_5 ml_X3_63 yv_X7_get (by omega) rfl rfl (by simp [Value.category]) (sR_isR rfl) (c_get rfl t) ?_
  refine r_istore_n (lo' := [(3, .int (rg σ 22 t)), (0, .ref (ad 19)), (1, .int v), (2, .int t)]) dX3_lookAt_8 (by decide) rfl ?_
  refine r_iload_n dX3_lookAt_9 3 rfl ?_
  refine r_iload_n dX3_lookAt_10 2 rfl ?_
  refine r_icmp_ne (t := 23) dX3_lookAt_11 (by decide) (fun c1 => ?_) (fun c1 => ?_)
  · have c1 : ¬ (t = v) := c1
    refine r_iload_n dX3_lookAt_23 0 rfl ?_
    refine r_iconst (v := 1) dX3_lookAt_24 (by decide) ?_
    refine r_iand dX3_lookAt_25 ?_
    refine r_if_eq (t := 59) dX3_lookAt_26 (by decide) (fun c2 => ?_) (fun c2 => ?_)
    · have c2 : ((rg σ 22 t) &&& 1) = 0 := c2
      refine r_iload_n dX3_lookAt_59 0 rfl ?_
      refine r_bipush (v := 8) dX3_lookAt_60 (by decide) ?_
      refine r_iand dX3_lookAt_62 ?_
      refine r_if_eq (t := 73) dX3_lookAt_63 (by decide) (fun c3 => ?_) (fun c3 => ?_)
      · have c3 : ((rg σ 22 t) &&& 8) = 0 := c3
        refine r_vret rfl dX3_lookAt_73 ?_
        exact ⟨rfl, by unfold l_la; simp only [eq_false c1, eq_true c2, eq_true c3, ↓reduceIte]; (try rfl)⟩
      · have c3 : ¬ (((rg σ 22 t) &&& 8) = 0) := c3
        refine r_aload_n dX3_lookAt_66 1 rfl ?_
        refine r_iload_n dX3_lookAt_67 2 rfl ?_
        refine r_bipush (v := 8) dX3_lookAt_68 (by decide) ?_
        refine x_callV0 (Y := mX3_raise) (d' := 2) dX3_lookAt_70 ml_X3_96 yv_X3_raise (by omega) rfl rfl (by simp [Value.category]) (sR_is rfl rfl) (c_X3_raise σ v 8) ?_
        refine r_vret rfl dX3_lookAt_73 ?_
        exact ⟨rfl, by unfold l_la; simp only [eq_false c1, eq_true c2, eq_false c3, ↓reduceIte]; (try rfl)⟩
    · have c2 : ¬ (((rg σ 22 t) &&& 1) = 0) := c2
      refine r_aload_n dX3_lookAt_29 1 rfl ?_
      refine s_getR (b := 21) ok_X3 dX3_lookAt_30 (k := 1) (by decide) fl_X3_18 rfl rfl rfl ?_
      refine r_iload_n dX3_lookAt_33 2 rfl ?_
      refine r_aload_n dX3_lookAt_34 1 rfl ?_
      refine s_getR (b := 21) ok_X3 dX3_lookAt_35 (k := 1) (by decide) fl_X3_18 rfl rfl rfl ?_
      refine r_iload_n dX3_lookAt_38 2 rfl ?_
      refine x_callV (Y := mX7_get) (d' := 1) dX3_lookAt_39 ml_X3_63 yv_X7_get (by omega) rfl rfl (by simp [Value.category]) (sR_isR rfl) (c_get rfl v) ?_
      refine r_aload_n dX3_lookAt_42 1 rfl ?_
      refine s_getR (b := 20) ok_X3 dX3_lookAt_43 (k := 0) (by decide) fl_X3_14 rfl rfl rfl ?_
      refine r_iload_n dX3_lookAt_46 3 rfl ?_
      refine x_callV (Y := mX7_get) (d' := 1) dX3_lookAt_47 ml_X3_63 yv_X7_get (by omega) rfl rfl (by simp [Value.category]) (sR_isR rfl) (c_get rfl t) ?_
      refine r_min dX3_lookAt_50 (by omega) ml_X3_99 ma_mins ma_i ma_minc (by simp [Value.category]) ?_
      refine x_callV0 (Y := mX7_put) (d' := 1) dX3_lookAt_53 ml_X3_86 yv_X7_put (by omega) rfl rfl (by simp [Value.category]) (sR_isR rfl) (c_put rfl v (mnI (rg σ 21 v) (rg σ 20 t))) ?_
      refine r_goto (t := 73) dX3_lookAt_56 (by decide) ?_
      refine r_vret rfl dX3_lookAt_73 ?_
      exact ⟨rfl, by unfold l_la; simp only [eq_false c1, eq_false c2, ↓reduceIte]; (try rfl)⟩
  · have c1 : t = v := c1
    refine r_aload_n dX3_lookAt_14 1 rfl ?_
    refine r_iload_n dX3_lookAt_15 2 rfl ?_
    refine r_iconst (v := 2) dX3_lookAt_16 (by decide) ?_
    refine x_callV0 (Y := mX3_raise) (d' := 2) dX3_lookAt_17 ml_X3_96 yv_X3_raise (by omega) rfl rfl (by simp [Value.category]) (sR_is rfl rfl) (c_X3_raise σ v 2) ?_
    refine r_goto (t := 73) dX3_lookAt_20 (by decide) ?_
    refine r_vret rfl dX3_lookAt_73 ?_
    exact ⟨rfl, by unfold l_la; simp only [eq_true c1, ↓reduceIte]; (try rfl)⟩
def l_fr (σ : sS) (v : Int32) : Nat → Nat
  | 0 => 0
  | k + 1 => if rg σ 25 (nI (k + 1)) = v then k + 1 else l_fr σ v k
theorem l_fr_le {σ : sS} {v : Int32} : ∀ k, l_fr σ v k ≤ k := by
  intro k
  induction k with
  | zero => exact Nat.le_refl _
  | succ k ih =>
    rw [l_fr]
    by_cases h : rg σ 25 (nI (k + 1)) = v
    · rw [if_pos h]; exact Nat.le_refl _
    · rw [if_neg h]; omega
def l_g1 (fM : sS → List Int32 → Int32) (σ : sS) (il m g : Int32) : Int32 := if g = 0 then (if l_hs σ m 8 = 0 then (if il = 0 then 0 else if fM σ [m] = 0 then 0 else 1) else 1) else 1
def l_gd (fM : sS → List Int32 → Int32) (σ : sS) (il : Int32) : Nat → Nat → Int32 → Int32
  | 0, _, g => g
  | n + 1, i, g => l_gd fM σ il n (i + 1) (l_g1 fM σ il (rg σ 25 (nI i)) g)
def l_fl (t : Int32) : Nat → Nat → sS → sS
  | 0, _, σ => σ
  | n + 1, i, σ => l_fl t n (i + 1) (rp σ 22 (rg σ 25 (nI i)) t)
def l_il (σ : sS) (v : Int32) (H k : Nat) : Int32 := if 1 < nI (H + 1) - nI k then 1 else if l_hs σ v 2 = 0 then 0 else 1
def l_td (il g : Int32) : Int32 := (if il = 0 then 0 else 4) ||| (if g = 0 then 0 else 8)
def l_rk (fM : sS → List Int32 → Int32) (σ : sS) (v : Int32) (H k : Nat) : sS := uI (l_fl (l_td (l_il σ v H k) (l_gd fM σ (l_il σ v H k) (H + 1 - k) k 0)) (H + 1 - k) k σ) 19 7 (nI k)
def l_rl (fM : sS → List Int32 → Int32) (σ : sS) (v : Int32) (H : Nat) : sS := l_rk fM σ v H (l_fr σ v H)
theorem l_X3_fr {ad : Nat → Nat} {σ : sS} {d G : Nat} {v : Int32} {Q : Option Value → sS → Prop} (hd : 3 ≤ d) : ∀ (k : Nat), k < 2 ^ 30 → ab_E (sR ad) mX3_release d 29 [(3, .int (nI (l_fr σ v k))), (0, .ref (ad 19)), (1, .ref (ad G)), (2, .int v)] [] σ Q → ab_E (sR ad) mX3_release d 7 [(3, .int (nI k)), (0, .ref (ad 19)), (1, .ref (ad G)), (2, .int v)] [] σ Q := by
  intro k
  induction k with
  | zero =>
    intro hk K
    refine r_iload_n dX3_release_7 0 rfl ?_
    refine r_if_le (t := 29) dX3_release_8 (by decide) (fun _ => ?_) (fun hh => absurd (by decide) hh)
    exact K
  | succ k ih =>
    intro hk K
    have hk0 : ¬ nI (k + 1) ≤ 0 := nI_nle (by omega) (by omega)
    refine r_iload_n dX3_release_7 0 rfl ?_
    refine r_if_le (t := 29) dX3_release_8 (by decide) (fun hh => absurd hh hk0) (fun _ => ?_)
    refine r_aload_n dX3_release_11 1 rfl ?_
    refine s_getR (b := 25) ok_X3 dX3_release_12 (k := 5) (by decide) fl_X3_30 rfl rfl rfl ?_
    refine r_iload_n dX3_release_15 0 rfl ?_
    refine x_callV (Y := mX7_get) (d' := 1) dX3_release_16 ml_X3_63 yv_X7_get (by omega) rfl rfl (by simp [Value.category]) (sR_isR rfl) (c_get rfl (nI (k + 1))) ?_
    refine r_iload_n dX3_release_19 3 rfl ?_
    refine r_icmp_eq (t := 29) dX3_release_20 (by decide) (fun c1 => ?_) (fun c1 => ?_)
    · have c1 : (rg σ 25 (nI (k + 1))) = v := c1
      rw [l_fr, if_pos c1] at K
      exact K
    · have c1 : ¬ ((rg σ 25 (nI (k + 1))) = v) := c1
      refine r_iinc (v := (nI (k + 1)) + (-1)) (lo' := [(3, .int ((nI (k + 1)) + (-1))), (0, .ref (ad 19)), (1, .ref (ad G)), (2, .int v)]) dX3_release_23 0 rfl rfl (by decide) rfl ?_
      refine r_goto (t := 7) dX3_release_26 (by decide) ?_
      rw [pk_m1]
      rw [l_fr, if_neg c1] at K
      exact ab_E.lo [0, 1, 2, 3] rfl (ih (by omega) K)
theorem l_X3_gd {ad : Nat → Nat} {σ : sS} {d d' G H : Nat} {v il x : Int32} {J : sS → Prop} {fM : sS → List Int32 → Int32} {Q : Option Value → sS → Prop} (hd : 3 ≤ d) (hdd : d' + 1 ≤ d) (hM : gr_m ad G J ⟨"OddRanks$Graph", "isMarked", "(I)Z"⟩ 1 d' fM) (hJ : J σ) (hH : vI σ 19 7 = nI (H + 1)) (hH2 : H < 2 ^ 30) : ∀ (n i : Nat) (g : Int32), i + n = H + 1 → ab_E (sR ad) mX3_release d 124 [(6, .int (nI (H + 1))), (5, .int (l_gd fM σ il n i g)), (4, .int il), (3, .int x), (0, .ref (ad 19)), (1, .ref (ad G)), (2, .int v)] [] σ Q → ab_E (sR ad) mX3_release d 61 [(6, .int (nI i)), (5, .int g), (4, .int il), (3, .int x), (0, .ref (ad 19)), (1, .ref (ad G)), (2, .int v)] [] σ Q := by
  intro n
  induction n with
  | zero =>
    intro i g hi K
    have hi : i = H + 1 := by omega
    subst hi
    have hc : vI σ 19 7 ≤ nI (H + 1) := by rw [hH]; exact nI_le (Nat.le_refl _) (by omega)
    refine r_iload dX3_release_61 0 rfl ?_
    refine r_aload_n dX3_release_63 4 rfl ?_
    refine s_getI ok_X3 dX3_release_64 (k := 7) (by decide) fl_X3_53 rfl rfl ?_
    refine r_icmp_ge (t := 124) dX3_release_67 (by decide) (fun _ => ?_) (fun hh => absurd hc hh)
    exact K
  | succ n ih =>
    intro i g hi K
    have hc : ¬ vI σ 19 7 ≤ nI i := by rw [hH]; exact nI_ge (by omega) (by omega)
    refine r_iload dX3_release_61 0 rfl ?_
    refine r_aload_n dX3_release_63 4 rfl ?_
    refine s_getI ok_X3 dX3_release_64 (k := 7) (by decide) fl_X3_53 rfl rfl ?_
    refine r_icmp_ge (t := 124) dX3_release_67 (by decide) (fun hh => absurd hh hc) (fun _ => ?_)
    refine r_aload_n dX3_release_70 4 rfl ?_
    refine s_getR (b := 25) ok_X3 dX3_release_71 (k := 5) (by decide) fl_X3_30 rfl rfl rfl ?_
    refine r_iload dX3_release_74 0 rfl ?_
    refine x_callV (Y := mX7_get) (d' := 1) dX3_release_76 ml_X3_63 yv_X7_get (by omega) rfl rfl (by simp [Value.category]) (sR_isR rfl) (c_get rfl (nI i)) ?_
    refine r_istore (lo' := [(7, .int (rg σ 25 (nI i))), (6, .int (nI i)), (5, .int g), (4, .int il), (3, .int x), (0, .ref (ad 19)), (1, .ref (ad G)), (2, .int v)]) dX3_release_79 (by decide) rfl ?_
    refine r_iload dX3_release_81 2 rfl ?_
    refine r_if_ne (t := 111) dX3_release_83 (by decide) (fun c1 => ?_) (fun c1 => ?_)
    · have c1 : ¬ (g = 0) := c1
      refine r_iconst (v := 1) dX3_release_111 (by decide) ?_
      refine r_goto (t := 116) dX3_release_112 (by decide) ?_
      refine r_istore (lo' := [(5, .int 1), (7, .int (rg σ 25 (nI i))), (6, .int (nI i)), (4, .int il), (3, .int x), (0, .ref (ad 19)), (1, .ref (ad G)), (2, .int v)]) dX3_release_116 (by decide) rfl ?_
      refine r_iinc (v := (nI i) + 1) (lo' := [(6, .int ((nI i) + 1)), (5, .int 1), (7, .int (rg σ 25 (nI i))), (4, .int il), (3, .int x), (0, .ref (ad 19)), (1, .ref (ad G)), (2, .int v)]) dX3_release_118 2 rfl rfl (by decide) rfl ?_
      refine r_goto (t := 61) dX3_release_121 (by decide) ?_
      have e0 : l_g1 fM σ il (rg σ 25 (nI i)) g = 1 := by unfold l_g1; simp only [eq_false c1, ↓reduceIte]
      rw [l_gd, e0] at K
      rw [nI_1]
      exact ab_E.lo [0, 1, 3, 4, 5, 6, 7] rfl (ih (i + 1) 1 (by omega) K)
    · have c1 : g = 0 := c1
      refine r_aload_n dX3_release_86 5 rfl ?_
      refine r_iload dX3_release_87 0 rfl ?_
      refine r_bipush (v := 8) dX3_release_89 (by decide) ?_
      refine x_callV (Y := mX3_has) (d' := 2) dX3_release_91 ml_X3_33 yv_X3_has (by omega) rfl rfl (by simp [Value.category]) (sR_is rfl rfl) (c_X3_has σ (rg σ 25 (nI i)) 8) ?_
      refine r_if_ne (t := 111) dX3_release_94 (by decide) (fun c2 => ?_) (fun c2 => ?_)
      · have c2 : ¬ ((l_hs σ (rg σ 25 (nI i)) 8) = 0) := c2
        refine r_iconst (v := 1) dX3_release_111 (by decide) ?_
        refine r_goto (t := 116) dX3_release_112 (by decide) ?_
        refine r_istore (lo' := [(5, .int 1), (7, .int (rg σ 25 (nI i))), (6, .int (nI i)), (4, .int il), (3, .int x), (0, .ref (ad 19)), (1, .ref (ad G)), (2, .int v)]) dX3_release_116 (by decide) rfl ?_
        refine r_iinc (v := (nI i) + 1) (lo' := [(6, .int ((nI i) + 1)), (5, .int 1), (7, .int (rg σ 25 (nI i))), (4, .int il), (3, .int x), (0, .ref (ad 19)), (1, .ref (ad G)), (2, .int v)]) dX3_release_118 2 rfl rfl (by decide) rfl ?_
        refine r_goto (t := 61) dX3_release_121 (by decide) ?_
        have e0 : l_g1 fM σ il (rg σ 25 (nI i)) g = 1 := by unfold l_g1; simp only [eq_true c1, eq_false c2, ↓reduceIte]
        rw [l_gd, e0] at K
        rw [nI_1]
        exact ab_E.lo [0, 1, 3, 4, 5, 6, 7] rfl (ih (i + 1) 1 (by omega) K)
      · have c2 : (l_hs σ (rg σ 25 (nI i)) 8) = 0 := c2
        refine r_iload dX3_release_97 3 rfl ?_
        refine r_if_eq (t := 115) dX3_release_99 (by decide) (fun c3 => ?_) (fun c3 => ?_)
        · have c3 : il = 0 := c3
          refine r_iconst (v := 0) dX3_release_115 (by decide) ?_
          refine r_istore (lo' := [(5, .int 0), (7, .int (rg σ 25 (nI i))), (6, .int (nI i)), (4, .int il), (3, .int x), (0, .ref (ad 19)), (1, .ref (ad G)), (2, .int v)]) dX3_release_116 (by decide) rfl ?_
          refine r_iinc (v := (nI i) + 1) (lo' := [(6, .int ((nI i) + 1)), (5, .int 0), (7, .int (rg σ 25 (nI i))), (4, .int il), (3, .int x), (0, .ref (ad 19)), (1, .ref (ad G)), (2, .int v)]) dX3_release_118 2 rfl rfl (by decide) rfl ?_
          refine r_goto (t := 61) dX3_release_121 (by decide) ?_
          have e0 : l_g1 fM σ il (rg σ 25 (nI i)) g = 0 := by unfold l_g1; simp only [eq_true c1, eq_true c2, eq_true c3, ↓reduceIte]
          rw [l_gd, e0] at K
          rw [nI_1]
          exact ab_E.lo [0, 1, 3, 4, 5, 6, 7] rfl (ih (i + 1) 0 (by omega) K)
        · have c3 : ¬ (il = 0) := c3
          refine r_aload_n dX3_release_102 6 rfl ?_
          refine r_iload dX3_release_103 0 rfl ?_
          refine x_callG [rg σ 25 (nI i)] hM dX3_release_105 ml_X3_107 (by omega) hJ rfl rfl (by simp [Value.category]) ?_
          refine r_if_eq (t := 115) dX3_release_108 (by decide) (fun c4 => ?_) (fun c4 => ?_)
          · have c4 : (fM σ [rg σ 25 (nI i)]) = 0 := c4
            refine r_iconst (v := 0) dX3_release_115 (by decide) ?_
            refine r_istore (lo' := [(5, .int 0), (7, .int (rg σ 25 (nI i))), (6, .int (nI i)), (4, .int il), (3, .int x), (0, .ref (ad 19)), (1, .ref (ad G)), (2, .int v)]) dX3_release_116 (by decide) rfl ?_
            refine r_iinc (v := (nI i) + 1) (lo' := [(6, .int ((nI i) + 1)), (5, .int 0), (7, .int (rg σ 25 (nI i))), (4, .int il), (3, .int x), (0, .ref (ad 19)), (1, .ref (ad G)), (2, .int v)]) dX3_release_118 2 rfl rfl (by decide) rfl ?_
            refine r_goto (t := 61) dX3_release_121 (by decide) ?_
            have e0 : l_g1 fM σ il (rg σ 25 (nI i)) g = 0 := by unfold l_g1; simp only [eq_true c1, eq_true c2, eq_false c3, eq_true c4, ↓reduceIte]
            rw [l_gd, e0] at K
            rw [nI_1]
            exact ab_E.lo [0, 1, 3, 4, 5, 6, 7] rfl (ih (i + 1) 0 (by omega) K)
          · have c4 : ¬ ((fM σ [rg σ 25 (nI i)]) = 0) := c4
            refine r_iconst (v := 1) dX3_release_111 (by decide) ?_
            refine r_goto (t := 116) dX3_release_112 (by decide) ?_
            refine r_istore (lo' := [(5, .int 1), (7, .int (rg σ 25 (nI i))), (6, .int (nI i)), (4, .int il), (3, .int x), (0, .ref (ad 19)), (1, .ref (ad G)), (2, .int v)]) dX3_release_116 (by decide) rfl ?_
            refine r_iinc (v := (nI i) + 1) (lo' := [(6, .int ((nI i) + 1)), (5, .int 1), (7, .int (rg σ 25 (nI i))), (4, .int il), (3, .int x), (0, .ref (ad 19)), (1, .ref (ad G)), (2, .int v)]) dX3_release_118 2 rfl rfl (by decide) rfl ?_
            refine r_goto (t := 61) dX3_release_121 (by decide) ?_
            have e0 : l_g1 fM σ il (rg σ 25 (nI i)) g = 1 := by unfold l_g1; simp only [eq_true c1, eq_true c2, eq_false c3, eq_false c4, ↓reduceIte]
            rw [l_gd, e0] at K
            rw [nI_1]
            exact ab_E.lo [0, 1, 3, 4, 5, 6, 7] rfl (ih (i + 1) 1 (by omega) K)
theorem l_X3_fl {ad : Nat → Nat} {d G H : Nat} {v il x t g : Int32} (hd : 3 ≤ d) (hH2 : H < 2 ^ 30) : ∀ (n i : Nat) (σ : sS), vI σ 19 7 = nI (H + 1) → i + n = H + 1 → ab_E (sR ad) mX3_release d 151 [(7, .int (nI i)), (6, .int t), (5, .int g), (4, .int il), (3, .int x), (0, .ref (ad 19)), (1, .ref (ad G)), (2, .int v)] [] σ (fun r σ' => r = none ∧ σ' = uI (l_fl t n i σ) 19 7 x) := by
  intro n
  induction n with
  | zero =>
    intro i σ hH hi
    have hc : vI σ 19 7 ≤ nI i := by rw [hH]; exact nI_le (by omega) (by omega)
    refine r_iload dX3_release_151 0 rfl ?_
    refine r_aload_n dX3_release_153 5 rfl ?_
    refine s_getI ok_X3 dX3_release_154 (k := 7) (by decide) fl_X3_53 rfl rfl ?_
    refine r_icmp_ge (t := 184) dX3_release_157 (by decide) (fun _ => ?_) (fun hh => absurd hc hh)
    refine r_aload_n dX3_release_184 5 rfl ?_
    refine r_iload_n dX3_release_185 4 rfl ?_
    refine s_putI ok_X3 dX3_release_186 (k := 7) (by decide) fl_X3_53 rfl rfl rfl rfl rfl ?_
    refine r_vret rfl dX3_release_189 ?_
    exact ⟨rfl, rfl⟩
  | succ n ih =>
    intro i σ hH hi
    have hc : ¬ vI σ 19 7 ≤ nI i := by rw [hH]; exact nI_ge (by omega) (by omega)
    refine r_iload dX3_release_151 0 rfl ?_
    refine r_aload_n dX3_release_153 5 rfl ?_
    refine s_getI ok_X3 dX3_release_154 (k := 7) (by decide) fl_X3_53 rfl rfl ?_
    refine r_icmp_ge (t := 184) dX3_release_157 (by decide) (fun hh => absurd hh hc) (fun _ => ?_)
    refine r_aload_n dX3_release_160 5 rfl ?_
    refine s_getR (b := 22) ok_X3 dX3_release_161 (k := 2) (by decide) fl_X3_21 rfl rfl rfl ?_
    refine r_aload_n dX3_release_164 5 rfl ?_
    refine s_getR (b := 25) ok_X3 dX3_release_165 (k := 5) (by decide) fl_X3_30 rfl rfl rfl ?_
    refine r_iload dX3_release_168 0 rfl ?_
    refine x_callV (Y := mX7_get) (d' := 1) dX3_release_170 ml_X3_63 yv_X7_get (by omega) rfl rfl (by simp [Value.category]) (sR_isR rfl) (c_get rfl (nI i)) ?_
    refine r_iload dX3_release_173 1 rfl ?_
    refine x_callV0 (Y := mX7_put) (d' := 1) dX3_release_175 ml_X3_86 yv_X7_put (by omega) rfl rfl (by simp [Value.category]) (sR_isR rfl) (c_put rfl (rg σ 25 (nI i)) t) ?_
    refine r_iinc (v := (nI i) + 1) (lo' := [(7, .int ((nI i) + 1)), (6, .int t), (5, .int g), (4, .int il), (3, .int x), (0, .ref (ad 19)), (1, .ref (ad G)), (2, .int v)]) dX3_release_178 0 rfl rfl (by decide) rfl ?_
    refine r_goto (t := 151) dX3_release_181 (by decide) ?_
    rw [nI_1, l_fl]
    exact ab_E.lo [0, 1, 2, 3, 4, 5, 6, 7] rfl (ih (i + 1) _ (by rw [rp_I (by decide)]; exact hH) (by omega))
theorem c_X3_release {ad : Nat → Nat} (σ : sS) {d d' G H : Nat} {J : sS → Prop} {fM : sS → List Int32 → Int32} (hd : 3 ≤ d) (hdd : d' + 1 ≤ d) (hM : gr_m ad G J ⟨"OddRanks$Graph", "isMarked", "(I)Z"⟩ 1 d' fM) (hJ : J σ) (hH : vI σ 19 7 = nI (H + 1)) (hH2 : H < 2 ^ 30) (v : Int32) : ab_X (sR ad) d mX3_release [.ref (ad 19), .ref (ad G), .int v] σ none (l_rl fM σ v H) := by
  refine ab_X.of (by decide) (Nat.le_of_ble_eq_true rfl) ?_
  refine r_aload_n dX3_release_0 0 rfl ?_
  refine s_getI ok_X3 dX3_release_1 (k := 7) (by decide) fl_X3_53 rfl rfl ?_
  refine r_iconst (v := 1) dX3_release_4 (by decide) ?_
  refine r_isub dX3_release_5 ?_
  refine r_istore_n (lo' := [(3, .int ((vI σ 19 7) - 1)), (0, .ref (ad 19)), (1, .ref (ad G)), (2, .int v)]) dX3_release_6 (by decide) rfl ?_
  rw [hH, nI_pred]
  refine l_X3_fr (by omega) H hH2 ?_
  have hk := l_fr_le (σ := σ) (v := v) H
  unfold l_rl
  generalize l_fr σ v H = k at hk ⊢
  refine r_aload_n dX3_release_29 1 rfl ?_
  refine s_getI ok_X3 dX3_release_30 (k := 7) (by decide) fl_X3_53 rfl rfl ?_
  refine r_iload_n dX3_release_33 0 rfl ?_
  refine r_isub dX3_release_34 ?_
  refine r_iconst (v := 1) dX3_release_35 (by decide) ?_
  refine r_icmp_gt (t := 48) dX3_release_36 (by decide) (fun c1 => ?_) (fun c1 => ?_)
  · have c1 : 1 < ((vI σ 19 7) - (nI k)) := c1
    refine r_iconst (v := 1) dX3_release_48 (by decide) ?_
    refine r_goto (t := 53) dX3_release_49 (by decide) ?_
    refine r_istore (lo' := [(4, .int 1), (3, .int (nI k)), (0, .ref (ad 19)), (1, .ref (ad G)), (2, .int v)]) dX3_release_53 (by decide) rfl ?_
    refine r_iconst (v := 0) dX3_release_55 (by decide) ?_
    refine r_istore (lo' := [(5, .int 0), (4, .int 1), (3, .int (nI k)), (0, .ref (ad 19)), (1, .ref (ad G)), (2, .int v)]) dX3_release_56 (by decide) rfl ?_
    refine r_iload_n dX3_release_58 2 rfl ?_
    refine r_istore (lo' := [(6, .int (nI k)), (5, .int 0), (4, .int 1), (3, .int (nI k)), (0, .ref (ad 19)), (1, .ref (ad G)), (2, .int v)]) dX3_release_59 (by decide) rfl ?_
    have hil : l_il σ v H k = 1 := by unfold l_il; rw [← hH]; simp only [eq_true c1, ↓reduceIte]
    refine ab_E.lo [0, 1, 2, 3, 4, 5, 6] (lo' := [(6, .int (nI k)), (5, .int 0), (4, .int 1), (3, .int (nI k)), (0, .ref (ad 19)), (1, .ref (ad G)), (2, .int v)]) rfl ?_
    refine l_X3_gd (by omega) hdd hM hJ hH hH2 (H + 1 - k) k 0 (by omega) ?_
    refine r_iload dX3_release_124 2 rfl ?_
    refine r_if_eq (t := 133) dX3_release_126 (by decide) (fun hh => absurd hh (by decide)) (fun _ => ?_)
    refine r_iconst (v := 4) dX3_release_129 (by decide) ?_
    refine r_goto (t := 134) dX3_release_130 (by decide) ?_
    refine r_iload dX3_release_134 1 rfl ?_
    refine r_if_eq (t := 144) dX3_release_136 (by decide) (fun c2 => ?_) (fun c2 => ?_)
    · have c2 : (l_gd fM σ 1 (H + 1 - k) k 0) = 0 := c2
      refine r_iconst (v := 0) dX3_release_144 (by decide) ?_
      refine r_ior dX3_release_145 ?_
      refine r_istore (lo' := [(6, .int ((4 : Int32) ||| 0)), (5, .int (l_gd fM σ 1 (H + 1 - k) k 0)), (4, .int 1), (3, .int (nI k)), (0, .ref (ad 19)), (1, .ref (ad G)), (2, .int v)]) dX3_release_146 (by decide) rfl ?_
      refine r_iload_n dX3_release_148 3 rfl ?_
      refine r_istore (lo' := [(7, .int (nI k)), (6, .int ((4 : Int32) ||| 0)), (5, .int (l_gd fM σ 1 (H + 1 - k) k 0)), (4, .int 1), (3, .int (nI k)), (0, .ref (ad 19)), (1, .ref (ad G)), (2, .int v)]) dX3_release_149 (by decide) rfl ?_
      have htd : l_td 1 (l_gd fM σ 1 (H + 1 - k) k 0) = (4 : Int32) ||| 0 := by unfold l_td; simp only [eq_true c2, ↓reduceIte, i10]
      refine ab_E.lo [0, 1, 2, 3, 4, 5, 6, 7] rfl (ab_E.mono (l_X3_fl (by omega) hH2 (H + 1 - k) k σ hH (by omega)) (fun r τ q => ⟨q.1, ?_⟩))
      rw [q.2]; unfold l_rk; rw [hil, htd]
    · have c2 : ¬ ((l_gd fM σ 1 (H + 1 - k) k 0) = 0) := c2
      refine r_bipush (v := 8) dX3_release_139 (by decide) ?_
      refine r_goto (t := 145) dX3_release_141 (by decide) ?_
      refine r_ior dX3_release_145 ?_
      refine r_istore (lo' := [(6, .int ((4 : Int32) ||| 8)), (5, .int (l_gd fM σ 1 (H + 1 - k) k 0)), (4, .int 1), (3, .int (nI k)), (0, .ref (ad 19)), (1, .ref (ad G)), (2, .int v)]) dX3_release_146 (by decide) rfl ?_
      refine r_iload_n dX3_release_148 3 rfl ?_
      refine r_istore (lo' := [(7, .int (nI k)), (6, .int ((4 : Int32) ||| 8)), (5, .int (l_gd fM σ 1 (H + 1 - k) k 0)), (4, .int 1), (3, .int (nI k)), (0, .ref (ad 19)), (1, .ref (ad G)), (2, .int v)]) dX3_release_149 (by decide) rfl ?_
      have htd : l_td 1 (l_gd fM σ 1 (H + 1 - k) k 0) = (4 : Int32) ||| 8 := by unfold l_td; simp only [eq_false c2, ↓reduceIte, i10]
      refine ab_E.lo [0, 1, 2, 3, 4, 5, 6, 7] rfl (ab_E.mono (l_X3_fl (by omega) hH2 (H + 1 - k) k σ hH (by omega)) (fun r τ q => ⟨q.1, ?_⟩))
      rw [q.2]; unfold l_rk; rw [hil, htd]
  · have c1 : ¬ (1 < ((vI σ 19 7) - (nI k))) := c1
    refine r_aload_n dX3_release_39 1 rfl ?_
    refine r_iload_n dX3_release_40 3 rfl ?_
    refine r_iconst (v := 2) dX3_release_41 (by decide) ?_
    refine x_callV (Y := mX3_has) (d' := 2) dX3_release_42 ml_X3_33 yv_X3_has (by omega) rfl rfl (by simp [Value.category]) (sR_is rfl rfl) (c_X3_has σ v 2) ?_
    refine r_if_eq (t := 52) dX3_release_45 (by decide) (fun c3 => ?_) (fun c3 => ?_)
    · have c3 : (l_hs σ v 2) = 0 := c3
      refine r_iconst (v := 0) dX3_release_52 (by decide) ?_
      refine r_istore (lo' := [(4, .int 0), (3, .int (nI k)), (0, .ref (ad 19)), (1, .ref (ad G)), (2, .int v)]) dX3_release_53 (by decide) rfl ?_
      refine r_iconst (v := 0) dX3_release_55 (by decide) ?_
      refine r_istore (lo' := [(5, .int 0), (4, .int 0), (3, .int (nI k)), (0, .ref (ad 19)), (1, .ref (ad G)), (2, .int v)]) dX3_release_56 (by decide) rfl ?_
      refine r_iload_n dX3_release_58 2 rfl ?_
      refine r_istore (lo' := [(6, .int (nI k)), (5, .int 0), (4, .int 0), (3, .int (nI k)), (0, .ref (ad 19)), (1, .ref (ad G)), (2, .int v)]) dX3_release_59 (by decide) rfl ?_
      have hil : l_il σ v H k = 0 := by unfold l_il; rw [← hH]; simp only [eq_false c1, eq_true c3, ↓reduceIte]
      refine ab_E.lo [0, 1, 2, 3, 4, 5, 6] (lo' := [(6, .int (nI k)), (5, .int 0), (4, .int 0), (3, .int (nI k)), (0, .ref (ad 19)), (1, .ref (ad G)), (2, .int v)]) rfl ?_
      refine l_X3_gd (by omega) hdd hM hJ hH hH2 (H + 1 - k) k 0 (by omega) ?_
      refine r_iload dX3_release_124 2 rfl ?_
      refine r_if_eq (t := 133) dX3_release_126 (by decide) (fun _ => ?_) (fun hh => absurd (by decide) hh)
      refine r_iconst (v := 0) dX3_release_133 (by decide) ?_
      refine r_iload dX3_release_134 1 rfl ?_
      refine r_if_eq (t := 144) dX3_release_136 (by decide) (fun c4 => ?_) (fun c4 => ?_)
      · have c4 : (l_gd fM σ 0 (H + 1 - k) k 0) = 0 := c4
        refine r_iconst (v := 0) dX3_release_144 (by decide) ?_
        refine r_ior dX3_release_145 ?_
        refine r_istore (lo' := [(6, .int ((0 : Int32) ||| 0)), (5, .int (l_gd fM σ 0 (H + 1 - k) k 0)), (4, .int 0), (3, .int (nI k)), (0, .ref (ad 19)), (1, .ref (ad G)), (2, .int v)]) dX3_release_146 (by decide) rfl ?_
        refine r_iload_n dX3_release_148 3 rfl ?_
        refine r_istore (lo' := [(7, .int (nI k)), (6, .int ((0 : Int32) ||| 0)), (5, .int (l_gd fM σ 0 (H + 1 - k) k 0)), (4, .int 0), (3, .int (nI k)), (0, .ref (ad 19)), (1, .ref (ad G)), (2, .int v)]) dX3_release_149 (by decide) rfl ?_
        have htd : l_td 0 (l_gd fM σ 0 (H + 1 - k) k 0) = (0 : Int32) ||| 0 := by unfold l_td; simp only [eq_true c4, ↓reduceIte, i10]
        refine ab_E.lo [0, 1, 2, 3, 4, 5, 6, 7] rfl (ab_E.mono (l_X3_fl (by omega) hH2 (H + 1 - k) k σ hH (by omega)) (fun r τ q => ⟨q.1, ?_⟩))
        rw [q.2]; unfold l_rk; rw [hil, htd]
      · have c4 : ¬ ((l_gd fM σ 0 (H + 1 - k) k 0) = 0) := c4
        refine r_bipush (v := 8) dX3_release_139 (by decide) ?_
        refine r_goto (t := 145) dX3_release_141 (by decide) ?_
        refine r_ior dX3_release_145 ?_
        refine r_istore (lo' := [(6, .int ((0 : Int32) ||| 8)), (5, .int (l_gd fM σ 0 (H + 1 - k) k 0)), (4, .int 0), (3, .int (nI k)), (0, .ref (ad 19)), (1, .ref (ad G)), (2, .int v)]) dX3_release_146 (by decide) rfl ?_
        refine r_iload_n dX3_release_148 3 rfl ?_
        refine r_istore (lo' := [(7, .int (nI k)), (6, .int ((0 : Int32) ||| 8)), (5, .int (l_gd fM σ 0 (H + 1 - k) k 0)), (4, .int 0), (3, .int (nI k)), (0, .ref (ad 19)), (1, .ref (ad G)), (2, .int v)]) dX3_release_149 (by decide) rfl ?_
        have htd : l_td 0 (l_gd fM σ 0 (H + 1 - k) k 0) = (0 : Int32) ||| 8 := by unfold l_td; simp only [eq_false c4, ↓reduceIte, i10]
        refine ab_E.lo [0, 1, 2, 3, 4, 5, 6, 7] rfl (ab_E.mono (l_X3_fl (by omega) hH2 (H + 1 - k) k σ hH (by omega)) (fun r τ q => ⟨q.1, ?_⟩))
        rw [q.2]; unfold l_rk; rw [hil, htd]
    · have c3 : ¬ ((l_hs σ v 2) = 0) := c3
      refine r_iconst (v := 1) dX3_release_48 (by decide) ?_
      refine r_goto (t := 53) dX3_release_49 (by decide) ?_
      refine r_istore (lo' := [(4, .int 1), (3, .int (nI k)), (0, .ref (ad 19)), (1, .ref (ad G)), (2, .int v)]) dX3_release_53 (by decide) rfl ?_
      refine r_iconst (v := 0) dX3_release_55 (by decide) ?_
      refine r_istore (lo' := [(5, .int 0), (4, .int 1), (3, .int (nI k)), (0, .ref (ad 19)), (1, .ref (ad G)), (2, .int v)]) dX3_release_56 (by decide) rfl ?_
      refine r_iload_n dX3_release_58 2 rfl ?_
      refine r_istore (lo' := [(6, .int (nI k)), (5, .int 0), (4, .int 1), (3, .int (nI k)), (0, .ref (ad 19)), (1, .ref (ad G)), (2, .int v)]) dX3_release_59 (by decide) rfl ?_
      have hil : l_il σ v H k = 1 := by unfold l_il; rw [← hH]; simp only [eq_false c1, eq_false c3, ↓reduceIte]
      refine ab_E.lo [0, 1, 2, 3, 4, 5, 6] (lo' := [(6, .int (nI k)), (5, .int 0), (4, .int 1), (3, .int (nI k)), (0, .ref (ad 19)), (1, .ref (ad G)), (2, .int v)]) rfl ?_
      refine l_X3_gd (by omega) hdd hM hJ hH hH2 (H + 1 - k) k 0 (by omega) ?_
      refine r_iload dX3_release_124 2 rfl ?_
      refine r_if_eq (t := 133) dX3_release_126 (by decide) (fun hh => absurd hh (by decide)) (fun _ => ?_)
      refine r_iconst (v := 4) dX3_release_129 (by decide) ?_
      refine r_goto (t := 134) dX3_release_130 (by decide) ?_
      refine r_iload dX3_release_134 1 rfl ?_
      refine r_if_eq (t := 144) dX3_release_136 (by decide) (fun c5 => ?_) (fun c5 => ?_)
      · have c5 : (l_gd fM σ 1 (H + 1 - k) k 0) = 0 := c5
        refine r_iconst (v := 0) dX3_release_144 (by decide) ?_
        refine r_ior dX3_release_145 ?_
        refine r_istore (lo' := [(6, .int ((4 : Int32) ||| 0)), (5, .int (l_gd fM σ 1 (H + 1 - k) k 0)), (4, .int 1), (3, .int (nI k)), (0, .ref (ad 19)), (1, .ref (ad G)), (2, .int v)]) dX3_release_146 (by decide) rfl ?_
        refine r_iload_n dX3_release_148 3 rfl ?_
        refine r_istore (lo' := [(7, .int (nI k)), (6, .int ((4 : Int32) ||| 0)), (5, .int (l_gd fM σ 1 (H + 1 - k) k 0)), (4, .int 1), (3, .int (nI k)), (0, .ref (ad 19)), (1, .ref (ad G)), (2, .int v)]) dX3_release_149 (by decide) rfl ?_
        have htd : l_td 1 (l_gd fM σ 1 (H + 1 - k) k 0) = (4 : Int32) ||| 0 := by unfold l_td; simp only [eq_true c5, ↓reduceIte, i10]
        refine ab_E.lo [0, 1, 2, 3, 4, 5, 6, 7] rfl (ab_E.mono (l_X3_fl (by omega) hH2 (H + 1 - k) k σ hH (by omega)) (fun r τ q => ⟨q.1, ?_⟩))
        rw [q.2]; unfold l_rk; rw [hil, htd]
      · have c5 : ¬ ((l_gd fM σ 1 (H + 1 - k) k 0) = 0) := c5
        refine r_bipush (v := 8) dX3_release_139 (by decide) ?_
        refine r_goto (t := 145) dX3_release_141 (by decide) ?_
        refine r_ior dX3_release_145 ?_
        refine r_istore (lo' := [(6, .int ((4 : Int32) ||| 8)), (5, .int (l_gd fM σ 1 (H + 1 - k) k 0)), (4, .int 1), (3, .int (nI k)), (0, .ref (ad 19)), (1, .ref (ad G)), (2, .int v)]) dX3_release_146 (by decide) rfl ?_
        refine r_iload_n dX3_release_148 3 rfl ?_
        refine r_istore (lo' := [(7, .int (nI k)), (6, .int ((4 : Int32) ||| 8)), (5, .int (l_gd fM σ 1 (H + 1 - k) k 0)), (4, .int 1), (3, .int (nI k)), (0, .ref (ad 19)), (1, .ref (ad G)), (2, .int v)]) dX3_release_149 (by decide) rfl ?_
        have htd : l_td 1 (l_gd fM σ 1 (H + 1 - k) k 0) = (4 : Int32) ||| 8 := by unfold l_td; simp only [eq_false c5, ↓reduceIte, i10]
        refine ab_E.lo [0, 1, 2, 3, 4, 5, 6, 7] rfl (ab_E.mono (l_X3_fl (by omega) hH2 (H + 1 - k) k σ hH (by omega)) (fun r τ q => ⟨q.1, ?_⟩))
        rw [q.2]; unfold l_rk; rw [hil, htd]
