/-! Reader: names -/
def d_nl (σ : sS) (a : Int32) : Nat → Nat → Int32
  | 0, _ => 1
  | k + 1, i => if t_by σ (rg σ 4 a + nI i) = t_by σ (vI σ 1 5 + nI i) then d_nl σ a k (i + 1) else 0
def d_nm (σ : sS) (a : Int32) (ln : Nat) : Int32 := if rg σ 5 a = vI σ 1 6 then d_nl σ a ln 0 else 0
def d_no (σ : sS) (ln : Nat) : Nat → Nat → Bool
  | 0, _ => false
  | k + 1, i => if d_nm σ (nI i) ln = 0 then d_no σ ln k (i + 1) else true
theorem l_X5_nl {ad : Nat → Nat} {σ : sS} {ln : Nat} (hl : vI σ 1 6 = nI ln) (hln : ln ≤ 400) {a : Int32} : ∀ (k i : Nat), i + k = ln → ab_E (sR ad) mX5_isNameOf 3 22 [(2, .int (nI i)), (0, .ref (ad 3)), (1, .int a)] [] σ (fun r9 σ' => r9 = some (.int (d_nl σ a k i)) ∧ σ' = σ) := by
  intro k
  induction k with
  | zero =>
    intro i hi
    have hc : vI σ 1 6 ≤ nI i := by rw [hl]; exact nI_le (by omega) (by omega)
    refine r_iload_n dX5_isNameOf_22 0 rfl ?_
    refine r_aload_n dX5_isNameOf_23 1 rfl ?_
    refine s_getR (b := 1) ok_X5 dX5_isNameOf_24 (k := 0) (by decide) fl_X5_35 rfl rfl rfl ?_
    refine s_getI ok_X9 dX5_isNameOf_27 (k := 6) (by decide) fl_X5_116 rfl rfl ?_
    refine r_icmp_ge (t := 77) dX5_isNameOf_30 (by decide) (fun _ => ?_) (fun hh => absurd hc hh)
    refine r_iconst (v := 1) dX5_isNameOf_77 (by decide) ?_
    refine r_zret rfl (by decide) dX5_isNameOf_78 ?_
    exact ⟨rfl, rfl⟩
  | succ k ih =>
    intro i hi
    have hc : ¬ vI σ 1 6 ≤ nI i := by rw [hl]; exact nI_ge (by omega) (by omega)
    refine r_iload_n dX5_isNameOf_22 0 rfl ?_
    refine r_aload_n dX5_isNameOf_23 1 rfl ?_
    refine s_getR (b := 1) ok_X5 dX5_isNameOf_24 (k := 0) (by decide) fl_X5_35 rfl rfl rfl ?_
    refine s_getI ok_X9 dX5_isNameOf_27 (k := 6) (by decide) fl_X5_116 rfl rfl ?_
    refine r_icmp_ge (t := 77) dX5_isNameOf_30 (by decide) (fun hh => absurd hh hc) (fun _ => ?_)
    refine r_aload_n dX5_isNameOf_33 1 rfl ?_
    refine s_getR (b := 1) ok_X5 dX5_isNameOf_34 (k := 0) (by decide) fl_X5_35 rfl rfl rfl ?_
    refine r_aload_n dX5_isNameOf_37 1 rfl ?_
    refine s_getR (b := 4) ok_X5 dX5_isNameOf_38 (k := 1) (by decide) fl_X5_14 rfl rfl rfl ?_
    refine r_iload_n dX5_isNameOf_41 2 rfl ?_
    refine x_callV (Y := mX7_get) (d' := 1) dX5_isNameOf_42 ml_X5_119 yv_X7_get (by omega) rfl rfl (by simp [Value.category]) (sR_isR rfl) (c_get rfl a) ?_
    refine r_iload_n dX5_isNameOf_45 0 rfl ?_
    refine r_iadd dX5_isNameOf_46 ?_
    refine x_callV (Y := mX9_byteAt) (d' := 2) dX5_isNameOf_47 ml_X5_123 yv_X9_byteAt (by omega) rfl rfl (by simp [Value.category]) (sR_is rfl rfl) (c_X9_byteAt σ ((rg σ 4 a) + (nI i))) ?_
    refine r_aload_n dX5_isNameOf_50 1 rfl ?_
    refine s_getR (b := 1) ok_X5 dX5_isNameOf_51 (k := 0) (by decide) fl_X5_35 rfl rfl rfl ?_
    refine r_aload_n dX5_isNameOf_54 1 rfl ?_
    refine s_getR (b := 1) ok_X5 dX5_isNameOf_55 (k := 0) (by decide) fl_X5_35 rfl rfl rfl ?_
    refine s_getI ok_X9 dX5_isNameOf_58 (k := 5) (by decide) fl_X5_59 rfl rfl ?_
    refine r_iload_n dX5_isNameOf_61 0 rfl ?_
    refine r_iadd dX5_isNameOf_62 ?_
    refine x_callV (Y := mX9_byteAt) (d' := 2) dX5_isNameOf_63 ml_X5_123 yv_X9_byteAt (by omega) rfl rfl (by simp [Value.category]) (sR_is rfl rfl) (c_X9_byteAt σ ((vI σ 1 5) + (nI i))) ?_
    refine r_icmp_eq (t := 71) dX5_isNameOf_66 (by decide) (fun c1 => ?_) (fun c1 => ?_)
    · have c1 : (t_by σ ((rg σ 4 a) + (nI i))) = (t_by σ ((vI σ 1 5) + (nI i))) := c1
      refine r_iinc (v := (nI i) + 1) (lo' := [(2, .int ((nI i) + 1)), (0, .ref (ad 3)), (1, .int a)]) dX5_isNameOf_71 0 rfl rfl (by decide) rfl ?_
      refine r_goto (t := 22) dX5_isNameOf_74 (by decide) ?_
      rw [nI_1, d_nl, if_pos c1]
      exact ab_E.lo [0, 1, 2] rfl (ih (i + 1) (by omega))
    · have c1 : ¬ ((t_by σ ((rg σ 4 a) + (nI i))) = (t_by σ ((vI σ 1 5) + (nI i)))) := c1
      refine r_iconst (v := 0) dX5_isNameOf_69 (by decide) ?_
      refine r_zret rfl (by decide) dX5_isNameOf_70 ?_
      rw [d_nl, if_neg c1]; exact ⟨rfl, rfl⟩
theorem c_X5_isNameOf {ad : Nat → Nat} (σ : sS) {ln : Nat} (hl : vI σ 1 6 = nI ln) (hln : ln ≤ 400) (a : Int32) : ab_X (sR ad) 3 mX5_isNameOf [.ref (ad 3), .int a] σ (some (.int (d_nm σ a ln))) σ := by
  refine ab_X.of (by decide) (Nat.le_of_ble_eq_true rfl) ?_
  refine r_aload_n dX5_isNameOf_0 0 rfl ?_
  refine s_getR (b := 5) ok_X5 dX5_isNameOf_1 (k := 2) (by decide) fl_X5_20 rfl rfl rfl ?_
  refine r_iload_n dX5_isNameOf_4 1 rfl ?_
  refine x_callV (Y := mX7_get) (d' := 1) dX5_isNameOf_5 ml_X5_119 yv_X7_get (by omega) rfl rfl (by simp [Value.category]) (sR_isR rfl) (c_get rfl a) ?_
  refine r_aload_n dX5_isNameOf_8 0 rfl ?_
  refine s_getR (b := 1) ok_X5 dX5_isNameOf_9 (k := 0) (by decide) fl_X5_35 rfl rfl rfl ?_
  refine s_getI ok_X9 dX5_isNameOf_12 (k := 6) (by decide) fl_X5_116 rfl rfl ?_
  refine r_icmp_eq (t := 20) dX5_isNameOf_15 (by decide) (fun c1 => ?_) (fun c1 => ?_)
  · have c1 : (rg σ 5 a) = (vI σ 1 6) := c1
    refine r_iconst (v := 0) dX5_isNameOf_20 (by decide) ?_
    refine r_istore_n (lo' := [(2, .int 0), (0, .ref (ad 3)), (1, .int a)]) dX5_isNameOf_21 (by decide) rfl ?_
    unfold d_nm
    rw [if_pos c1]
    exact ab_E.lo [0, 1, 2] rfl (l_X5_nl hl hln ln 0 (by omega))
  · have c1 : ¬ ((rg σ 5 a) = (vI σ 1 6)) := c1
    refine r_iconst (v := 0) dX5_isNameOf_18 (by decide) ?_
    refine r_zret rfl (by decide) dX5_isNameOf_19 ?_
    exact ⟨by unfold d_nm; rw [if_neg c1], rfl⟩
def d_ra (τ : sS) (M ln : Nat) : Int32 := if vI τ 1 4 = 2 then (if d_kp τ = 0 then (if d_no τ ln M 0 = true then 0 else 1) else 0) else 0
def d_rs (τ : sS) (M ln : Nat) : sS := if vI τ 1 4 = 2 then (if d_kp τ = 0 then (if d_no τ ln M 0 = true then t_blame τ 3 (vI τ 1 5) else rp (rp τ 4 (vI τ 3 6) (vI τ 1 5)) 5 (vI (rp τ 4 (vI τ 3 6) (vI τ 1 5)) 3 6) (vI (rp τ 4 (vI τ 3 6) (vI τ 1 5)) 1 6)) else t_blame τ 1 (vI τ 1 5)) else t_blame τ 1 (vI τ 1 5)
theorem l_X5_no {ad : Nat → Nat} {σ : sS} {ln M : Nat} (hl : vI σ 1 6 = nI ln) (hln : ln ≤ 400) (hM : vI σ 3 6 = nI M) (hM3 : M ≤ 3) {Q : Option Value → sS → Prop} : ∀ (k i : Nat), i + k = M → (d_no σ ln k i = false → ab_E (sR ad) mX5_readName 7 81 [(0, .ref (ad 3))] [] σ Q) → (d_no σ ln k i = true → Q (some (.int 0)) (t_blame σ 3 (vI σ 1 5))) → ab_E (sR ad) mX5_readName 7 43 [(1, .int (nI i)), (0, .ref (ad 3))] [] σ Q := by
  intro k
  induction k with
  | zero =>
    intro i hi K R
    have hc : vI σ 3 6 ≤ nI i := by rw [hM]; exact nI_le (by omega) (by omega)
    refine r_iload_n dX5_readName_43 0 rfl ?_
    refine r_aload_n dX5_readName_44 1 rfl ?_
    refine s_getI ok_X5 dX5_readName_45 (k := 6) (by decide) fl_X5_40 rfl rfl ?_
    refine r_icmp_ge (t := 81) dX5_readName_48 (by decide) (fun _ => ?_) (fun hh => absurd hc hh)
    exact ab_E.lo [1] rfl (K rfl)
  | succ k ih =>
    intro i hi K R
    have hc : ¬ vI σ 3 6 ≤ nI i := by rw [hM]; exact nI_ge (by omega) (by omega)
    refine r_iload_n dX5_readName_43 0 rfl ?_
    refine r_aload_n dX5_readName_44 1 rfl ?_
    refine s_getI ok_X5 dX5_readName_45 (k := 6) (by decide) fl_X5_40 rfl rfl ?_
    refine r_icmp_ge (t := 81) dX5_readName_48 (by decide) (fun hh => absurd hh hc) (fun _ => ?_)
    refine r_aload_n dX5_readName_51 1 rfl ?_
    refine r_iload_n dX5_readName_52 0 rfl ?_
    refine x_callV (Y := mX5_isNameOf) (d' := 3) dX5_readName_53 ml_X5_110 yv_X5_isNameOf (by omega) rfl rfl (by simp [Value.category]) (sR_is rfl rfl) (c_X5_isNameOf σ hl hln (nI i)) ?_
    refine r_if_eq (t := 75) dX5_readName_56 (by decide) (fun c1 => ?_) (fun c1 => ?_)
    · have c1 : (d_nm σ (nI i) ln) = 0 := c1
      refine r_iinc (v := (nI i) + 1) (lo' := [(1, .int ((nI i) + 1)), (0, .ref (ad 3))]) dX5_readName_75 0 rfl rfl (by decide) rfl ?_
      refine r_goto (t := 43) dX5_readName_78 (by decide) ?_
      rw [d_no, if_pos c1] at K R
      rw [nI_1]
      exact ab_E.lo [0, 1] rfl (ih (i + 1) (by omega) K R)
    · have c1 : ¬ ((d_nm σ (nI i) ln) = 0) := c1
      refine r_aload_n dX5_readName_59 1 rfl ?_
      refine s_getR (b := 1) ok_X5 dX5_readName_60 (k := 0) (by decide) fl_X5_35 rfl rfl rfl ?_
      refine r_iconst (v := 3) dX5_readName_63 (by decide) ?_
      refine r_aload_n dX5_readName_64 1 rfl ?_
      refine s_getR (b := 1) ok_X5 dX5_readName_65 (k := 0) (by decide) fl_X5_35 rfl rfl rfl ?_
      refine s_getI ok_X9 dX5_readName_68 (k := 5) (by decide) fl_X5_59 rfl rfl ?_
      refine x_callV (Y := mX9_blame) (d' := 1) dX5_readName_71 ml_X5_62 yv_X9_blame (by omega) rfl rfl (by simp [Value.category]) (sR_is rfl rfl) (c_X9_blame σ 3 (vI σ 1 5)) ?_
      refine r_zret rfl (by decide) dX5_readName_74 ?_
      rw [d_no, if_neg c1] at R
      exact R rfl
theorem c_X5_readName {ad : Nat → Nat} (σ : sS) {e p : Nat} (hE : vI σ 1 1 = nI e) (he : e ≤ 400) (hP : vI σ 1 2 = nI p) (hp : p ≤ e) {ln M : Nat} (hl : vI (t_step σ e p) 1 6 = nI ln) (hln : ln ≤ 400) (hM : vI (t_step σ e p) 3 6 = nI M) (hM3 : M ≤ 3) : ab_X (sR ad) 7 mX5_readName [.ref (ad 3)] σ (some (.int (d_ra (t_step σ e p) M ln))) (d_rs (t_step σ e p) M ln) := by
  refine ab_X.of (by decide) (Nat.le_of_ble_eq_true rfl) ?_
  refine r_aload_n dX5_readName_0 0 rfl ?_
  refine s_getR (b := 1) ok_X5 dX5_readName_1 (k := 0) (by decide) fl_X5_35 rfl rfl rfl ?_
  refine x_callV0 (Y := mX9_step) (d' := 3) dX5_readName_4 ml_X5_53 yv_X9_step (by omega) rfl rfl (by simp [Value.category]) (sR_is rfl rfl) (c_X9_step σ hE he hP hp) ?_
  generalize t_step σ e p = τ at hl hM
  refine r_aload_n dX5_readName_7 0 rfl ?_
  refine s_getR (b := 1) ok_X5 dX5_readName_8 (k := 0) (by decide) fl_X5_35 rfl rfl rfl ?_
  refine s_getI ok_X9 dX5_readName_11 (k := 4) (by decide) fl_X5_56 rfl rfl ?_
  refine r_iconst (v := 2) dX5_readName_14 (by decide) ?_
  refine r_icmp_ne (t := 25) dX5_readName_15 (by decide) (fun c1 => ?_) (fun c1 => ?_)
  · have c1 : ¬ ((vI τ 1 4) = 2) := c1
    refine r_aload_n dX5_readName_25 0 rfl ?_
    refine s_getR (b := 1) ok_X5 dX5_readName_26 (k := 0) (by decide) fl_X5_35 rfl rfl rfl ?_
    refine r_iconst (v := 1) dX5_readName_29 (by decide) ?_
    refine r_aload_n dX5_readName_30 0 rfl ?_
    refine s_getR (b := 1) ok_X5 dX5_readName_31 (k := 0) (by decide) fl_X5_35 rfl rfl rfl ?_
    refine s_getI ok_X9 dX5_readName_34 (k := 5) (by decide) fl_X5_59 rfl rfl ?_
    refine x_callV (Y := mX9_blame) (d' := 1) dX5_readName_37 ml_X5_62 yv_X9_blame (by omega) rfl rfl (by simp [Value.category]) (sR_is rfl rfl) (c_X9_blame τ 1 (vI τ 1 5)) ?_
    refine r_zret rfl (by decide) dX5_readName_40 ?_
    exact ⟨by unfold d_ra; rw [if_neg c1], by unfold d_rs; rw [if_neg c1]⟩
  · have c1 : (vI τ 1 4) = 2 := c1
    refine r_aload_n dX5_readName_18 0 rfl ?_
    refine x_callV (Y := mX5_isKept) (d' := 6) dX5_readName_19 ml_X5_107 yv_X5_isKept (by omega) rfl rfl (by simp [Value.category]) (sR_is rfl rfl) (c_X5_isKept τ) ?_
    refine r_if_eq (t := 41) dX5_readName_22 (by decide) (fun c2 => ?_) (fun c2 => ?_)
    · have c2 : (d_kp τ) = 0 := c2
      refine r_iconst (v := 0) dX5_readName_41 (by decide) ?_
      refine r_istore_n (lo' := [(1, .int 0), (0, .ref (ad 3))]) dX5_readName_42 (by decide) rfl ?_
      unfold d_ra d_rs
      rw [if_pos c1, if_pos c2, if_pos c1, if_pos c2]
      refine ab_E.lo [0, 1] (lo' := [(1, .int (nI 0)), (0, .ref (ad 3))]) rfl (l_X5_no hl hln hM hM3 M 0 (by omega) (fun hq => ?_) (fun hq => ?_))
      rotate_left
      · rw [if_pos hq, if_pos hq]; exact ⟨rfl, rfl⟩
      rw [if_neg (by rw [hq]; decide), if_neg (by rw [hq]; decide)]
      refine r_aload_n dX5_readName_81 0 rfl ?_
      refine s_getR (b := 4) ok_X5 dX5_readName_82 (k := 1) (by decide) fl_X5_14 rfl rfl rfl ?_
      refine r_aload_n dX5_readName_85 0 rfl ?_
      refine s_getI ok_X5 dX5_readName_86 (k := 6) (by decide) fl_X5_40 rfl rfl ?_
      refine r_aload_n dX5_readName_89 0 rfl ?_
      refine s_getR (b := 1) ok_X5 dX5_readName_90 (k := 0) (by decide) fl_X5_35 rfl rfl rfl ?_
      refine s_getI ok_X9 dX5_readName_93 (k := 5) (by decide) fl_X5_59 rfl rfl ?_
      refine x_callV0 (Y := mX7_put) (d' := 1) dX5_readName_96 ml_X5_113 yv_X7_put (by omega) rfl rfl (by simp [Value.category]) (sR_isR rfl) (c_put rfl (vI τ 3 6) (vI τ 1 5)) ?_
      refine r_aload_n dX5_readName_99 0 rfl ?_
      refine s_getR (b := 5) ok_X5 dX5_readName_100 (k := 2) (by decide) fl_X5_20 rfl rfl rfl ?_
      refine r_aload_n dX5_readName_103 0 rfl ?_
      refine s_getI ok_X5 dX5_readName_104 (k := 6) (by decide) fl_X5_40 rfl rfl ?_
      refine r_aload_n dX5_readName_107 0 rfl ?_
      refine s_getR (b := 1) ok_X5 dX5_readName_108 (k := 0) (by decide) fl_X5_35 rfl rfl rfl ?_
      refine s_getI ok_X9 dX5_readName_111 (k := 6) (by decide) fl_X5_116 rfl rfl ?_
      refine x_callV0 (Y := mX7_put) (d' := 1) dX5_readName_114 ml_X5_113 yv_X7_put (by omega) rfl rfl (by simp [Value.category]) (sR_isR rfl) (c_put rfl (vI (rp τ 4 (vI τ 3 6) (vI τ 1 5)) 3 6) (vI (rp τ 4 (vI τ 3 6) (vI τ 1 5)) 1 6)) ?_
      refine r_iconst (v := 1) dX5_readName_117 (by decide) ?_
      refine r_zret rfl (by decide) dX5_readName_118 ?_
      exact ⟨rfl, rfl⟩
    · have c2 : ¬ ((d_kp τ) = 0) := c2
      refine r_aload_n dX5_readName_25 0 rfl ?_
      refine s_getR (b := 1) ok_X5 dX5_readName_26 (k := 0) (by decide) fl_X5_35 rfl rfl rfl ?_
      refine r_iconst (v := 1) dX5_readName_29 (by decide) ?_
      refine r_aload_n dX5_readName_30 0 rfl ?_
      refine s_getR (b := 1) ok_X5 dX5_readName_31 (k := 0) (by decide) fl_X5_35 rfl rfl rfl ?_
      refine s_getI ok_X9 dX5_readName_34 (k := 5) (by decide) fl_X5_59 rfl rfl ?_
      refine x_callV (Y := mX9_blame) (d' := 1) dX5_readName_37 ml_X5_62 yv_X9_blame (by omega) rfl rfl (by simp [Value.category]) (sR_is rfl rfl) (c_X9_blame τ 1 (vI τ 1 5)) ?_
      refine r_zret rfl (by decide) dX5_readName_40 ?_
      exact ⟨by unfold d_ra; rw [if_pos c1, if_neg c2], by unfold d_rs; rw [if_pos c1, if_neg c2]⟩
