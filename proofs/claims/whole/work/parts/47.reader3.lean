/-! Reader.readWord -/
def d_w (T : Nat) (sc : Int32) : Nat → Nat → sS → Int32 × sS
  | 0, _, σ => (1, σ)
  | k + 1, i, σ => if t_by σ (vI σ 1 5 + nI i) - 97 < sc then (if vU σ T < 10 then d_w T sc k (i + 1) (rqu σ T (t_by σ (vI σ 1 5 + nI i) - 97)) else (0, t_blame σ 4 (vI σ 1 5))) else (0, t_blame σ 1 (vI σ 1 5))
theorem l_X5_w {ad : Nat → Nat} {T ln : Nat} (hT : la T = (7, 0)) (hln : ln ≤ 400) {sc : Int32} : ∀ (k i : Nat) (σ : sS), vI σ 1 6 = nI ln → uok σ T → i + k = ln → ab_E (sR ad) mX5_readWord 4 2 [(3, .int (nI i)), (0, .ref (ad 3)), (1, .ref (ad T)), (2, .int sc)] [] σ (fun r9 σ' => r9 = some (.int (d_w T sc k i σ).1) ∧ σ' = (d_w T sc k i σ).2) := by
  intro k
  induction k with
  | zero =>
    intro i σ hl hu hi
    have hc : vI σ 1 6 ≤ nI i := by rw [hl]; exact nI_le (by omega) (by omega)
    refine r_iload_n dX5_readWord_2 0 rfl ?_
    refine r_aload_n dX5_readWord_3 1 rfl ?_
    refine s_getR (b := 1) ok_X5 dX5_readWord_4 (k := 0) (by decide) fl_X5_35 rfl rfl rfl ?_
    refine s_getI ok_X9 dX5_readWord_7 (k := 6) (by decide) fl_X5_116 rfl rfl ?_
    refine r_icmp_ge (t := 106) dX5_readWord_10 (by decide) (fun _ => ?_) (fun hh => absurd hc hh)
    refine r_iconst (v := 1) dX5_readWord_106 (by decide) ?_
    refine r_zret rfl (by decide) dX5_readWord_107 ?_
    exact ⟨rfl, rfl⟩
  | succ k ih =>
    intro i σ hl hu hi
    have hc : ¬ vI σ 1 6 ≤ nI i := by rw [hl]; exact nI_ge (by omega) (by omega)
    refine r_iload_n dX5_readWord_2 0 rfl ?_
    refine r_aload_n dX5_readWord_3 1 rfl ?_
    refine s_getR (b := 1) ok_X5 dX5_readWord_4 (k := 0) (by decide) fl_X5_35 rfl rfl rfl ?_
    refine s_getI ok_X9 dX5_readWord_7 (k := 6) (by decide) fl_X5_116 rfl rfl ?_
    refine r_icmp_ge (t := 106) dX5_readWord_10 (by decide) (fun hh => absurd hh hc) (fun _ => ?_)
    refine r_aload_n dX5_readWord_13 1 rfl ?_
    refine s_getR (b := 1) ok_X5 dX5_readWord_14 (k := 0) (by decide) fl_X5_35 rfl rfl rfl ?_
    refine r_aload_n dX5_readWord_17 1 rfl ?_
    refine s_getR (b := 1) ok_X5 dX5_readWord_18 (k := 0) (by decide) fl_X5_35 rfl rfl rfl ?_
    refine s_getI ok_X9 dX5_readWord_21 (k := 5) (by decide) fl_X5_59 rfl rfl ?_
    refine r_iload_n dX5_readWord_24 0 rfl ?_
    refine r_iadd dX5_readWord_25 ?_
    refine x_callV (Y := mX9_byteAt) (d' := 2) dX5_readWord_26 ml_X5_123 yv_X9_byteAt (by omega) rfl rfl (by simp [Value.category]) (sR_is rfl rfl) (c_X9_byteAt σ ((vI σ 1 5) + (nI i))) ?_
    refine r_bipush (v := 97) dX5_readWord_29 (by decide) ?_
    refine r_isub dX5_readWord_31 ?_
    refine r_iload_n dX5_readWord_32 3 rfl ?_
    refine r_icmp_lt (t := 52) dX5_readWord_33 (by decide) (fun c1 => ?_) (fun c1 => ?_)
    · have c1 : ((t_by σ ((vI σ 1 5) + (nI i))) - 97) < sc := c1
      refine r_aload_n dX5_readWord_52 2 rfl ?_
      refine s_getU dX5_readWord_53 fl_X5_156 hT ?_
      refine r_bipush (v := 10) dX5_readWord_56 (by decide) ?_
      refine r_icmp_lt (t := 77) dX5_readWord_58 (by decide) (fun c2 => ?_) (fun c2 => ?_)
      · have c2 : (vU σ T) < 10 := c2
        refine r_aload_n dX5_readWord_77 2 rfl ?_
        refine r_aload_n dX5_readWord_78 1 rfl ?_
        refine s_getR (b := 1) ok_X5 dX5_readWord_79 (k := 0) (by decide) fl_X5_35 rfl rfl rfl ?_
        refine r_aload_n dX5_readWord_82 1 rfl ?_
        refine s_getR (b := 1) ok_X5 dX5_readWord_83 (k := 0) (by decide) fl_X5_35 rfl rfl rfl ?_
        refine s_getI ok_X9 dX5_readWord_86 (k := 5) (by decide) fl_X5_59 rfl rfl ?_
        refine r_iload_n dX5_readWord_89 0 rfl ?_
        refine r_iadd dX5_readWord_90 ?_
        refine x_callV (Y := mX9_byteAt) (d' := 2) dX5_readWord_91 ml_X5_123 yv_X9_byteAt (by omega) rfl rfl (by simp [Value.category]) (sR_is rfl rfl) (c_X9_byteAt σ ((vI σ 1 5) + (nI i))) ?_
        refine r_bipush (v := 97) dX5_readWord_94 (by decide) ?_
        refine r_isub dX5_readWord_96 ?_
        refine x_callV0 (Y := mX7_push) (d' := 3) dX5_readWord_97 ml_X5_163 yv_X7_push (by omega) rfl rfl (by simp [Value.category]) (sR_isR hT) (c_pushU hT hu ((t_by σ ((vI σ 1 5) + (nI i))) - 97)) ?_
        refine r_iinc (v := (nI i) + 1) (lo' := [(3, .int ((nI i) + 1)), (0, .ref (ad 3)), (1, .ref (ad T)), (2, .int sc)]) dX5_readWord_100 0 rfl rfl (by decide) rfl ?_
        refine r_goto (t := 2) dX5_readWord_103 (by decide) ?_
        rw [nI_1, d_w, if_pos c1, if_pos c2]
        exact ab_E.lo [0, 1, 2, 3] rfl (ih (i + 1) _ ((congrFun (rq_I (la_nq (a := 1) rfl hT (by decide))) 6).trans hl) (hu.push _) (by omega))
      · have c2 : ¬ ((vU σ T) < 10) := c2
        refine r_aload_n dX5_readWord_61 1 rfl ?_
        refine s_getR (b := 1) ok_X5 dX5_readWord_62 (k := 0) (by decide) fl_X5_35 rfl rfl rfl ?_
        refine r_iconst (v := 4) dX5_readWord_65 (by decide) ?_
        refine r_aload_n dX5_readWord_66 1 rfl ?_
        refine s_getR (b := 1) ok_X5 dX5_readWord_67 (k := 0) (by decide) fl_X5_35 rfl rfl rfl ?_
        refine s_getI ok_X9 dX5_readWord_70 (k := 5) (by decide) fl_X5_59 rfl rfl ?_
        refine x_callV (Y := mX9_blame) (d' := 1) dX5_readWord_73 ml_X5_62 yv_X9_blame (by omega) rfl rfl (by simp [Value.category]) (sR_is rfl rfl) (c_X9_blame σ 4 (vI σ 1 5)) ?_
        refine r_zret rfl (by decide) dX5_readWord_76 ?_
        rw [d_w, if_pos c1, if_neg c2]; exact ⟨rfl, rfl⟩
    · have c1 : ¬ (((t_by σ ((vI σ 1 5) + (nI i))) - 97) < sc) := c1
      refine r_aload_n dX5_readWord_36 1 rfl ?_
      refine s_getR (b := 1) ok_X5 dX5_readWord_37 (k := 0) (by decide) fl_X5_35 rfl rfl rfl ?_
      refine r_iconst (v := 1) dX5_readWord_40 (by decide) ?_
      refine r_aload_n dX5_readWord_41 1 rfl ?_
      refine s_getR (b := 1) ok_X5 dX5_readWord_42 (k := 0) (by decide) fl_X5_35 rfl rfl rfl ?_
      refine s_getI ok_X9 dX5_readWord_45 (k := 5) (by decide) fl_X5_59 rfl rfl ?_
      refine x_callV (Y := mX9_blame) (d' := 1) dX5_readWord_48 ml_X5_62 yv_X9_blame (by omega) rfl rfl (by simp [Value.category]) (sR_is rfl rfl) (c_X9_blame σ 1 (vI σ 1 5)) ?_
      refine r_zret rfl (by decide) dX5_readWord_51 ?_
      rw [d_w, if_neg c1]; exact ⟨rfl, rfl⟩
theorem c_X5_readWord {ad : Nat → Nat} (σ : sS) {T ln : Nat} (hT : la T = (7, 0)) (hln : ln ≤ 400) (hl : vI σ 1 6 = nI ln) (hu : uok σ T) (sc : Int32) : ab_X (sR ad) 4 mX5_readWord [.ref (ad 3), .ref (ad T), .int sc] σ (some (.int (d_w T sc ln 0 σ).1)) (d_w T sc ln 0 σ).2 := by
  refine ab_X.of (by decide) (Nat.le_of_ble_eq_true rfl) ?_
  refine r_iconst (v := 0) dX5_readWord_0 (by decide) ?_
  refine r_istore_n (lo' := [(3, .int 0), (0, .ref (ad 3)), (1, .ref (ad T)), (2, .int sc)]) dX5_readWord_1 (by decide) rfl ?_
  exact ab_E.lo [0, 1, 2, 3] rfl (l_X5_w hT hln ln 0 σ hl hu (by omega))
