/-! Tape.whole; a String constant is laid upon the stack -/
def t_vl (τ : sS) : Int32 := t_by τ (vI τ 1 5) - 48
def t_wa (τ : sS) (l m : Int32) : Int32 := if vI τ 1 4 = 3 then (if t_vl τ < l then -1 else if t_vl τ ≤ m then t_vl τ else -1) else -1
def t_wz (τ : sS) (l m : Int32) : sS := if vI τ 1 4 = 3 then (if t_vl τ < l then t_blame τ 2 (vI τ 1 5) else if t_vl τ ≤ m then τ else t_blame τ 2 (vI τ 1 5)) else t_blame τ 1 (vI τ 1 5)
theorem c_X9_whole {ad : Nat → Nat} (σ : sS) {e p : Nat} (hE : vI σ 1 1 = nI e) (he : e ≤ 400) (hP : vI σ 1 2 = nI p) (hp : p ≤ e) (l m : Int32) : ab_X (sR ad) 4 mX9_whole [.ref (ad 1), .int l, .int m] σ (some (.int (t_wa (t_step σ e p) l m))) (t_wz (t_step σ e p) l m) := by
  refine ab_X.of (by decide) (Nat.le_of_ble_eq_true rfl) ?_
  refine r_aload_n dX9_whole_0 0 rfl ?_
  refine x_callV0 (Y := mX9_step) (d' := 3) dX9_whole_1 ml_X9_75 yv_X9_step (by omega) rfl rfl (by simp [Value.category]) (sR_is rfl rfl) (c_X9_step σ hE he hP hp) ?_
  generalize t_step σ e p = τ
  refine r_aload_n dX9_whole_4 0 rfl ?_
  refine s_getI ok_X9 dX9_whole_5 (k := 4) (by decide) fl_X9_53 rfl rfl ?_
  refine r_iconst (v := 3) dX9_whole_8 (by decide) ?_
  refine r_icmp_eq (t := 24) dX9_whole_9 (by decide) (fun c1 => ?_) (fun c1 => ?_)
  · have c1 : (vI τ 1 4) = 3 := c1
    refine r_aload_n dX9_whole_24 0 rfl ?_
    refine r_aload_n dX9_whole_25 0 rfl ?_
    refine s_getI ok_X9 dX9_whole_26 (k := 5) (by decide) fl_X9_44 rfl rfl ?_
    refine x_callV (Y := mX9_byteAt) (d' := 2) dX9_whole_29 ml_X9_47 yv_X9_byteAt (by omega) rfl rfl (by simp [Value.category]) (sR_is rfl rfl) (c_X9_byteAt τ (vI τ 1 5)) ?_
    refine r_bipush (v := 48) dX9_whole_32 (by decide) ?_
    refine r_isub dX9_whole_34 ?_
    refine r_istore_n (lo' := [(3, .int ((t_by τ (vI τ 1 5)) - 48)), (0, .ref (ad 1)), (1, .int l), (2, .int m)]) dX9_whole_35 (by decide) rfl ?_
    refine r_iload_n dX9_whole_36 0 rfl ?_
    refine r_iload_n dX9_whole_37 2 rfl ?_
    refine r_icmp_lt (t := 46) dX9_whole_38 (by decide) (fun c2 => ?_) (fun c2 => ?_)
    · have c2 : ((t_by τ (vI τ 1 5)) - 48) < l := c2
      refine r_aload_n dX9_whole_46 1 rfl ?_
      refine r_iconst (v := 2) dX9_whole_47 (by decide) ?_
      refine r_aload_n dX9_whole_48 1 rfl ?_
      refine s_getI ok_X9 dX9_whole_49 (k := 5) (by decide) fl_X9_44 rfl rfl ?_
      refine x_callV (Y := mX9_blame) (d' := 1) dX9_whole_52 ml_X9_78 yv_X9_blame (by omega) rfl rfl (by simp [Value.category]) (sR_is rfl rfl) (c_X9_blame τ 2 (vI τ 1 5)) ?_
      refine r_pop dX9_whole_55 rfl ?_
      refine r_iconst (v := (-1)) dX9_whole_56 (by decide) ?_
      refine r_iret rfl dX9_whole_57 ?_
      exact ⟨by unfold t_wa t_vl; rw [if_pos c1, if_pos c2], by unfold t_wz t_vl; rw [if_pos c1, if_pos c2]⟩
    · have c2 : ¬ (((t_by τ (vI τ 1 5)) - 48) < l) := c2
      refine r_iload_n dX9_whole_41 0 rfl ?_
      refine r_iload_n dX9_whole_42 3 rfl ?_
      refine r_icmp_le (t := 58) dX9_whole_43 (by decide) (fun c3 => ?_) (fun c3 => ?_)
      · have c3 : ((t_by τ (vI τ 1 5)) - 48) ≤ m := c3
        refine r_iload_n dX9_whole_58 0 rfl ?_
        refine r_iret rfl dX9_whole_59 ?_
        exact ⟨by unfold t_wa t_vl; rw [if_pos c1, if_neg c2, if_pos c3], by unfold t_wz t_vl; rw [if_pos c1, if_neg c2, if_pos c3]⟩
      · have c3 : ¬ (((t_by τ (vI τ 1 5)) - 48) ≤ m) := c3
        refine r_aload_n dX9_whole_46 1 rfl ?_
        refine r_iconst (v := 2) dX9_whole_47 (by decide) ?_
        refine r_aload_n dX9_whole_48 1 rfl ?_
        refine s_getI ok_X9 dX9_whole_49 (k := 5) (by decide) fl_X9_44 rfl rfl ?_
        refine x_callV (Y := mX9_blame) (d' := 1) dX9_whole_52 ml_X9_78 yv_X9_blame (by omega) rfl rfl (by simp [Value.category]) (sR_is rfl rfl) (c_X9_blame τ 2 (vI τ 1 5)) ?_
        refine r_pop dX9_whole_55 rfl ?_
        refine r_iconst (v := (-1)) dX9_whole_56 (by decide) ?_
        refine r_iret rfl dX9_whole_57 ?_
        exact ⟨by unfold t_wa t_vl; rw [if_pos c1, if_neg c2, if_neg c3], by unfold t_wz t_vl; rw [if_pos c1, if_neg c2, if_neg c3]⟩
  · have c1 : ¬ ((vI τ 1 4) = 3) := c1
    refine r_aload_n dX9_whole_12 0 rfl ?_
    refine r_iconst (v := 1) dX9_whole_13 (by decide) ?_
    refine r_aload_n dX9_whole_14 0 rfl ?_
    refine s_getI ok_X9 dX9_whole_15 (k := 5) (by decide) fl_X9_44 rfl rfl ?_
    refine x_callV (Y := mX9_blame) (d' := 1) dX9_whole_18 ml_X9_78 yv_X9_blame (by omega) rfl rfl (by simp [Value.category]) (sR_is rfl rfl) (c_X9_blame τ 1 (vI τ 1 5)) ?_
    refine r_pop dX9_whole_21 rfl ?_
    refine r_iconst (v := (-1)) dX9_whole_22 (by decide) ?_
    refine r_iret rfl dX9_whole_23 ?_
    exact ⟨by unfold t_wa t_vl; rw [if_neg c1], by unfold t_wz t_vl; rw [if_neg c1]⟩
