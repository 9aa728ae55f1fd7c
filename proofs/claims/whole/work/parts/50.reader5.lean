/-! Reader.readState -/
theorem dr_la : ∀ M, M < 3 → la (9 + M) = (1, 0) := by decide +kernel
def d_sa (τ : sS) (a : Nat) (n b : Int32) : Int32 := if n = -1 then 0 else if b = 0 then (if q_in n (vI τ a 4) = 0 then 1 else 0) else (if q_in n (vI τ a 3) = 0 then 1 else 0)
def d_ss (τ : sS) (a : Nat) (n b w : Int32) : sS := if n = -1 then τ else if b = 0 then (if q_in n (vI τ a 4) = 0 then uI τ a 4 (vI τ a 4 ||| ((1 : Int32) <<< (n &&& 31))) else t_blame τ 3 w) else (if q_in n (vI τ a 3) = 0 then uI τ a 3 (vI τ a 3 ||| ((1 : Int32) <<< (n &&& 31))) else t_blame τ 3 w)
theorem c_X5_readStateN {ad : Nat → Nat} (σ : sS) (hM : vI σ 3 6 = 0) (w b : Int32) : ab_X (sR ad) 5 mX5_readState [.ref (ad 3), .int w, .int b] σ (some (.int 0)) (t_blame σ 5 w) := by
  refine ab_X.of (by decide) (Nat.le_of_ble_eq_true rfl) ?_
  refine r_aload_n dX5_readState_0 0 rfl ?_
  refine x_callV (Y := mX5_latest) (d' := 1) dX5_readState_1 ml_X5_126 yv_X5_latest (by omega) rfl rfl (by simp [Value.category]) (sR_is rfl rfl) (c_X5_latestN σ hM) ?_
  refine r_astore_nN (lo' := [(3, .null), (0, .ref (ad 3)), (1, .int w), (2, .int b)]) dX5_readState_4 (by decide) rfl ?_
  refine r_aload_nN dX5_readState_5 0 rfl ?_
  refine r_ifnonnullN dX5_readState_6 ?_
  refine r_aload_n dX5_readState_9 1 rfl ?_
  refine s_getR (b := 1) ok_X5 dX5_readState_10 (k := 0) (by decide) fl_X5_35 rfl rfl rfl ?_
  refine r_iconst (v := 5) dX5_readState_13 (by decide) ?_
  refine r_iload_n dX5_readState_14 2 rfl ?_
  refine x_callV (Y := mX9_blame) (d' := 1) dX5_readState_15 ml_X5_62 yv_X9_blame (by omega) rfl rfl (by simp [Value.category]) (sR_is rfl rfl) (c_X9_blame σ 5 w) ?_
  refine r_zret rfl (by decide) dX5_readState_18 ?_
  exact ⟨rfl, rfl⟩
theorem c_X5_readState {ad : Nat → Nat} (σ : sS) {e p : Nat} (hE : vI σ 1 1 = nI e) (he : e ≤ 400) (hP : vI σ 1 2 = nI p) (hp : p ≤ e) {M : Nat} (hM : vI σ 3 6 = nI (M + 1)) (hM3 : M < 3) (w b : Int32) : ab_X (sR ad) 5 mX5_readState [.ref (ad 3), .int w, .int b] σ (some (.int (d_sa (t_wz (t_step σ e p) 0 (vI σ (9 + M) 1 - 1)) (9 + M) (t_wa (t_step σ e p) 0 (vI σ (9 + M) 1 - 1)) b))) (d_ss (t_wz (t_step σ e p) 0 (vI σ (9 + M) 1 - 1)) (9 + M) (t_wa (t_step σ e p) 0 (vI σ (9 + M) 1 - 1)) b w) := by
  refine ab_X.of (by decide) (Nat.le_of_ble_eq_true rfl) ?_
  refine r_aload_n dX5_readState_0 0 rfl ?_
  refine x_callV (Y := mX5_latest) (d' := 1) dX5_readState_1 ml_X5_126 yv_X5_latest (by omega) rfl rfl (by simp [Value.category]) (sR_is rfl rfl) (c_X5_latest σ hM hM3) ?_
  refine r_astore_n (lo' := [(3, .ref (ad (9 + M))), (0, .ref (ad 3)), (1, .int w), (2, .int b)]) dX5_readState_4 (by decide) rfl ?_
  refine r_aload_n dX5_readState_5 0 rfl ?_
  refine r_ifnonnull (t := 19) dX5_readState_6 (by decide) ?_
  refine r_aload_n dX5_readState_19 1 rfl ?_
  refine s_getR (b := 1) ok_X5 dX5_readState_20 (k := 0) (by decide) fl_X5_35 rfl rfl rfl ?_
  refine r_iconst (v := 0) dX5_readState_23 (by decide) ?_
  refine r_aload_n dX5_readState_24 0 rfl ?_
  refine s_getI ok_X0 dX5_readState_25 (k := 1) (by decide) fl_X5_130 (dr_la M hM3) rfl ?_
  refine r_iconst (v := 1) dX5_readState_28 (by decide) ?_
  refine r_isub dX5_readState_29 ?_
  refine x_callV (Y := mX9_whole) (d' := 4) dX5_readState_30 ml_X5_94 yv_X9_whole (by omega) rfl rfl (by simp [Value.category]) (sR_is rfl rfl) (c_X9_whole σ hE he hP hp 0 ((vI σ (9 + M) 1) - 1)) ?_
  generalize t_wz (t_step σ e p) 0 (vI σ (9 + M) 1 - 1) = τ
  generalize t_wa (t_step σ e p) 0 (vI σ (9 + M) 1 - 1) = n
  refine r_istore (lo' := [(4, .int n), (3, .ref (ad (9 + M))), (0, .ref (ad 3)), (1, .int w), (2, .int b)]) dX5_readState_33 (by decide) rfl ?_
  refine r_iload dX5_readState_35 0 rfl ?_
  refine r_iconst (v := (-1)) dX5_readState_37 (by decide) ?_
  refine r_icmp_ne (t := 43) dX5_readState_38 (by decide) (fun c1 => ?_) (fun c1 => ?_)
  · have c1 : ¬ (n = ((-1))) := c1
    refine r_iload dX5_readState_43 0 rfl ?_
    refine r_iload_n dX5_readState_45 4 rfl ?_
    refine r_if_eq (t := 56) dX5_readState_46 (by decide) (fun c2 => ?_) (fun c2 => ?_)
    · have c2 : b = 0 := c2
      refine r_aload_n dX5_readState_56 1 rfl ?_
      refine s_getI ok_X0 dX5_readState_57 (k := 4) (by decide) fl_X5_135 (dr_la M hM3) rfl ?_
      refine x_callSN (Y := mX11_isIn) (d' := 1) dX5_readState_60 mn_X5_138 ys_X11_isIn (by omega) rfl rfl (by simp [Value.category]) (c_X11_isIn τ n (vI τ (9 + M) 4)) ?_
      refine r_if_eq (t := 76) dX5_readState_63 (by decide) (fun c3 => ?_) (fun c3 => ?_)
      · have c3 : (q_in n (vI τ (9 + M) 4)) = 0 := c3
        refine r_iload_n dX5_readState_76 4 rfl ?_
        refine r_if_eq (t := 96) dX5_readState_77 (by decide) (fun _ => ?_) (fun hh => absurd c2 hh)
        refine r_aload_n dX5_readState_96 1 rfl ?_
        refine r_dup dX5_readState_97 rfl ?_
        refine s_getI ok_X0 dX5_readState_98 (k := 4) (by decide) fl_X5_135 (dr_la M hM3) rfl ?_
        refine r_iconst (v := 1) dX5_readState_101 (by decide) ?_
        refine r_iload dX5_readState_102 0 rfl ?_
        refine r_ishl dX5_readState_104 ?_
        refine r_ior dX5_readState_105 ?_
        refine s_putI ok_X0 dX5_readState_106 (k := 4) (by decide) fl_X5_135 rfl rfl rfl (dr_la M hM3) rfl ?_
        refine r_iconst (v := 1) dX5_readState_109 (by decide) ?_
        refine r_zret rfl (by decide) dX5_readState_110 ?_
        exact ⟨by unfold d_sa; rw [if_neg c1, if_pos c2, if_pos c3], by unfold d_ss; rw [if_neg c1, if_pos c2, if_pos c3]⟩
      · have c3 : ¬ ((q_in n (vI τ (9 + M) 4)) = 0) := c3
        refine r_aload_n dX5_readState_66 2 rfl ?_
        refine s_getR (b := 1) ok_X5 dX5_readState_67 (k := 0) (by decide) fl_X5_35 rfl rfl rfl ?_
        refine r_iconst (v := 3) dX5_readState_70 (by decide) ?_
        refine r_iload_n dX5_readState_71 3 rfl ?_
        refine x_callV (Y := mX9_blame) (d' := 1) dX5_readState_72 ml_X5_62 yv_X9_blame (by omega) rfl rfl (by simp [Value.category]) (sR_is rfl rfl) (c_X9_blame τ 3 w) ?_
        refine r_zret rfl (by decide) dX5_readState_75 ?_
        exact ⟨by unfold d_sa; rw [if_neg c1, if_pos c2, if_neg c3], by unfold d_ss; rw [if_neg c1, if_pos c2, if_neg c3]⟩
    · have c2 : ¬ (b = 0) := c2
      refine r_aload_n dX5_readState_49 1 rfl ?_
      refine s_getI ok_X0 dX5_readState_50 (k := 3) (by decide) fl_X5_132 (dr_la M hM3) rfl ?_
      refine r_goto (t := 60) dX5_readState_53 (by decide) ?_
      refine x_callSN (Y := mX11_isIn) (d' := 1) dX5_readState_60 mn_X5_138 ys_X11_isIn (by omega) rfl rfl (by simp [Value.category]) (c_X11_isIn τ n (vI τ (9 + M) 3)) ?_
      refine r_if_eq (t := 76) dX5_readState_63 (by decide) (fun c4 => ?_) (fun c4 => ?_)
      · have c4 : (q_in n (vI τ (9 + M) 3)) = 0 := c4
        refine r_iload_n dX5_readState_76 4 rfl ?_
        refine r_if_eq (t := 96) dX5_readState_77 (by decide) (fun hh => absurd hh c2) (fun _ => ?_)
        refine r_aload_n dX5_readState_80 1 rfl ?_
        refine r_dup dX5_readState_81 rfl ?_
        refine s_getI ok_X0 dX5_readState_82 (k := 3) (by decide) fl_X5_132 (dr_la M hM3) rfl ?_
        refine r_iconst (v := 1) dX5_readState_85 (by decide) ?_
        refine r_iload dX5_readState_86 0 rfl ?_
        refine r_ishl dX5_readState_88 ?_
        refine r_ior dX5_readState_89 ?_
        refine s_putI ok_X0 dX5_readState_90 (k := 3) (by decide) fl_X5_132 rfl rfl rfl (dr_la M hM3) rfl ?_
        refine r_goto (t := 109) dX5_readState_93 (by decide) ?_
        refine r_iconst (v := 1) dX5_readState_109 (by decide) ?_
        refine r_zret rfl (by decide) dX5_readState_110 ?_
        exact ⟨by unfold d_sa; rw [if_neg c1, if_neg c2, if_pos c4], by unfold d_ss; rw [if_neg c1, if_neg c2, if_pos c4]⟩
      · have c4 : ¬ ((q_in n (vI τ (9 + M) 3)) = 0) := c4
        refine r_aload_n dX5_readState_66 2 rfl ?_
        refine s_getR (b := 1) ok_X5 dX5_readState_67 (k := 0) (by decide) fl_X5_35 rfl rfl rfl ?_
        refine r_iconst (v := 3) dX5_readState_70 (by decide) ?_
        refine r_iload_n dX5_readState_71 3 rfl ?_
        refine x_callV (Y := mX9_blame) (d' := 1) dX5_readState_72 ml_X5_62 yv_X9_blame (by omega) rfl rfl (by simp [Value.category]) (sR_is rfl rfl) (c_X9_blame τ 3 w) ?_
        refine r_zret rfl (by decide) dX5_readState_75 ?_
        exact ⟨by unfold d_sa; rw [if_neg c1, if_neg c2, if_neg c4], by unfold d_ss; rw [if_neg c1, if_neg c2, if_neg c4]⟩
  · have c1 : n = ((-1)) := c1
    refine r_iconst (v := 0) dX5_readState_41 (by decide) ?_
    refine r_zret rfl (by decide) dX5_readState_42 ?_
    exact ⟨by unfold d_sa; rw [if_pos c1], by unfold d_ss; rw [if_pos c1]⟩
