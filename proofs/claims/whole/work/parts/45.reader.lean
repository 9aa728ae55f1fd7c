/-! Reader -/
theorem sm_X5_66 : (("OddRanks$Reader" : String), 66, "letters", 0) ∈ ab_sr := by simp [ab_sr]
theorem sm_X5_76 : (("OddRanks$Reader" : String), 76, "auto", 1) ∈ ab_sr := by simp [ab_sr]
theorem sm_X5_101 : (("OddRanks$Reader" : String), 101, "states", 2) ∈ ab_sr := by simp [ab_sr]
theorem sm_X5_81 : (("OddRanks$Reader" : String), 81, "start", 3) ∈ ab_sr := by simp [ab_sr]
theorem sm_X5_87 : (("OddRanks$Reader" : String), 87, "final", 4) ∈ ab_sr := by simp [ab_sr]
theorem sm_X5_89 : (("OddRanks$Reader" : String), 89, "edge", 5) ∈ ab_sr := by simp [ab_sr]
theorem sm_X12_227 : (("OddRanksModel" : String), 227, "letters", 0) ∈ ab_sr := by simp [ab_sr]
theorem sm_X12_229 : (("OddRanksModel" : String), 229, "auto", 1) ∈ ab_sr := by simp [ab_sr]
theorem sm_X12_231 : (("OddRanksModel" : String), 231, "states", 2) ∈ ab_sr := by simp [ab_sr]
theorem sm_X12_232 : (("OddRanksModel" : String), 232, "start", 3) ∈ ab_sr := by simp [ab_sr]
theorem sm_X12_233 : (("OddRanksModel" : String), 233, "final", 4) ∈ ab_sr := by simp [ab_sr]
theorem sm_X12_235 : (("OddRanksModel" : String), 235, "edge", 5) ∈ ab_sr := by simp [ab_sr]
def d_kp (σ : sS) : Int32 := if t_sp σ 0 = 0 then (if t_sp σ 1 = 0 then (if t_sp σ 2 = 0 then (if t_sp σ 3 = 0 then (if t_sp σ 4 = 0 then (if t_sp σ 5 = 0 then 0 else 1) else 1) else 1) else 1) else 1) else 1
def d_la (σ : sS) (e p : Nat) : Int32 := if vI σ 3 7 ≤ 0 then (if t_wa (t_step σ e p) 1 3 = -1 then 0 else 1) else 0
def d_ls (σ : sS) (e p : Nat) (w : Int32) : sS := if vI σ 3 7 ≤ 0 then (if t_wa (t_step σ e p) 1 3 = -1 then t_wz (t_step σ e p) 1 3 else uI (t_wz (t_step σ e p) 1 3) 3 7 (t_wa (t_step σ e p) 1 3)) else t_blame σ 3 w
set_option maxRecDepth 4000 in
theorem c_X5_isKept {ad : Nat → Nat} (σ : sS)   : ab_X (sR ad) 6 mX5_isKept [.ref (ad 3)] σ (some (.int (d_kp σ))) σ := by
  refine ab_X.of (by decide) (Nat.le_of_ble_eq_true rfl) ?_
  refine r_aload_n dX5_isKept_0 0 rfl ?_
  refine s_getR (b := 1) ok_X5 dX5_isKept_1 (k := 0) (by decide) fl_X5_35 rfl rfl rfl ?_
  refine s_ldcS dX5_isKept_4 sm_X5_66 ?_
  refine x_callV (Y := mX9_spells) (d' := 5) dX5_isKept_6 ml_X5_68 yv_X9_spells (by omega) rfl rfl (by simp [Value.category]) (sR_is rfl rfl) (c_X9_spells σ (i := 0) (by decide)) ?_
  refine r_if_ne (t := 72) dX5_isKept_9 (by decide) (fun c1 => ?_) (fun c1 => ?_)
  · have c1 : ¬ ((t_sp σ 0) = 0) := c1
    refine r_iconst (v := 1) dX5_isKept_72 (by decide) ?_
    refine r_goto (t := 77) dX5_isKept_73 (by decide) ?_
    refine r_zret rfl (by decide) dX5_isKept_77 ?_
    exact ⟨by unfold d_kp; rw [if_neg c1], rfl⟩
  · have c1 : (t_sp σ 0) = 0 := c1
    refine r_aload_n dX5_isKept_12 0 rfl ?_
    refine s_getR (b := 1) ok_X5 dX5_isKept_13 (k := 0) (by decide) fl_X5_35 rfl rfl rfl ?_
    refine s_ldcS dX5_isKept_16 sm_X5_76 ?_
    refine x_callV (Y := mX9_spells) (d' := 5) dX5_isKept_18 ml_X5_68 yv_X9_spells (by omega) rfl rfl (by simp [Value.category]) (sR_is rfl rfl) (c_X9_spells σ (i := 1) (by decide)) ?_
    refine r_if_ne (t := 72) dX5_isKept_21 (by decide) (fun c2 => ?_) (fun c2 => ?_)
    · have c2 : ¬ ((t_sp σ 1) = 0) := c2
      refine r_iconst (v := 1) dX5_isKept_72 (by decide) ?_
      refine r_goto (t := 77) dX5_isKept_73 (by decide) ?_
      refine r_zret rfl (by decide) dX5_isKept_77 ?_
      exact ⟨by unfold d_kp; rw [if_pos c1, if_neg c2], rfl⟩
    · have c2 : (t_sp σ 1) = 0 := c2
      refine r_aload_n dX5_isKept_24 0 rfl ?_
      refine s_getR (b := 1) ok_X5 dX5_isKept_25 (k := 0) (by decide) fl_X5_35 rfl rfl rfl ?_
      refine s_ldcS dX5_isKept_28 sm_X5_101 ?_
      refine x_callV (Y := mX9_spells) (d' := 5) dX5_isKept_30 ml_X5_68 yv_X9_spells (by omega) rfl rfl (by simp [Value.category]) (sR_is rfl rfl) (c_X9_spells σ (i := 2) (by decide)) ?_
      refine r_if_ne (t := 72) dX5_isKept_33 (by decide) (fun c3 => ?_) (fun c3 => ?_)
      · have c3 : ¬ ((t_sp σ 2) = 0) := c3
        refine r_iconst (v := 1) dX5_isKept_72 (by decide) ?_
        refine r_goto (t := 77) dX5_isKept_73 (by decide) ?_
        refine r_zret rfl (by decide) dX5_isKept_77 ?_
        exact ⟨by unfold d_kp; rw [if_pos c1, if_pos c2, if_neg c3], rfl⟩
      · have c3 : (t_sp σ 2) = 0 := c3
        refine r_aload_n dX5_isKept_36 0 rfl ?_
        refine s_getR (b := 1) ok_X5 dX5_isKept_37 (k := 0) (by decide) fl_X5_35 rfl rfl rfl ?_
        refine s_ldcS dX5_isKept_40 sm_X5_81 ?_
        refine x_callV (Y := mX9_spells) (d' := 5) dX5_isKept_42 ml_X5_68 yv_X9_spells (by omega) rfl rfl (by simp [Value.category]) (sR_is rfl rfl) (c_X9_spells σ (i := 3) (by decide)) ?_
        refine r_if_ne (t := 72) dX5_isKept_45 (by decide) (fun c4 => ?_) (fun c4 => ?_)
        · have c4 : ¬ ((t_sp σ 3) = 0) := c4
          refine r_iconst (v := 1) dX5_isKept_72 (by decide) ?_
          refine r_goto (t := 77) dX5_isKept_73 (by decide) ?_
          refine r_zret rfl (by decide) dX5_isKept_77 ?_
          exact ⟨by unfold d_kp; rw [if_pos c1, if_pos c2, if_pos c3, if_neg c4], rfl⟩
        · have c4 : (t_sp σ 3) = 0 := c4
          refine r_aload_n dX5_isKept_48 0 rfl ?_
          refine s_getR (b := 1) ok_X5 dX5_isKept_49 (k := 0) (by decide) fl_X5_35 rfl rfl rfl ?_
          refine s_ldcS dX5_isKept_52 sm_X5_87 ?_
          refine x_callV (Y := mX9_spells) (d' := 5) dX5_isKept_54 ml_X5_68 yv_X9_spells (by omega) rfl rfl (by simp [Value.category]) (sR_is rfl rfl) (c_X9_spells σ (i := 4) (by decide)) ?_
          refine r_if_ne (t := 72) dX5_isKept_57 (by decide) (fun c5 => ?_) (fun c5 => ?_)
          · have c5 : ¬ ((t_sp σ 4) = 0) := c5
            refine r_iconst (v := 1) dX5_isKept_72 (by decide) ?_
            refine r_goto (t := 77) dX5_isKept_73 (by decide) ?_
            refine r_zret rfl (by decide) dX5_isKept_77 ?_
            exact ⟨by unfold d_kp; rw [if_pos c1, if_pos c2, if_pos c3, if_pos c4, if_neg c5], rfl⟩
          · have c5 : (t_sp σ 4) = 0 := c5
            refine r_aload_n dX5_isKept_60 0 rfl ?_
            refine s_getR (b := 1) ok_X5 dX5_isKept_61 (k := 0) (by decide) fl_X5_35 rfl rfl rfl ?_
            refine s_ldcS dX5_isKept_64 sm_X5_89 ?_
            refine x_callV (Y := mX9_spells) (d' := 5) dX5_isKept_66 ml_X5_68 yv_X9_spells (by omega) rfl rfl (by simp [Value.category]) (sR_is rfl rfl) (c_X9_spells σ (i := 5) (by decide)) ?_
            refine r_if_eq (t := 76) dX5_isKept_69 (by decide) (fun c6 => ?_) (fun c6 => ?_)
            · have c6 : (t_sp σ 5) = 0 := c6
              refine r_iconst (v := 0) dX5_isKept_76 (by decide) ?_
              refine r_zret rfl (by decide) dX5_isKept_77 ?_
              exact ⟨by unfold d_kp; rw [if_pos c1, if_pos c2, if_pos c3, if_pos c4, if_pos c5, if_pos c6], rfl⟩
            · have c6 : ¬ ((t_sp σ 5) = 0) := c6
              refine r_iconst (v := 1) dX5_isKept_72 (by decide) ?_
              refine r_goto (t := 77) dX5_isKept_73 (by decide) ?_
              refine r_zret rfl (by decide) dX5_isKept_77 ?_
              exact ⟨by unfold d_kp; rw [if_pos c1, if_pos c2, if_pos c3, if_pos c4, if_pos c5, if_neg c6], rfl⟩
set_option maxRecDepth 4000 in
theorem c_X5_readLetters {ad : Nat → Nat} (σ : sS) {e p : Nat} (hE : vI σ 1 1 = nI e) (he : e ≤ 400) (hP : vI σ 1 2 = nI p) (hp : p ≤ e) (w : Int32)  : ab_X (sR ad) 5 mX5_readLetters [.ref (ad 3), .int w] σ (some (.int (d_la σ e p))) (d_ls σ e p w) := by
  refine ab_X.of (by decide) (Nat.le_of_ble_eq_true rfl) ?_
  refine r_aload_n dX5_readLetters_0 0 rfl ?_
  refine s_getI ok_X5 dX5_readLetters_1 (k := 7) (by decide) fl_X5_44 rfl rfl ?_
  refine r_if_le (t := 17) dX5_readLetters_4 (by decide) (fun c1 => ?_) (fun c1 => ?_)
  · have c1 : (vI σ 3 7) ≤ 0 := c1
    refine r_aload_n dX5_readLetters_17 0 rfl ?_
    refine s_getR (b := 1) ok_X5 dX5_readLetters_18 (k := 0) (by decide) fl_X5_35 rfl rfl rfl ?_
    refine r_iconst (v := 1) dX5_readLetters_21 (by decide) ?_
    refine r_iconst (v := 3) dX5_readLetters_22 (by decide) ?_
    refine x_callV (Y := mX9_whole) (d' := 4) dX5_readLetters_23 ml_X5_94 yv_X9_whole (by omega) rfl rfl (by simp [Value.category]) (sR_is rfl rfl) (c_X9_whole σ hE he hP hp 1 3) ?_
    refine r_istore_n (lo' := [(2, .int (t_wa (t_step σ e p) 1 3)), (0, .ref (ad 3)), (1, .int w)]) dX5_readLetters_26 (by decide) rfl ?_
    refine r_iload_n dX5_readLetters_27 0 rfl ?_
    refine r_iconst (v := (-1)) dX5_readLetters_28 (by decide) ?_
    refine r_icmp_ne (t := 34) dX5_readLetters_29 (by decide) (fun c2 => ?_) (fun c2 => ?_)
    · have c2 : ¬ ((t_wa (t_step σ e p) 1 3) = ((-1))) := c2
      refine r_aload_n dX5_readLetters_34 1 rfl ?_
      refine r_iload_n dX5_readLetters_35 0 rfl ?_
      refine s_putI ok_X5 dX5_readLetters_36 (k := 7) (by decide) fl_X5_44 rfl rfl rfl rfl rfl ?_
      refine r_iconst (v := 1) dX5_readLetters_39 (by decide) ?_
      refine r_zret rfl (by decide) dX5_readLetters_40 ?_
      exact ⟨by unfold d_la; rw [if_pos c1, if_neg c2], by unfold d_ls; rw [if_pos c1, if_neg c2]⟩
    · have c2 : (t_wa (t_step σ e p) 1 3) = ((-1)) := c2
      refine r_iconst (v := 0) dX5_readLetters_32 (by decide) ?_
      refine r_zret rfl (by decide) dX5_readLetters_33 ?_
      exact ⟨by unfold d_la; rw [if_pos c1, if_pos c2], by unfold d_ls; rw [if_pos c1, if_pos c2]⟩
  · have c1 : ¬ ((vI σ 3 7) ≤ 0) := c1
    refine r_aload_n dX5_readLetters_7 0 rfl ?_
    refine s_getR (b := 1) ok_X5 dX5_readLetters_8 (k := 0) (by decide) fl_X5_35 rfl rfl rfl ?_
    refine r_iconst (v := 3) dX5_readLetters_11 (by decide) ?_
    refine r_iload_n dX5_readLetters_12 1 rfl ?_
    refine x_callV (Y := mX9_blame) (d' := 1) dX5_readLetters_13 ml_X5_62 yv_X9_blame (by omega) rfl rfl (by simp [Value.category]) (sR_is rfl rfl) (c_X9_blame σ 3 w) ?_
    refine r_zret rfl (by decide) dX5_readLetters_16 ?_
    exact ⟨by unfold d_la; rw [if_neg c1], by unfold d_ls; rw [if_neg c1]⟩
