/-! Threes: the graph; enter -/
def h_d (a c : Nat) (σ : sS) : Prop := vR σ 50 5 = some a ∧ vR σ 50 6 = some c
theorem h_d.of {a c : Nat} {σ τ : sS} (h : h_d a c σ) (e : τ.2.2.1 = σ.2.2.1) : h_d a c τ := by
  unfold h_d vR
  rw [e]
  exact h
theorem h_d.ap {a c r : Nat} {σ : sS} {i x : Int32} (h : h_d a c σ) : h_d a c (rp σ r i x) := h.of (by rw [rp_2])
theorem h_d.aI {a c r k : Nat} {σ : sS} {x : Int32} (h : h_d a c σ) : h_d a c (uI σ r k x) := h.of rfl
theorem h_d.az {a c r m : Nat} {σ : sS} (h : h_d a c σ) : h_d a c (rz σ r m) := h.of rx_L.2
theorem h_d.aq {a c r : Nat} {σ : sS} {x : Int32} (h : h_d a c σ) : h_d a c (rqu σ r x) := h.of rq_L.2
def h_co (t n m : Int32) : Int32 := (t * 300 + n) * 2 + m
def h_fn (a c : Nat) (σ : sS) (v s : Int32) : Int32 := bc (a_ar σ a (rg σ 52 v) s) * p_fn σ c (rg σ 53 v) s
def h_ca (a c N : Nat) (σ : sS) (v s i : Int32) : Int32 := if 0 < p_fn σ c (rg σ 53 v) s then h_co (a_gl (a_ar σ a (rg σ 52 v) s) (i / p_fn σ c (rg σ 53 v) s) N 0 0) (p_gl σ c (rg σ 53 v) s (i - i / p_fn σ c (rg σ 53 v) s * p_fn σ c (rg σ 53 v) s)) (rg σ 55 v) else -1
def h_V (σ : sS) (_ : List Int32) : Int32 := vI σ 50 8
def h_L (a : Nat) (σ : sS) (_ : List Int32) : Int32 := vI σ a 2
def h_F (σ : sS) (as : List Int32) : Int32 := if vI σ 50 7 ≤ as.getD 0 0 then 0 else 1
def h_M (σ : sS) (as : List Int32) : Int32 := if rg σ 54 (as.getD 0 0) = 0 then 0 else 1
def h_N (a c : Nat) (σ : sS) (as : List Int32) : Int32 := h_fn a c σ (as.getD 0 0) (as.getD 1 0)
def h_E (a c N : Nat) (σ : sS) (as : List Int32) : Int32 := rg σ 51 (h_ca a c N σ (as.getD 0 0) (as.getD 1 0) (as.getD 2 0)) - 1
theorem i_gt0 {x : Int32} (h : 0 < x) : ¬ x = 0 := fun e => by rw [e] at h; exact absurd h (by decide)
set_option maxRecDepth 4000 in
theorem c_X10_codeOf {ad : Nat → Nat} (σ : sS) (t n m : Int32)  : ab_X (sR ad) 1 mX10_codeOf [.int t, .int n, .int m] σ (some (.int (h_co t n m))) σ := by
  refine ab_X.of (by decide) (Nat.le_of_ble_eq_true rfl) ?_
  refine r_iload_n dX10_codeOf_0 0 rfl ?_
  refine r_sipush (v := 300) dX10_codeOf_1 (by decide) ?_
  refine r_imul dX10_codeOf_4 ?_
  refine r_iload_n dX10_codeOf_5 1 rfl ?_
  refine r_iadd dX10_codeOf_6 ?_
  refine r_iconst (v := 2) dX10_codeOf_7 (by decide) ?_
  refine r_imul dX10_codeOf_8 ?_
  refine r_iload_n dX10_codeOf_9 2 rfl ?_
  refine r_iadd dX10_codeOf_10 ?_
  refine r_iret rfl dX10_codeOf_11 ?_
  exact ⟨rfl, rfl⟩
theorem c_X10_fan {ad : Nat → Nat} (σ : sS) {a c N : Nat} (ha : la a = (1, 0)) (hc0 : la c = (1, 1)) (hN4 : N ≤ 4) (hN : vI σ a 1 = nI N) (hD : h_d a c σ) (v s : Int32) : ab_X (sR ad) 4 mX10_fan [.ref (ad 50), .int v, .int s] σ (some (.int (h_fn a c σ v s))) σ := by
  refine ab_X.of (by decide) (Nat.le_of_ble_eq_true rfl) ?_
  refine r_aload_n dX10_fan_0 0 rfl ?_
  refine s_getD (b := a) ok_X10 dX10_fan_1 (k := 5) (by decide) fl_X10_32 rfl rfl hD.1 ?_
  refine r_aload_n dX10_fan_4 0 rfl ?_
  refine s_getR (b := 52) ok_X10 dX10_fan_5 (k := 1) (by decide) fl_X10_20 rfl rfl rfl ?_
  refine r_iload_n dX10_fan_8 1 rfl ?_
  refine x_callV (Y := mX7_get) (d' := 1) dX10_fan_9 ml_X10_81 yv_X7_get (by omega) rfl rfl (by simp [Value.category]) (sR_isR rfl) (c_get rfl v) ?_
  refine r_iload_n dX10_fan_12 2 rfl ?_
  refine x_callV (Y := mX0_fan) (d' := 3) dX10_fan_13 ml_X10_103 yv_X0_fan (by omega) rfl rfl (by simp [Value.category]) (sR_is ha rfl) (c_X0_fan σ ha (rg σ 52 v) s) ?_
  refine r_aload_n dX10_fan_16 0 rfl ?_
  refine s_getD (b := c) ok_X10 dX10_fan_17 (k := 6) (by decide) fl_X10_36 rfl rfl hD.2 ?_
  refine r_aload_n dX10_fan_20 0 rfl ?_
  refine s_getR (b := 53) ok_X10 dX10_fan_21 (k := 2) (by decide) fl_X10_23 rfl rfl rfl ?_
  refine r_iload_n dX10_fan_24 1 rfl ?_
  refine x_callV (Y := mX7_get) (d' := 1) dX10_fan_25 ml_X10_81 yv_X7_get (by omega) rfl rfl (by simp [Value.category]) (sR_isR rfl) (c_get rfl v) ?_
  refine r_iload_n dX10_fan_28 2 rfl ?_
  refine x_callV (Y := mX1_fan) (d' := 2) dX10_fan_29 ml_X10_98 yv_X1_fan (by omega) rfl rfl (by simp [Value.category]) (sR_is hc0 rfl) (c_X1_fan σ hc0 (rg σ 53 v) s) ?_
  refine r_imul dX10_fan_32 ?_
  refine r_iret rfl dX10_fan_33 ?_
  exact ⟨rfl, rfl⟩
theorem c_X10_codeAfter {ad : Nat → Nat} (σ : sS) {a c N : Nat} (ha : la a = (1, 0)) (hc0 : la c = (1, 1)) (hN4 : N ≤ 4) (hN : vI σ a 1 = nI N) (hD : h_d a c σ) (v s i : Int32) : ab_X (sR ad) 4 mX10_codeAfter [.ref (ad 50), .int v, .int s, .int i] σ (some (.int (h_ca a c N σ v s i))) σ := by
  refine ab_X.of (by decide) (Nat.le_of_ble_eq_true rfl) ?_
  refine r_aload_n dX10_codeAfter_0 0 rfl ?_
  refine s_getR (b := 53) ok_X10 dX10_codeAfter_1 (k := 2) (by decide) fl_X10_23 rfl rfl rfl ?_
  refine r_iload_n dX10_codeAfter_4 1 rfl ?_
  refine x_callV (Y := mX7_get) (d' := 1) dX10_codeAfter_5 ml_X10_81 yv_X7_get (by omega) rfl rfl (by simp [Value.category]) (sR_isR rfl) (c_get rfl v) ?_
  refine r_istore (lo' := [(4, .int (rg σ 53 v)), (0, .ref (ad 50)), (1, .int v), (2, .int s), (3, .int i)]) dX10_codeAfter_8 (by decide) rfl ?_
  refine r_aload_n dX10_codeAfter_10 1 rfl ?_
  refine s_getD (b := c) ok_X10 dX10_codeAfter_11 (k := 6) (by decide) fl_X10_36 rfl rfl hD.2 ?_
  refine r_iload dX10_codeAfter_14 0 rfl ?_
  refine r_iload_n dX10_codeAfter_16 3 rfl ?_
  refine x_callV (Y := mX1_fan) (d' := 2) dX10_codeAfter_17 ml_X10_98 yv_X1_fan (by omega) rfl rfl (by simp [Value.category]) (sR_is hc0 rfl) (c_X1_fan σ hc0 (rg σ 53 v) s) ?_
  refine r_istore (lo' := [(5, .int (p_fn σ c (rg σ 53 v) s)), (4, .int (rg σ 53 v)), (0, .ref (ad 50)), (1, .int v), (2, .int s), (3, .int i)]) dX10_codeAfter_20 (by decide) rfl ?_
  refine r_iload dX10_codeAfter_22 0 rfl ?_
  refine r_if_gt (t := 29) dX10_codeAfter_24 (by decide) (fun c1 => ?_) (fun c1 => ?_)
  · have c1 : 0 < (p_fn σ c (rg σ 53 v) s) := c1
    refine r_aload_n dX10_codeAfter_29 2 rfl ?_
    refine s_getD (b := a) ok_X10 dX10_codeAfter_30 (k := 5) (by decide) fl_X10_32 rfl rfl hD.1 ?_
    refine r_aload_n dX10_codeAfter_33 2 rfl ?_
    refine s_getR (b := 52) ok_X10 dX10_codeAfter_34 (k := 1) (by decide) fl_X10_20 rfl rfl rfl ?_
    refine r_iload_n dX10_codeAfter_37 3 rfl ?_
    refine x_callV (Y := mX7_get) (d' := 1) dX10_codeAfter_38 ml_X10_81 yv_X7_get (by omega) rfl rfl (by simp [Value.category]) (sR_isR rfl) (c_get rfl v) ?_
    refine r_iload_n dX10_codeAfter_41 4 rfl ?_
    refine r_iload_n dX10_codeAfter_42 5 rfl ?_
    refine r_iload dX10_codeAfter_43 0 rfl ?_
    refine r_idiv dX10_codeAfter_45 (i_gt0 c1) ?_
    refine x_callV (Y := mX0_goal) (d' := 2) dX10_codeAfter_46 ml_X10_99 yv_X0_goal (by omega) rfl rfl (by simp [Value.category]) (sR_is ha rfl) (c_X0_goal σ ha hN hN4 (rg σ 52 v) s (i / (p_fn σ c (rg σ 53 v) s))) ?_
    refine r_istore (lo' := [(6, .int (a_gl (a_ar σ a (rg σ 52 v) s) (i / (p_fn σ c (rg σ 53 v) s)) N 0 0)), (5, .int (p_fn σ c (rg σ 53 v) s)), (4, .int (rg σ 53 v)), (0, .ref (ad 50)), (1, .int v), (2, .int s), (3, .int i)]) dX10_codeAfter_49 (by decide) rfl ?_
    refine r_iload dX10_codeAfter_51 0 rfl ?_
    refine r_aload_n dX10_codeAfter_53 3 rfl ?_
    refine s_getD (b := c) ok_X10 dX10_codeAfter_54 (k := 6) (by decide) fl_X10_36 rfl rfl hD.2 ?_
    refine r_iload dX10_codeAfter_57 2 rfl ?_
    refine r_iload_n dX10_codeAfter_59 5 rfl ?_
    refine r_iload_n dX10_codeAfter_60 6 rfl ?_
    refine r_iload dX10_codeAfter_61 1 rfl ?_
    refine r_irem dX10_codeAfter_63 (i_gt0 c1) ?_
    refine x_callV (Y := mX1_goal) (d' := 2) dX10_codeAfter_64 ml_X10_102 yv_X1_goal (by omega) rfl rfl (by simp [Value.category]) (sR_is hc0 rfl) (c_X1_goal σ hc0 (rg σ 53 v) s (i - i / (p_fn σ c (rg σ 53 v) s) * (p_fn σ c (rg σ 53 v) s))) ?_
    refine r_aload_n dX10_codeAfter_67 3 rfl ?_
    refine s_getR (b := 55) ok_X10 dX10_codeAfter_68 (k := 4) (by decide) fl_X10_29 rfl rfl rfl ?_
    refine r_iload_n dX10_codeAfter_71 4 rfl ?_
    refine x_callV (Y := mX7_get) (d' := 1) dX10_codeAfter_72 ml_X10_81 yv_X7_get (by omega) rfl rfl (by simp [Value.category]) (sR_isR rfl) (c_get rfl v) ?_
    refine x_callS (Y := mX10_codeOf) (d' := 1) dX10_codeAfter_75 ml_X10_58 ys_X10_codeOf (by omega) rfl rfl (by simp [Value.category]) (c_X10_codeOf σ (a_gl (a_ar σ a (rg σ 52 v) s) (i / (p_fn σ c (rg σ 53 v) s)) N 0 0) (p_gl σ c (rg σ 53 v) s (i - i / (p_fn σ c (rg σ 53 v) s) * (p_fn σ c (rg σ 53 v) s))) (rg σ 55 v)) ?_
    refine r_iret rfl dX10_codeAfter_78 ?_
    exact ⟨by unfold h_ca; rw [if_pos c1], rfl⟩
  · have c1 : ¬ (0 < (p_fn σ c (rg σ 53 v) s)) := c1
    refine r_iconst (v := (-1)) dX10_codeAfter_27 (by decide) ?_
    refine r_iret rfl dX10_codeAfter_28 ?_
    exact ⟨by unfold h_ca; rw [if_neg c1], rfl⟩
theorem c_X10_vertices {ad : Nat → Nat} (σ : sS) {a c N : Nat} (ha : la a = (1, 0)) (hc0 : la c = (1, 1)) (hN4 : N ≤ 4) (hN : vI σ a 1 = nI N) (hD : h_d a c σ) : ab_X (sR ad) 5 mX10_vertices [.ref (ad 50)] σ (some (.int (h_V σ []))) σ := by
  refine ab_X.of (by decide) (Nat.le_of_ble_eq_true rfl) ?_
  refine r_aload_n dX10_vertices_0 0 rfl ?_
  refine s_getI ok_X10 dX10_vertices_1 (k := 8) (by decide) fl_X10_47 rfl rfl ?_
  refine r_iret rfl dX10_vertices_4 ?_
  exact ⟨rfl, rfl⟩
theorem c_X10_letterCount {ad : Nat → Nat} (σ : sS) {a c N : Nat} (ha : la a = (1, 0)) (hc0 : la c = (1, 1)) (hN4 : N ≤ 4) (hN : vI σ a 1 = nI N) (hD : h_d a c σ) : ab_X (sR ad) 5 mX10_letterCount [.ref (ad 50)] σ (some (.int (h_L a σ []))) σ := by
  refine ab_X.of (by decide) (Nat.le_of_ble_eq_true rfl) ?_
  refine r_aload_n dX10_letterCount_0 0 rfl ?_
  refine s_getD (b := a) ok_X10 dX10_letterCount_1 (k := 5) (by decide) fl_X10_32 rfl rfl hD.1 ?_
  refine s_getI ok_X0 dX10_letterCount_4 (k := 2) (by decide) fl_X10_71 ha rfl ?_
  refine r_iret rfl dX10_letterCount_7 ?_
  exact ⟨rfl, rfl⟩
theorem c_X10_isFirst {ad : Nat → Nat} (σ : sS) {a c N : Nat} (ha : la a = (1, 0)) (hc0 : la c = (1, 1)) (hN4 : N ≤ 4) (hN : vI σ a 1 = nI N) (hD : h_d a c σ) (v : Int32) : ab_X (sR ad) 5 mX10_isFirst [.ref (ad 50), .int v] σ (some (.int (h_F σ [v]))) σ := by
  refine ab_X.of (by decide) (Nat.le_of_ble_eq_true rfl) ?_
  refine r_iload_n dX10_isFirst_0 1 rfl ?_
  refine r_aload_n dX10_isFirst_1 0 rfl ?_
  refine s_getI ok_X10 dX10_isFirst_2 (k := 7) (by decide) fl_X10_65 rfl rfl ?_
  refine r_icmp_ge (t := 12) dX10_isFirst_5 (by decide) (fun c1 => ?_) (fun c1 => ?_)
  · have c1 : (vI σ 50 7) ≤ v := c1
    refine r_iconst (v := 0) dX10_isFirst_12 (by decide) ?_
    refine r_zret rfl (by decide) dX10_isFirst_13 ?_
    exact ⟨by unfold h_F; simp only [List.getD_cons_zero, eq_true c1, ↓reduceIte], rfl⟩
  · have c1 : ¬ ((vI σ 50 7) ≤ v) := c1
    refine r_iconst (v := 1) dX10_isFirst_8 (by decide) ?_
    refine r_goto (t := 13) dX10_isFirst_9 (by decide) ?_
    refine r_zret rfl (by decide) dX10_isFirst_13 ?_
    exact ⟨by unfold h_F; simp only [List.getD_cons_zero, eq_false c1, ↓reduceIte], rfl⟩
theorem c_X10_isMarked {ad : Nat → Nat} (σ : sS) {a c N : Nat} (ha : la a = (1, 0)) (hc0 : la c = (1, 1)) (hN4 : N ≤ 4) (hN : vI σ a 1 = nI N) (hD : h_d a c σ) (v : Int32) : ab_X (sR ad) 5 mX10_isMarked [.ref (ad 50), .int v] σ (some (.int (h_M σ [v]))) σ := by
  refine ab_X.of (by decide) (Nat.le_of_ble_eq_true rfl) ?_
  refine r_aload_n dX10_isMarked_0 0 rfl ?_
  refine s_getR (b := 54) ok_X10 dX10_isMarked_1 (k := 3) (by decide) fl_X10_26 rfl rfl rfl ?_
  refine r_iload_n dX10_isMarked_4 1 rfl ?_
  refine x_callV (Y := mX7_get) (d' := 1) dX10_isMarked_5 ml_X10_81 yv_X7_get (by omega) rfl rfl (by simp [Value.category]) (sR_isR rfl) (c_get rfl v) ?_
  refine r_if_eq (t := 15) dX10_isMarked_8 (by decide) (fun c1 => ?_) (fun c1 => ?_)
  · have c1 : (rg σ 54 v) = 0 := c1
    refine r_iconst (v := 0) dX10_isMarked_15 (by decide) ?_
    refine r_zret rfl (by decide) dX10_isMarked_16 ?_
    exact ⟨by unfold h_M; simp only [List.getD_cons_zero, eq_true c1, ↓reduceIte], rfl⟩
  · have c1 : ¬ ((rg σ 54 v) = 0) := c1
    refine r_iconst (v := 1) dX10_isMarked_11 (by decide) ?_
    refine r_goto (t := 16) dX10_isMarked_12 (by decide) ?_
    refine r_zret rfl (by decide) dX10_isMarked_16 ?_
    exact ⟨by unfold h_M; simp only [List.getD_cons_zero, eq_false c1, ↓reduceIte], rfl⟩
theorem c_X10_goal {ad : Nat → Nat} (σ : sS) {a c N : Nat} (ha : la a = (1, 0)) (hc0 : la c = (1, 1)) (hN4 : N ≤ 4) (hN : vI σ a 1 = nI N) (hD : h_d a c σ) (v s i : Int32) : ab_X (sR ad) 5 mX10_goal [.ref (ad 50), .int v, .int s, .int i] σ (some (.int (h_E a c N σ [v, s, i]))) σ := by
  refine ab_X.of (by decide) (Nat.le_of_ble_eq_true rfl) ?_
  refine r_aload_n dX10_goal_0 0 rfl ?_
  refine s_getR (b := 51) ok_X10 dX10_goal_1 (k := 0) (by decide) fl_X10_14 rfl rfl rfl ?_
  refine r_aload_n dX10_goal_4 0 rfl ?_
  refine r_iload_n dX10_goal_5 1 rfl ?_
  refine r_iload_n dX10_goal_6 2 rfl ?_
  refine r_iload_n dX10_goal_7 3 rfl ?_
  refine x_callV (Y := mX10_codeAfter) (d' := 4) dX10_goal_8 ml_X10_78 yv_X10_codeAfter (by omega) rfl rfl (by simp [Value.category]) (sR_is rfl rfl) (c_X10_codeAfter σ ha hc0 hN4 hN hD v s i) ?_
  refine x_callV (Y := mX7_get) (d' := 1) dX10_goal_11 ml_X10_81 yv_X7_get (by omega) rfl rfl (by simp [Value.category]) (sR_isR rfl) (c_get rfl (h_ca a c N σ v s i)) ?_
  refine r_iconst (v := 1) dX10_goal_14 (by decide) ?_
  refine r_isub dX10_goal_15 ?_
  refine r_iret rfl dX10_goal_16 ?_
  exact ⟨rfl, rfl⟩
theorem c_X10_fanG {ad : Nat → Nat} (σ : sS) {a c N : Nat} (ha : la a = (1, 0)) (hc0 : la c = (1, 1)) (hN4 : N ≤ 4) (hN : vI σ a 1 = nI N) (hD : h_d a c σ) (v s : Int32) : ab_X (sR ad) 4 mX10_fan [.ref (ad 50), .int v, .int s] σ (some (.int (h_N a c σ [v, s]))) σ := c_X10_fan σ ha hc0 hN4 hN hD v s
theorem g_X10_vertices {ad : Nat → Nat} {a c N : Nat} (ha : la a = (1, 0)) (hc0 : la c = (1, 1)) (hN4 : N ≤ 4) {J : sS → Prop} (hJ1 : ∀ σ, J σ → vI σ a 1 = nI N ∧ h_d a c σ) : gr_m ad 50 J ⟨"OddRanks$Graph", "vertices", "()I"⟩ 0 6 (h_V) := by
  refine ⟨mX10_vertices, 5, by decide, yu_X10_vertices, fun σ => sR_is rfl rfl, fun σ as hJ hl => ?_⟩
  match as, hl with
  | [], _ => exact c_X10_vertices σ ha hc0 hN4 (hJ1 σ hJ).1 (hJ1 σ hJ).2 
theorem g_X10_letterCount {ad : Nat → Nat} {a c N : Nat} (ha : la a = (1, 0)) (hc0 : la c = (1, 1)) (hN4 : N ≤ 4) {J : sS → Prop} (hJ1 : ∀ σ, J σ → vI σ a 1 = nI N ∧ h_d a c σ) : gr_m ad 50 J ⟨"OddRanks$Graph", "letterCount", "()I"⟩ 0 6 (h_L a) := by
  refine ⟨mX10_letterCount, 5, by decide, yu_X10_letterCount, fun σ => sR_is rfl rfl, fun σ as hJ hl => ?_⟩
  match as, hl with
  | [], _ => exact c_X10_letterCount σ ha hc0 hN4 (hJ1 σ hJ).1 (hJ1 σ hJ).2 
theorem g_X10_isFirst {ad : Nat → Nat} {a c N : Nat} (ha : la a = (1, 0)) (hc0 : la c = (1, 1)) (hN4 : N ≤ 4) {J : sS → Prop} (hJ1 : ∀ σ, J σ → vI σ a 1 = nI N ∧ h_d a c σ) : gr_m ad 50 J ⟨"OddRanks$Graph", "isFirst", "(I)Z"⟩ 1 6 (h_F) := by
  refine ⟨mX10_isFirst, 5, by decide, yu_X10_isFirst, fun σ => sR_is rfl rfl, fun σ as hJ hl => ?_⟩
  match as, hl with
  | [v], _ => exact c_X10_isFirst σ ha hc0 hN4 (hJ1 σ hJ).1 (hJ1 σ hJ).2 v
theorem g_X10_isMarked {ad : Nat → Nat} {a c N : Nat} (ha : la a = (1, 0)) (hc0 : la c = (1, 1)) (hN4 : N ≤ 4) {J : sS → Prop} (hJ1 : ∀ σ, J σ → vI σ a 1 = nI N ∧ h_d a c σ) : gr_m ad 50 J ⟨"OddRanks$Graph", "isMarked", "(I)Z"⟩ 1 6 (h_M) := by
  refine ⟨mX10_isMarked, 5, by decide, yu_X10_isMarked, fun σ => sR_is rfl rfl, fun σ as hJ hl => ?_⟩
  match as, hl with
  | [v], _ => exact c_X10_isMarked σ ha hc0 hN4 (hJ1 σ hJ).1 (hJ1 σ hJ).2 v
theorem g_X10_fan {ad : Nat → Nat} {a c N : Nat} (ha : la a = (1, 0)) (hc0 : la c = (1, 1)) (hN4 : N ≤ 4) {J : sS → Prop} (hJ1 : ∀ σ, J σ → vI σ a 1 = nI N ∧ h_d a c σ) : gr_m ad 50 J ⟨"OddRanks$Graph", "fan", "(II)I"⟩ 2 6 (h_N a c) := by
  refine ⟨mX10_fan, 4, by decide, yu_X10_fan, fun σ => sR_is rfl rfl, fun σ as hJ hl => ?_⟩
  match as, hl with
  | [v, s], _ => exact c_X10_fanG σ ha hc0 hN4 (hJ1 σ hJ).1 (hJ1 σ hJ).2 v s
theorem g_X10_goal {ad : Nat → Nat} {a c N : Nat} (ha : la a = (1, 0)) (hc0 : la c = (1, 1)) (hN4 : N ≤ 4) {J : sS → Prop} (hJ1 : ∀ σ, J σ → vI σ a 1 = nI N ∧ h_d a c σ) : gr_m ad 50 J ⟨"OddRanks$Graph", "goal", "(III)I"⟩ 3 6 (h_E a c N) := by
  refine ⟨mX10_goal, 5, by decide, yu_X10_goal, fun σ => sR_is rfl rfl, fun σ as hJ hl => ?_⟩
  match as, hl with
  | [v, s, i], _ => exact c_X10_goal σ ha hc0 hN4 (hJ1 σ hJ).1 (hJ1 σ hJ).2 v s i
def m_V (a : Nat) (σ : sS) (_ : List Int32) : Int32 := vI σ a 1
def m_F (a : Nat) (σ : sS) (as : List Int32) : Int32 := q_in (as.getD 0 0) (vI σ a 3)
def m_M (a : Nat) (σ : sS) (as : List Int32) : Int32 := q_in (as.getD 0 0) (vI σ a 4)
def m_N (a : Nat) (σ : sS) (as : List Int32) : Int32 := bc (a_ar σ a (as.getD 0 0) (as.getD 1 0))
def m_E (a N : Nat) (σ : sS) (as : List Int32) : Int32 := a_gl (a_ar σ a (as.getD 0 0) (as.getD 1 0)) (as.getD 2 0) N 0 0
def n_V (c : Nat) (σ : sS) (_ : List Int32) : Int32 := vI σ c 7
def n_L (c : Nat) (σ : sS) (_ : List Int32) : Int32 := vI σ (c - 6) 2
def n_F (_ : sS) (as : List Int32) : Int32 := p_if (as.getD 0 0)
def n_M (c : Nat) (σ : sS) (as : List Int32) : Int32 := p_im σ c (as.getD 0 0)
def n_N (c : Nat) (σ : sS) (as : List Int32) : Int32 := p_fn σ c (as.getD 0 0) (as.getD 1 0)
def n_E (c : Nat) (σ : sS) (as : List Int32) : Int32 := p_gl σ c (as.getD 0 0) (as.getD 1 0) (as.getD 2 0)
theorem g_X0_vertices {ad : Nat → Nat} {a : Nat} (ha : la a = (1, 0)) {J : sS → Prop} : gr_m ad a J ⟨"OddRanks$Graph", "vertices", "()I"⟩ 0 6 (m_V a) := by
  refine ⟨mX0_vertices, 1, by decide, yu_X0_vertices, fun σ => sR_is ha rfl, fun σ as hJ hl => ?_⟩
  match as, hl with
  | [], _ => exact c_X0_vertices σ ha 
theorem g_X0_letterCount {ad : Nat → Nat} {a : Nat} (ha : la a = (1, 0)) {J : sS → Prop} : gr_m ad a J ⟨"OddRanks$Graph", "letterCount", "()I"⟩ 0 6 (h_L a) := by
  refine ⟨mX0_letterCount, 1, by decide, yu_X0_letterCount, fun σ => sR_is ha rfl, fun σ as hJ hl => ?_⟩
  match as, hl with
  | [], _ => exact c_X0_letterCount σ ha 
theorem g_X0_isFirst {ad : Nat → Nat} {a : Nat} (ha : la a = (1, 0)) {J : sS → Prop} : gr_m ad a J ⟨"OddRanks$Graph", "isFirst", "(I)Z"⟩ 1 6 (m_F a) := by
  refine ⟨mX0_isFirst, 2, by decide, yu_X0_isFirst, fun σ => sR_is ha rfl, fun σ as hJ hl => ?_⟩
  match as, hl with
  | [v], _ => exact c_X0_isFirst σ ha v
theorem g_X0_isMarked {ad : Nat → Nat} {a : Nat} (ha : la a = (1, 0)) {J : sS → Prop} : gr_m ad a J ⟨"OddRanks$Graph", "isMarked", "(I)Z"⟩ 1 6 (m_M a) := by
  refine ⟨mX0_isMarked, 2, by decide, yu_X0_isMarked, fun σ => sR_is ha rfl, fun σ as hJ hl => ?_⟩
  match as, hl with
  | [v], _ => exact c_X0_isMarked σ ha v
theorem g_X0_fan {ad : Nat → Nat} {a : Nat} (ha : la a = (1, 0)) {J : sS → Prop} : gr_m ad a J ⟨"OddRanks$Graph", "fan", "(II)I"⟩ 2 6 (m_N a) := by
  refine ⟨mX0_fan, 3, by decide, yu_X0_fan, fun σ => sR_is ha rfl, fun σ as hJ hl => ?_⟩
  match as, hl with
  | [v, s], _ => exact c_X0_fan σ ha v s
theorem g_X0_goal {ad : Nat → Nat} {a : Nat} (ha : la a = (1, 0)) {N : Nat} (hN4 : N ≤ 4) {J : sS → Prop} (hJ1 : ∀ σ, J σ → vI σ a 1 = nI N) : gr_m ad a J ⟨"OddRanks$Graph", "goal", "(III)I"⟩ 3 6 (m_E a N) := by
  refine ⟨mX0_goal, 2, by decide, yu_X0_goal, fun σ => sR_is ha rfl, fun σ as hJ hl => ?_⟩
  match as, hl with
  | [v, s, i], _ => exact c_X0_goal σ ha (hJ1 σ hJ) hN4 v s i
theorem g_X1_vertices {ad : Nat → Nat} {c : Nat} (hc0 : la c = (1, 1)) {J : sS → Prop} : gr_m ad c J ⟨"OddRanks$Graph", "vertices", "()I"⟩ 0 6 (n_V c) := by
  refine ⟨mX1_vertices, 1, by decide, yu_X1_vertices, fun σ => sR_is hc0 rfl, fun σ as hJ hl => ?_⟩
  match as, hl with
  | [], _ => exact c_X1_vertices σ hc0 
theorem g_X1_letterCount {ad : Nat → Nat} {c : Nat} (hc0 : la c = (1, 1)) {J : sS → Prop} : gr_m ad c J ⟨"OddRanks$Graph", "letterCount", "()I"⟩ 0 6 (n_L c) := by
  refine ⟨mX1_letterCount, 1, by decide, yu_X1_letterCount, fun σ => sR_is hc0 rfl, fun σ as hJ hl => ?_⟩
  match as, hl with
  | [], _ => exact c_X1_letterCount σ hc0 
theorem g_X1_isFirst {ad : Nat → Nat} {c : Nat} (hc0 : la c = (1, 1)) {J : sS → Prop} : gr_m ad c J ⟨"OddRanks$Graph", "isFirst", "(I)Z"⟩ 1 6 (n_F) := by
  refine ⟨mX1_isFirst, 1, by decide, yu_X1_isFirst, fun σ => sR_is hc0 rfl, fun σ as hJ hl => ?_⟩
  match as, hl with
  | [v], _ => exact c_X1_isFirst σ hc0 v
theorem g_X1_isMarked {ad : Nat → Nat} {c : Nat} (hc0 : la c = (1, 1)) {J : sS → Prop} : gr_m ad c J ⟨"OddRanks$Graph", "isMarked", "(I)Z"⟩ 1 6 (n_M c) := by
  refine ⟨mX1_isMarked, 2, by decide, yu_X1_isMarked, fun σ => sR_is hc0 rfl, fun σ as hJ hl => ?_⟩
  match as, hl with
  | [v], _ => exact c_X1_isMarked σ hc0 v
theorem g_X1_fan {ad : Nat → Nat} {c : Nat} (hc0 : la c = (1, 1)) {J : sS → Prop} : gr_m ad c J ⟨"OddRanks$Graph", "fan", "(II)I"⟩ 2 6 (n_N c) := by
  refine ⟨mX1_fan, 2, by decide, yu_X1_fan, fun σ => sR_is hc0 rfl, fun σ as hJ hl => ?_⟩
  match as, hl with
  | [v, s], _ => exact c_X1_fan σ hc0 v s
theorem g_X1_goal {ad : Nat → Nat} {c : Nat} (hc0 : la c = (1, 1)) {J : sS → Prop} : gr_m ad c J ⟨"OddRanks$Graph", "goal", "(III)I"⟩ 3 6 (n_E c) := by
  refine ⟨mX1_goal, 2, by decide, yu_X1_goal, fun σ => sR_is hc0 rfl, fun σ as hJ hl => ?_⟩
  match as, hl with
  | [v, s, i], _ => exact c_X1_goal σ hc0 v s i
