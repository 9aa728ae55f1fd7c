/-! Complement: what asks, changes nothing -/
theorem cq_is {c : Nat} (h : la c = (1, 1)) : c = 33 ∨ c = 34 ∨ c = 35 := by
  have h1 : ∀ a, a < 200 → la a = (1, 1) → (a = 33 ∨ a = 34 ∨ a = 35) := by decide +kernel
  exact la_of (P := fun a q => q = (1, 1) → (a = 33 ∨ a = 34 ∨ a = 35)) (fun _ q => by cases q) h1 c h
theorem cq_m {c : Nat} (h : la c = (1, 1)) : la (c - 6) = (1, 0) := by rcases cq_is h with rfl | rfl | rfl <;> rfl
theorem cq_3 {c : Nat} (h : la c = (1, 1)) : la (c + 3) = (7, 0) := by rcases cq_is h with rfl | rfl | rfl <;> rfl
theorem cq_6 {c : Nat} (h : la c = (1, 1)) : la (c + 6) = (7, 0) := by rcases cq_is h with rfl | rfl | rfl <;> rfl
theorem cq_9 {c : Nat} (h : la c = (1, 1)) : la (c + 9) = (7, 0) := by rcases cq_is h with rfl | rfl | rfl <;> rfl
theorem cq_s0 {c : Nat} (h : la c = (1, 1)) : sr c 0 = some (c - 6) := by rcases cq_is h with rfl | rfl | rfl <;> rfl
theorem cq_s1 {c : Nat} (h : la c = (1, 1)) : sr c 1 = some 15 := by rcases cq_is h with rfl | rfl | rfl <;> rfl
theorem cq_s2 {c : Nat} (h : la c = (1, 1)) : sr c 2 = some 26 := by rcases cq_is h with rfl | rfl | rfl <;> rfl
theorem cq_s3 {c : Nat} (h : la c = (1, 1)) : sr c 3 = some (c + 3) := by rcases cq_is h with rfl | rfl | rfl <;> rfl
theorem cq_s4 {c : Nat} (h : la c = (1, 1)) : sr c 4 = some (c + 6) := by rcases cq_is h with rfl | rfl | rfl <;> rfl
theorem cq_s5 {c : Nat} (h : la c = (1, 1)) : sr c 5 = some (c + 9) := by rcases cq_is h with rfl | rfl | rfl <;> rfl
set_option maxRecDepth 4000 in
theorem c_X1_vertices {ad : Nat → Nat} (σ : sS) {c : Nat} (hc0 : la c = (1, 1))   : ab_X (sR ad) 1 mX1_vertices [.ref (ad c)] σ (some (.int (vI σ c 7))) σ := by
  refine ab_X.of (by decide) (Nat.le_of_ble_eq_true rfl) ?_
  refine r_aload_n dX1_vertices_0 0 rfl ?_
  refine s_getI ok_X1 dX1_vertices_1 (k := 7) (by decide) fl_X1_53 hc0 rfl ?_
  refine r_iret rfl dX1_vertices_4 ?_
  exact ⟨rfl, rfl⟩
set_option maxRecDepth 4000 in
theorem c_X1_letterCount {ad : Nat → Nat} (σ : sS) {c : Nat} (hc0 : la c = (1, 1))   : ab_X (sR ad) 1 mX1_letterCount [.ref (ad c)] σ (some (.int (vI σ (c - 6) 2))) σ := by
  refine ab_X.of (by decide) (Nat.le_of_ble_eq_true rfl) ?_
  refine r_aload_n dX1_letterCount_0 0 rfl ?_
  refine s_getR (b := c - 6) ok_X1 dX1_letterCount_1 (k := 0) (by decide) fl_X1_26 hc0 rfl (cq_s0 hc0) ?_
  refine s_getI ok_X0 dX1_letterCount_4 (k := 2) (by decide) fl_X1_65 (cq_m hc0) rfl ?_
  refine r_iret rfl dX1_letterCount_7 ?_
  exact ⟨rfl, rfl⟩
def p_if (v : Int32) : Int32 := if v = 0 then 1 else 0
def p_im (σ : sS) (c : Nat) (v : Int32) : Int32 := if rg σ (c + 3) v = 0 then 1 else if rg σ (c + 3) v &&& 1048576 = 0 then 0 else if (rg σ (c + 3) v >>> ((4 : Int32) &&& 31)) &&& 15 = 0 then 1 else 0
def p_fn (σ : sS) (c : Nat) (v s : Int32) : Int32 := rg σ (c + 6) (v * vI σ (c - 6) 2 + s + 1) - rg σ (c + 6) (v * vI σ (c - 6) 2 + s)
def p_gl (σ : sS) (c : Nat) (v s i : Int32) : Int32 := rg σ (c + 9) (rg σ (c + 6) (v * vI σ (c - 6) 2 + s) + i)
def p_ri (σ : sS) (c : Nat) (v s : Int32) : Int32 := if rg σ (c + 3) v &&& 1048576 = 0 then -2 else if q_in s (rg σ (c + 3) v &&& 15) = 0 then -2 else k_ro (rg σ (c + 3) v >>> ((8 : Int32) &&& 31)) s
set_option maxRecDepth 4000 in
theorem c_X1_isFirst {ad : Nat → Nat} (σ : sS) {c : Nat} (hc0 : la c = (1, 1)) (v : Int32)  : ab_X (sR ad) 1 mX1_isFirst [.ref (ad c), .int v] σ (some (.int (p_if v))) σ := by
  refine ab_X.of (by decide) (Nat.le_of_ble_eq_true rfl) ?_
  refine r_iload_n dX1_isFirst_0 1 rfl ?_
  refine r_if_ne (t := 8) dX1_isFirst_1 (by decide) (fun c1 => ?_) (fun c1 => ?_)
  · have c1 : ¬ (v = 0) := c1
    refine r_iconst (v := 0) dX1_isFirst_8 (by decide) ?_
    refine r_zret rfl (by decide) dX1_isFirst_9 ?_
    exact ⟨by unfold p_if; simp only [eq_false c1, ↓reduceIte], rfl⟩
  · have c1 : v = 0 := c1
    refine r_iconst (v := 1) dX1_isFirst_4 (by decide) ?_
    refine r_goto (t := 9) dX1_isFirst_5 (by decide) ?_
    refine r_zret rfl (by decide) dX1_isFirst_9 ?_
    exact ⟨by unfold p_if; simp only [eq_true c1, ↓reduceIte], rfl⟩
set_option maxRecDepth 4000 in
theorem c_X1_isMarked {ad : Nat → Nat} (σ : sS) {c : Nat} (hc0 : la c = (1, 1)) (v : Int32)  : ab_X (sR ad) 2 mX1_isMarked [.ref (ad c), .int v] σ (some (.int (p_im σ c v))) σ := by
  refine ab_X.of (by decide) (Nat.le_of_ble_eq_true rfl) ?_
  refine r_aload_n dX1_isMarked_0 0 rfl ?_
  refine s_getR (b := c + 3) ok_X1 dX1_isMarked_1 (k := 3) (by decide) fl_X1_14 hc0 rfl (cq_s3 hc0) ?_
  refine r_iload_n dX1_isMarked_4 1 rfl ?_
  refine x_callV (Y := mX7_get) (d' := 1) dX1_isMarked_5 ml_X1_71 yv_X7_get (by omega) rfl rfl (by simp [Value.category]) (sR_isR (cq_3 hc0)) (c_get (cq_3 hc0) v) ?_
  refine r_istore_n (lo' := [(2, .int (rg σ (c + 3) v)), (0, .ref (ad c)), (1, .int v)]) dX1_isMarked_8 (by decide) rfl ?_
  refine r_iload_n dX1_isMarked_9 0 rfl ?_
  refine r_if_eq (t := 29) dX1_isMarked_10 (by decide) (fun c1 => ?_) (fun c1 => ?_)
  · have c1 : (rg σ (c + 3) v) = 0 := c1
    refine r_iconst (v := 1) dX1_isMarked_29 (by decide) ?_
    refine r_goto (t := 34) dX1_isMarked_30 (by decide) ?_
    refine r_zret rfl (by decide) dX1_isMarked_34 ?_
    exact ⟨by unfold p_im; simp only [eq_true c1, ↓reduceIte], rfl⟩
  · have c1 : ¬ ((rg σ (c + 3) v) = 0) := c1
    refine r_iload_n dX1_isMarked_13 0 rfl ?_
    refine r_ldc (v := 1048576) dX1_isMarked_14 co_X1_82 ?_
    refine r_iand dX1_isMarked_16 ?_
    refine r_if_eq (t := 33) dX1_isMarked_17 (by decide) (fun c2 => ?_) (fun c2 => ?_)
    · have c2 : ((rg σ (c + 3) v) &&& 1048576) = 0 := c2
      refine r_iconst (v := 0) dX1_isMarked_33 (by decide) ?_
      refine r_zret rfl (by decide) dX1_isMarked_34 ?_
      exact ⟨by unfold p_im; simp only [eq_false c1, eq_true c2, ↓reduceIte], rfl⟩
    · have c2 : ¬ (((rg σ (c + 3) v) &&& 1048576) = 0) := c2
      refine r_iload_n dX1_isMarked_20 0 rfl ?_
      refine r_iconst (v := 4) dX1_isMarked_21 (by decide) ?_
      refine r_ishr dX1_isMarked_22 ?_
      refine r_bipush (v := 15) dX1_isMarked_23 (by decide) ?_
      refine r_iand dX1_isMarked_25 ?_
      refine r_if_ne (t := 33) dX1_isMarked_26 (by decide) (fun c3 => ?_) (fun c3 => ?_)
      · have c3 : ¬ ((((rg σ (c + 3) v) >>> ((4 : Int32) &&& 31)) &&& 15) = 0) := c3
        refine r_iconst (v := 0) dX1_isMarked_33 (by decide) ?_
        refine r_zret rfl (by decide) dX1_isMarked_34 ?_
        exact ⟨by unfold p_im; simp only [eq_false c1, eq_false c2, eq_false c3, ↓reduceIte], rfl⟩
      · have c3 : (((rg σ (c + 3) v) >>> ((4 : Int32) &&& 31)) &&& 15) = 0 := c3
        refine r_iconst (v := 1) dX1_isMarked_29 (by decide) ?_
        refine r_goto (t := 34) dX1_isMarked_30 (by decide) ?_
        refine r_zret rfl (by decide) dX1_isMarked_34 ?_
        exact ⟨by unfold p_im; simp only [eq_false c1, eq_false c2, eq_true c3, ↓reduceIte], rfl⟩
set_option maxRecDepth 4000 in
theorem c_X1_fan {ad : Nat → Nat} (σ : sS) {c : Nat} (hc0 : la c = (1, 1)) (v s : Int32)  : ab_X (sR ad) 2 mX1_fan [.ref (ad c), .int v, .int s] σ (some (.int (p_fn σ c v s))) σ := by
  refine ab_X.of (by decide) (Nat.le_of_ble_eq_true rfl) ?_
  refine r_iload_n dX1_fan_0 1 rfl ?_
  refine r_aload_n dX1_fan_1 0 rfl ?_
  refine s_getR (b := c - 6) ok_X1 dX1_fan_2 (k := 0) (by decide) fl_X1_26 hc0 rfl (cq_s0 hc0) ?_
  refine s_getI ok_X0 dX1_fan_5 (k := 2) (by decide) fl_X1_65 (cq_m hc0) rfl ?_
  refine r_imul dX1_fan_8 ?_
  refine r_iload_n dX1_fan_9 2 rfl ?_
  refine r_iadd dX1_fan_10 ?_
  refine r_istore_n (lo' := [(3, .int ((v * (vI σ (c - 6) 2)) + s)), (0, .ref (ad c)), (1, .int v), (2, .int s)]) dX1_fan_11 (by decide) rfl ?_
  refine r_aload_n dX1_fan_12 1 rfl ?_
  refine s_getR (b := c + 6) ok_X1 dX1_fan_13 (k := 4) (by decide) fl_X1_20 hc0 rfl (cq_s4 hc0) ?_
  refine r_iload_n dX1_fan_16 0 rfl ?_
  refine r_iconst (v := 1) dX1_fan_17 (by decide) ?_
  refine r_iadd dX1_fan_18 ?_
  refine x_callV (Y := mX7_get) (d' := 1) dX1_fan_19 ml_X1_71 yv_X7_get (by omega) rfl rfl (by simp [Value.category]) (sR_isR (cq_6 hc0)) (c_get (cq_6 hc0) (((v * (vI σ (c - 6) 2)) + s) + 1)) ?_
  refine r_aload_n dX1_fan_22 1 rfl ?_
  refine s_getR (b := c + 6) ok_X1 dX1_fan_23 (k := 4) (by decide) fl_X1_20 hc0 rfl (cq_s4 hc0) ?_
  refine r_iload_n dX1_fan_26 0 rfl ?_
  refine x_callV (Y := mX7_get) (d' := 1) dX1_fan_27 ml_X1_71 yv_X7_get (by omega) rfl rfl (by simp [Value.category]) (sR_isR (cq_6 hc0)) (c_get (cq_6 hc0) ((v * (vI σ (c - 6) 2)) + s)) ?_
  refine r_isub dX1_fan_30 ?_
  refine r_iret rfl dX1_fan_31 ?_
  exact ⟨rfl, rfl⟩
set_option maxRecDepth 4000 in
theorem c_X1_goal {ad : Nat → Nat} (σ : sS) {c : Nat} (hc0 : la c = (1, 1)) (v s i : Int32)  : ab_X (sR ad) 2 mX1_goal [.ref (ad c), .int v, .int s, .int i] σ (some (.int (p_gl σ c v s i))) σ := by
  refine ab_X.of (by decide) (Nat.le_of_ble_eq_true rfl) ?_
  refine r_aload_n dX1_goal_0 0 rfl ?_
  refine s_getR (b := c + 9) ok_X1 dX1_goal_1 (k := 5) (by decide) fl_X1_23 hc0 rfl (cq_s5 hc0) ?_
  refine r_aload_n dX1_goal_4 0 rfl ?_
  refine s_getR (b := c + 6) ok_X1 dX1_goal_5 (k := 4) (by decide) fl_X1_20 hc0 rfl (cq_s4 hc0) ?_
  refine r_iload_n dX1_goal_8 1 rfl ?_
  refine r_aload_n dX1_goal_9 0 rfl ?_
  refine s_getR (b := c - 6) ok_X1 dX1_goal_10 (k := 0) (by decide) fl_X1_26 hc0 rfl (cq_s0 hc0) ?_
  refine s_getI ok_X0 dX1_goal_13 (k := 2) (by decide) fl_X1_65 (cq_m hc0) rfl ?_
  refine r_imul dX1_goal_16 ?_
  refine r_iload_n dX1_goal_17 2 rfl ?_
  refine r_iadd dX1_goal_18 ?_
  refine x_callV (Y := mX7_get) (d' := 1) dX1_goal_19 ml_X1_71 yv_X7_get (by omega) rfl rfl (by simp [Value.category]) (sR_isR (cq_6 hc0)) (c_get (cq_6 hc0) ((v * (vI σ (c - 6) 2)) + s)) ?_
  refine r_iload_n dX1_goal_22 3 rfl ?_
  refine r_iadd dX1_goal_23 ?_
  refine x_callV (Y := mX7_get) (d' := 1) dX1_goal_24 ml_X1_71 yv_X7_get (by omega) rfl rfl (by simp [Value.category]) (sR_isR (cq_9 hc0)) (c_get (cq_9 hc0) ((rg σ (c + 6) ((v * (vI σ (c - 6) 2)) + s)) + i)) ?_
  refine r_iret rfl dX1_goal_27 ?_
  exact ⟨rfl, rfl⟩
set_option maxRecDepth 4000 in
theorem c_X1_rankIn {ad : Nat → Nat} (σ : sS) {c : Nat} (hc0 : la c = (1, 1)) (v s : Int32)  : ab_X (sR ad) 2 mX1_rankIn [.ref (ad c), .int v, .int s] σ (some (.int (p_ri σ c v s))) σ := by
  refine ab_X.of (by decide) (Nat.le_of_ble_eq_true rfl) ?_
  refine r_aload_n dX1_rankIn_0 0 rfl ?_
  refine s_getR (b := c + 3) ok_X1 dX1_rankIn_1 (k := 3) (by decide) fl_X1_14 hc0 rfl (cq_s3 hc0) ?_
  refine r_iload_n dX1_rankIn_4 1 rfl ?_
  refine x_callV (Y := mX7_get) (d' := 1) dX1_rankIn_5 ml_X1_71 yv_X7_get (by omega) rfl rfl (by simp [Value.category]) (sR_isR (cq_3 hc0)) (c_get (cq_3 hc0) v) ?_
  refine r_istore_n (lo' := [(3, .int (rg σ (c + 3) v)), (0, .ref (ad c)), (1, .int v), (2, .int s)]) dX1_rankIn_8 (by decide) rfl ?_
  refine r_iload_n dX1_rankIn_9 0 rfl ?_
  refine r_ldc (v := 1048576) dX1_rankIn_10 co_X1_82 ?_
  refine r_iand dX1_rankIn_12 ?_
  refine r_if_eq (t := 31) dX1_rankIn_13 (by decide) (fun c1 => ?_) (fun c1 => ?_)
  · have c1 : ((rg σ (c + 3) v) &&& 1048576) = 0 := c1
    refine r_iconst (v := 0) dX1_rankIn_31 (by decide) ?_
    refine r_istore (lo' := [(4, .int 0), (3, .int (rg σ (c + 3) v)), (0, .ref (ad c)), (1, .int v), (2, .int s)]) dX1_rankIn_32 (by decide) rfl ?_
    refine r_iload dX1_rankIn_34 0 rfl ?_
    refine r_if_eq (t := 50) dX1_rankIn_36 (by decide) (fun _ => ?_) (fun hh => absurd (by decide) hh)
    refine r_bipush (v := (-2)) dX1_rankIn_50 (by decide) ?_
    refine r_iret rfl dX1_rankIn_52 ?_
    exact ⟨by unfold p_ri; simp only [eq_true c1, ↓reduceIte], rfl⟩
  · have c1 : ¬ (((rg σ (c + 3) v) &&& 1048576) = 0) := c1
    refine r_iload_n dX1_rankIn_16 3 rfl ?_
    refine r_iload_n dX1_rankIn_17 0 rfl ?_
    refine r_bipush (v := 15) dX1_rankIn_18 (by decide) ?_
    refine r_iand dX1_rankIn_20 ?_
    refine x_callSN (Y := mX11_isIn) (d' := 1) dX1_rankIn_21 mn_X1_114 ys_X11_isIn (by omega) rfl rfl (by simp [Value.category]) (c_X11_isIn σ s ((rg σ (c + 3) v) &&& 15)) ?_
    refine r_if_eq (t := 31) dX1_rankIn_24 (by decide) (fun c2 => ?_) (fun c2 => ?_)
    · have c2 : (q_in s ((rg σ (c + 3) v) &&& 15)) = 0 := c2
      refine r_iconst (v := 0) dX1_rankIn_31 (by decide) ?_
      refine r_istore (lo' := [(4, .int 0), (3, .int (rg σ (c + 3) v)), (0, .ref (ad c)), (1, .int v), (2, .int s)]) dX1_rankIn_32 (by decide) rfl ?_
      refine r_iload dX1_rankIn_34 0 rfl ?_
      refine r_if_eq (t := 50) dX1_rankIn_36 (by decide) (fun _ => ?_) (fun hh => absurd (by decide) hh)
      refine r_bipush (v := (-2)) dX1_rankIn_50 (by decide) ?_
      refine r_iret rfl dX1_rankIn_52 ?_
      exact ⟨by unfold p_ri; simp only [eq_false c1, eq_true c2, ↓reduceIte], rfl⟩
    · have c2 : ¬ ((q_in s ((rg σ (c + 3) v) &&& 15)) = 0) := c2
      refine r_iconst (v := 1) dX1_rankIn_27 (by decide) ?_
      refine r_goto (t := 32) dX1_rankIn_28 (by decide) ?_
      refine r_istore (lo' := [(4, .int 1), (3, .int (rg σ (c + 3) v)), (0, .ref (ad c)), (1, .int v), (2, .int s)]) dX1_rankIn_32 (by decide) rfl ?_
      refine r_iload dX1_rankIn_34 0 rfl ?_
      refine r_if_eq (t := 50) dX1_rankIn_36 (by decide) (fun hh => absurd hh (by decide)) (fun _ => ?_)
      refine r_iload_n dX1_rankIn_39 1 rfl ?_
      refine r_bipush (v := 8) dX1_rankIn_40 (by decide) ?_
      refine r_ishr dX1_rankIn_42 ?_
      refine r_iload_n dX1_rankIn_43 4 rfl ?_
      refine x_callS (Y := mX4_rankOf) (d' := 1) dX1_rankIn_44 ml_X1_118 ys_X4_rankOf (by omega) rfl rfl (by simp [Value.category]) (c_X4_rankOf σ ((rg σ (c + 3) v) >>> ((8 : Int32) &&& 31)) s) ?_
      refine r_goto (t := 52) dX1_rankIn_47 (by decide) ?_
      refine r_iret rfl dX1_rankIn_52 ?_
      exact ⟨by unfold p_ri; simp only [eq_false c1, eq_false c2, ↓reduceIte], rfl⟩
set_option maxRecDepth 4000 in
theorem c_X1_forget {ad : Nat → Nat} (σ : sS) {c : Nat} (hc0 : la c = (1, 1))   : ab_X (sR ad) 1 mX1_forget [.ref (ad c)] σ none (uI σ c 6 0) := by
  refine ab_X.of (by decide) (Nat.le_of_ble_eq_true rfl) ?_
  refine r_aload_n dX1_forget_0 0 rfl ?_
  refine r_iconst (v := 0) dX1_forget_1 (by decide) ?_
  refine s_putI ok_X1 dX1_forget_2 (k := 6) (by decide) fl_X1_37 rfl rfl rfl hc0 rfl ?_
  refine r_vret rfl dX1_forget_5 ?_
  exact ⟨rfl, rfl⟩
def p_lw (k : Int32) : Int32 := (k >>> ((8 : Int32) &&& 31)) &&& 4095
def p_bl (k j : Int32) : Int32 :=
  if k = j then 0 else if (k &&& j) &&& 1048576 = 0 then 0 else if ¬ k &&& 15 = j &&& 15 then 0
  else if ((j >>> ((4 : Int32) &&& 31)) &&& 15) &&& ((k &&& j) >>> ((4 : Int32) &&& 31)) = (j >>> ((4 : Int32) &&& 31)) &&& 15 then
    (if k_ro (p_lw k) 0 ≤ k_ro (p_lw j) 0 then (if k_ro (p_lw k) 1 ≤ k_ro (p_lw j) 1 then (if k_ro (p_lw k) 2 ≤ k_ro (p_lw j) 2 then (if k_ro (p_lw k) 3 ≤ k_ro (p_lw j) 3 then (if k_go (p_lw k) = k_go (p_lw j) then 1 else 0) else 0) else 0) else 0) else 0)
  else 0
set_option maxRecDepth 4000 in
theorem c_X1_isBelow {ad : Nat → Nat} (σ : sS) (k j : Int32) : ab_X (sR ad) 3 mX1_isBelow [.int k, .int j] σ (some (.int (p_bl k j))) σ := by
  refine ab_X.of (by decide) (Nat.le_of_ble_eq_true rfl) ?_
  refine r_iload_n dX1_isBelow_0 0 rfl ?_
  refine r_iload_n dX1_isBelow_1 1 rfl ?_
  refine r_iand dX1_isBelow_2 ?_
  refine r_istore_n (lo' := [(2, .int (k &&& j)), (0, .int k), (1, .int j)]) dX1_isBelow_3 (by decide) rfl ?_
  refine r_iload_n dX1_isBelow_4 2 rfl ?_
  refine r_iconst (v := 4) dX1_isBelow_5 (by decide) ?_
  refine r_ishr dX1_isBelow_6 ?_
  refine r_bipush (v := 15) dX1_isBelow_7 (by decide) ?_
  refine r_iand dX1_isBelow_9 ?_
  refine r_istore_n (lo' := [(3, .int ((j >>> ((4 : Int32) &&& 31)) &&& 15)), (2, .int (k &&& j)), (0, .int k), (1, .int j)]) dX1_isBelow_10 (by decide) rfl ?_
  refine r_iload_n dX1_isBelow_11 2 rfl ?_
  refine r_bipush (v := 8) dX1_isBelow_12 (by decide) ?_
  refine r_ishr dX1_isBelow_14 ?_
  refine r_sipush (v := 4095) dX1_isBelow_15 (by decide) ?_
  refine r_iand dX1_isBelow_18 ?_
  refine r_istore (lo' := [(4, .int (p_lw k)), (3, .int ((j >>> ((4 : Int32) &&& 31)) &&& 15)), (2, .int (k &&& j)), (0, .int k), (1, .int j)]) dX1_isBelow_19 (by decide) rfl ?_
  refine r_iload_n dX1_isBelow_21 4 rfl ?_
  refine r_bipush (v := 8) dX1_isBelow_22 (by decide) ?_
  refine r_ishr dX1_isBelow_24 ?_
  refine r_sipush (v := 4095) dX1_isBelow_25 (by decide) ?_
  refine r_iand dX1_isBelow_28 ?_
  refine r_istore (lo' := [(5, .int (p_lw j)), (4, .int (p_lw k)), (3, .int ((j >>> ((4 : Int32) &&& 31)) &&& 15)), (2, .int (k &&& j)), (0, .int k), (1, .int j)]) dX1_isBelow_29 (by decide) rfl ?_
  refine r_iload_n dX1_isBelow_31 4 rfl ?_
  refine r_iload_n dX1_isBelow_32 5 rfl ?_
  refine r_icmp_eq (t := 63) dX1_isBelow_33 (by decide) (fun c1 => ?_) (fun c1 => ?_)
  · have c1 : k = j := c1
    refine r_iconst (v := 0) dX1_isBelow_63 (by decide) ?_
    refine r_zret rfl (by decide) dX1_isBelow_64 ?_
    exact ⟨by unfold p_bl; simp only [eq_true c1, not_true_eq_false, not_false_eq_true, ↓reduceIte], rfl⟩
  · have c1 : ¬ (k = j) := c1
    refine r_iload_n dX1_isBelow_36 3 rfl ?_
    refine r_ldc (v := 1048576) dX1_isBelow_37 co_X1_82 ?_
    refine r_iand dX1_isBelow_39 ?_
    refine r_if_eq (t := 63) dX1_isBelow_40 (by decide) (fun c2 => ?_) (fun c2 => ?_)
    · have c2 : ((k &&& j) &&& 1048576) = 0 := c2
      refine r_iconst (v := 0) dX1_isBelow_63 (by decide) ?_
      refine r_zret rfl (by decide) dX1_isBelow_64 ?_
      exact ⟨by unfold p_bl; simp only [eq_false c1, eq_true c2, not_true_eq_false, not_false_eq_true, ↓reduceIte], rfl⟩
    · have c2 : ¬ (((k &&& j) &&& 1048576) = 0) := c2
      refine r_iload_n dX1_isBelow_43 4 rfl ?_
      refine r_bipush (v := 15) dX1_isBelow_44 (by decide) ?_
      refine r_iand dX1_isBelow_46 ?_
      refine r_iload_n dX1_isBelow_47 5 rfl ?_
      refine r_bipush (v := 15) dX1_isBelow_48 (by decide) ?_
      refine r_iand dX1_isBelow_50 ?_
      refine r_icmp_ne (t := 63) dX1_isBelow_51 (by decide) (fun c3 => ?_) (fun c3 => ?_)
      · have c3 : ¬ ((k &&& 15) = (j &&& 15)) := c3
        refine r_iconst (v := 0) dX1_isBelow_63 (by decide) ?_
        refine r_zret rfl (by decide) dX1_isBelow_64 ?_
        exact ⟨by unfold p_bl; simp only [eq_false c1, eq_false c2, eq_false c3, not_true_eq_false, not_false_eq_true, ↓reduceIte], rfl⟩
      · have c3 : (k &&& 15) = (j &&& 15) := c3
        refine r_iload_n dX1_isBelow_54 2 rfl ?_
        refine r_iload_n dX1_isBelow_55 3 rfl ?_
        refine r_iconst (v := 4) dX1_isBelow_56 (by decide) ?_
        refine r_ishr dX1_isBelow_57 ?_
        refine r_iand dX1_isBelow_58 ?_
        refine r_iload_n dX1_isBelow_59 2 rfl ?_
        refine r_icmp_eq (t := 65) dX1_isBelow_60 (by decide) (fun c4 => ?_) (fun c4 => ?_)
        · have c4 : (((j >>> ((4 : Int32) &&& 31)) &&& 15) &&& ((k &&& j) >>> ((4 : Int32) &&& 31))) = ((j >>> ((4 : Int32) &&& 31)) &&& 15) := c4
          refine r_iconst (v := 0) dX1_isBelow_65 (by decide) ?_
          refine r_istore (lo' := [(6, .int 0), (5, .int (p_lw j)), (4, .int (p_lw k)), (3, .int ((j >>> ((4 : Int32) &&& 31)) &&& 15)), (2, .int (k &&& j)), (0, .int k), (1, .int j)]) dX1_isBelow_66 (by decide) rfl ?_
          refine r_iload dX1_isBelow_68 0 rfl ?_
          refine r_iconst (v := 4) dX1_isBelow_70 (by decide) ?_
          refine r_icmp_ge (t := 99) dX1_isBelow_71 (by decide) (fun hh => absurd hh (by decide)) (fun _ => ?_)
          refine r_iload dX1_isBelow_74 2 rfl ?_
          refine r_iload dX1_isBelow_76 0 rfl ?_
          refine x_callS (Y := mX4_rankOf) (d' := 1) dX1_isBelow_78 ml_X1_118 ys_X4_rankOf (by omega) rfl rfl (by simp [Value.category]) (c_X4_rankOf σ (p_lw k) 0) ?_
          refine r_iload dX1_isBelow_81 1 rfl ?_
          refine r_iload dX1_isBelow_83 0 rfl ?_
          refine x_callS (Y := mX4_rankOf) (d' := 1) dX1_isBelow_85 ml_X1_118 ys_X4_rankOf (by omega) rfl rfl (by simp [Value.category]) (c_X4_rankOf σ (p_lw j) 0) ?_
          refine r_icmp_le (t := 93) dX1_isBelow_88 (by decide) (fun c5 => ?_) (fun c5 => ?_)
          · have c5 : (k_ro (p_lw k) 0) ≤ (k_ro (p_lw j) 0) := c5
            refine r_iinc (v := 1) (lo' := [(6, .int 1), (5, .int (p_lw j)), (4, .int (p_lw k)), (3, .int ((j >>> ((4 : Int32) &&& 31)) &&& 15)), (2, .int (k &&& j)), (0, .int k), (1, .int j)]) dX1_isBelow_93 0 rfl (by decide) (by decide) rfl ?_
            refine r_goto (t := 68) dX1_isBelow_96 (by decide) ?_
            refine r_iload dX1_isBelow_68 0 rfl ?_
            refine r_iconst (v := 4) dX1_isBelow_70 (by decide) ?_
            refine r_icmp_ge (t := 99) dX1_isBelow_71 (by decide) (fun hh => absurd hh (by decide)) (fun _ => ?_)
            refine r_iload dX1_isBelow_74 2 rfl ?_
            refine r_iload dX1_isBelow_76 0 rfl ?_
            refine x_callS (Y := mX4_rankOf) (d' := 1) dX1_isBelow_78 ml_X1_118 ys_X4_rankOf (by omega) rfl rfl (by simp [Value.category]) (c_X4_rankOf σ (p_lw k) 1) ?_
            refine r_iload dX1_isBelow_81 1 rfl ?_
            refine r_iload dX1_isBelow_83 0 rfl ?_
            refine x_callS (Y := mX4_rankOf) (d' := 1) dX1_isBelow_85 ml_X1_118 ys_X4_rankOf (by omega) rfl rfl (by simp [Value.category]) (c_X4_rankOf σ (p_lw j) 1) ?_
            refine r_icmp_le (t := 93) dX1_isBelow_88 (by decide) (fun c6 => ?_) (fun c6 => ?_)
            · have c6 : (k_ro (p_lw k) 1) ≤ (k_ro (p_lw j) 1) := c6
              refine r_iinc (v := 2) (lo' := [(6, .int 2), (5, .int (p_lw j)), (4, .int (p_lw k)), (3, .int ((j >>> ((4 : Int32) &&& 31)) &&& 15)), (2, .int (k &&& j)), (0, .int k), (1, .int j)]) dX1_isBelow_93 0 rfl (by decide) (by decide) rfl ?_
              refine r_goto (t := 68) dX1_isBelow_96 (by decide) ?_
              refine r_iload dX1_isBelow_68 0 rfl ?_
              refine r_iconst (v := 4) dX1_isBelow_70 (by decide) ?_
              refine r_icmp_ge (t := 99) dX1_isBelow_71 (by decide) (fun hh => absurd hh (by decide)) (fun _ => ?_)
              refine r_iload dX1_isBelow_74 2 rfl ?_
              refine r_iload dX1_isBelow_76 0 rfl ?_
              refine x_callS (Y := mX4_rankOf) (d' := 1) dX1_isBelow_78 ml_X1_118 ys_X4_rankOf (by omega) rfl rfl (by simp [Value.category]) (c_X4_rankOf σ (p_lw k) 2) ?_
              refine r_iload dX1_isBelow_81 1 rfl ?_
              refine r_iload dX1_isBelow_83 0 rfl ?_
              refine x_callS (Y := mX4_rankOf) (d' := 1) dX1_isBelow_85 ml_X1_118 ys_X4_rankOf (by omega) rfl rfl (by simp [Value.category]) (c_X4_rankOf σ (p_lw j) 2) ?_
              refine r_icmp_le (t := 93) dX1_isBelow_88 (by decide) (fun c7 => ?_) (fun c7 => ?_)
              · have c7 : (k_ro (p_lw k) 2) ≤ (k_ro (p_lw j) 2) := c7
                refine r_iinc (v := 3) (lo' := [(6, .int 3), (5, .int (p_lw j)), (4, .int (p_lw k)), (3, .int ((j >>> ((4 : Int32) &&& 31)) &&& 15)), (2, .int (k &&& j)), (0, .int k), (1, .int j)]) dX1_isBelow_93 0 rfl (by decide) (by decide) rfl ?_
                refine r_goto (t := 68) dX1_isBelow_96 (by decide) ?_
                refine r_iload dX1_isBelow_68 0 rfl ?_
                refine r_iconst (v := 4) dX1_isBelow_70 (by decide) ?_
                refine r_icmp_ge (t := 99) dX1_isBelow_71 (by decide) (fun hh => absurd hh (by decide)) (fun _ => ?_)
                refine r_iload dX1_isBelow_74 2 rfl ?_
                refine r_iload dX1_isBelow_76 0 rfl ?_
                refine x_callS (Y := mX4_rankOf) (d' := 1) dX1_isBelow_78 ml_X1_118 ys_X4_rankOf (by omega) rfl rfl (by simp [Value.category]) (c_X4_rankOf σ (p_lw k) 3) ?_
                refine r_iload dX1_isBelow_81 1 rfl ?_
                refine r_iload dX1_isBelow_83 0 rfl ?_
                refine x_callS (Y := mX4_rankOf) (d' := 1) dX1_isBelow_85 ml_X1_118 ys_X4_rankOf (by omega) rfl rfl (by simp [Value.category]) (c_X4_rankOf σ (p_lw j) 3) ?_
                refine r_icmp_le (t := 93) dX1_isBelow_88 (by decide) (fun c8 => ?_) (fun c8 => ?_)
                · have c8 : (k_ro (p_lw k) 3) ≤ (k_ro (p_lw j) 3) := c8
                  refine r_iinc (v := 4) (lo' := [(6, .int 4), (5, .int (p_lw j)), (4, .int (p_lw k)), (3, .int ((j >>> ((4 : Int32) &&& 31)) &&& 15)), (2, .int (k &&& j)), (0, .int k), (1, .int j)]) dX1_isBelow_93 0 rfl (by decide) (by decide) rfl ?_
                  refine r_goto (t := 68) dX1_isBelow_96 (by decide) ?_
                  refine r_iload dX1_isBelow_68 0 rfl ?_
                  refine r_iconst (v := 4) dX1_isBelow_70 (by decide) ?_
                  refine r_icmp_ge (t := 99) dX1_isBelow_71 (by decide) (fun _ => ?_) (fun hh => absurd (by decide) hh)
                  refine r_iload dX1_isBelow_99 2 rfl ?_
                  refine x_callS (Y := mX4_greatestOf) (d' := 2) dX1_isBelow_101 ml_X1_104 ys_X4_greatestOf (by omega) rfl rfl (by simp [Value.category]) (c_X4_greatestOf σ (p_lw k)) ?_
                  refine r_iload dX1_isBelow_104 1 rfl ?_
                  refine x_callS (Y := mX4_greatestOf) (d' := 2) dX1_isBelow_106 ml_X1_104 ys_X4_greatestOf (by omega) rfl rfl (by simp [Value.category]) (c_X4_greatestOf σ (p_lw j)) ?_
                  refine r_icmp_ne (t := 116) dX1_isBelow_109 (by decide) (fun c9 => ?_) (fun c9 => ?_)
                  · have c9 : ¬ ((k_go (p_lw k)) = (k_go (p_lw j))) := c9
                    refine r_iconst (v := 0) dX1_isBelow_116 (by decide) ?_
                    refine r_zret rfl (by decide) dX1_isBelow_117 ?_
                    exact ⟨by unfold p_bl; simp only [eq_false c1, eq_false c2, eq_true c3, eq_true c4, eq_true c5, eq_true c6, eq_true c7, eq_true c8, eq_false c9, not_true_eq_false, not_false_eq_true, ↓reduceIte], rfl⟩
                  · have c9 : (k_go (p_lw k)) = (k_go (p_lw j)) := c9
                    refine r_iconst (v := 1) dX1_isBelow_112 (by decide) ?_
                    refine r_goto (t := 117) dX1_isBelow_113 (by decide) ?_
                    refine r_zret rfl (by decide) dX1_isBelow_117 ?_
                    exact ⟨by unfold p_bl; simp only [eq_false c1, eq_false c2, eq_true c3, eq_true c4, eq_true c5, eq_true c6, eq_true c7, eq_true c8, eq_true c9, not_true_eq_false, not_false_eq_true, ↓reduceIte], rfl⟩
                · have c8 : ¬ ((k_ro (p_lw k) 3) ≤ (k_ro (p_lw j) 3)) := c8
                  refine r_iconst (v := 0) dX1_isBelow_91 (by decide) ?_
                  refine r_zret rfl (by decide) dX1_isBelow_92 ?_
                  exact ⟨by unfold p_bl; simp only [eq_false c1, eq_false c2, eq_true c3, eq_true c4, eq_true c5, eq_true c6, eq_true c7, eq_false c8, not_true_eq_false, not_false_eq_true, ↓reduceIte], rfl⟩
              · have c7 : ¬ ((k_ro (p_lw k) 2) ≤ (k_ro (p_lw j) 2)) := c7
                refine r_iconst (v := 0) dX1_isBelow_91 (by decide) ?_
                refine r_zret rfl (by decide) dX1_isBelow_92 ?_
                exact ⟨by unfold p_bl; simp only [eq_false c1, eq_false c2, eq_true c3, eq_true c4, eq_true c5, eq_true c6, eq_false c7, not_true_eq_false, not_false_eq_true, ↓reduceIte], rfl⟩
            · have c6 : ¬ ((k_ro (p_lw k) 1) ≤ (k_ro (p_lw j) 1)) := c6
              refine r_iconst (v := 0) dX1_isBelow_91 (by decide) ?_
              refine r_zret rfl (by decide) dX1_isBelow_92 ?_
              exact ⟨by unfold p_bl; simp only [eq_false c1, eq_false c2, eq_true c3, eq_true c4, eq_true c5, eq_false c6, not_true_eq_false, not_false_eq_true, ↓reduceIte], rfl⟩
          · have c5 : ¬ ((k_ro (p_lw k) 0) ≤ (k_ro (p_lw j) 0)) := c5
            refine r_iconst (v := 0) dX1_isBelow_91 (by decide) ?_
            refine r_zret rfl (by decide) dX1_isBelow_92 ?_
            exact ⟨by unfold p_bl; simp only [eq_false c1, eq_false c2, eq_true c3, eq_true c4, eq_false c5, not_true_eq_false, not_false_eq_true, ↓reduceIte], rfl⟩
        · have c4 : ¬ ((((j >>> ((4 : Int32) &&& 31)) &&& 15) &&& ((k &&& j) >>> ((4 : Int32) &&& 31))) = ((j >>> ((4 : Int32) &&& 31)) &&& 15)) := c4
          refine r_iconst (v := 0) dX1_isBelow_63 (by decide) ?_
          refine r_zret rfl (by decide) dX1_isBelow_64 ?_
          exact ⟨by unfold p_bl; simp only [eq_false c1, eq_false c2, eq_true c3, eq_false c4, not_true_eq_false, not_false_eq_true, ↓reduceIte], rfl⟩
def p_ev (t r : Int32) : Nat → Int32
  | 0 => 0
  | i + 1 => if q_in (nI i) t = 0 then p_ev t r i else if k_ro r (nI i) &&& 1 = 0 then p_ev t r i ||| ((1 : Int32) <<< (nI i &&& 31)) else p_ev t r i
theorem l_X1_even {ad : Nat → Nat} {σ : sS} {t r : Int32} : ∀ (n i : Nat), i + n = 4 → ab_E (sR ad) mX1_evenOnes 2 4 [(3, .int (nI i)), (2, .int (p_ev t r i)), (0, .int t), (1, .int r)] [] σ (fun r9 σ' => r9 = some (.int (p_ev t r 4)) ∧ σ' = σ) := by
  intro n
  induction n with
  | zero =>
    intro i hi
    have hi : i = 4 := by omega
    subst hi
    have hc : (4 : Int32) ≤ nI 4 := by decide
    refine r_iload_n dX1_evenOnes_4 0 rfl ?_
    refine r_iconst (v := 4) dX1_evenOnes_5 (by decide) ?_
    refine r_icmp_ge (t := 39) dX1_evenOnes_6 (by decide) (fun _ => ?_) (fun hh => absurd hc hh)
    refine r_iload_n dX1_evenOnes_39 1 rfl ?_
    refine r_iret rfl dX1_evenOnes_40 ?_
    exact ⟨rfl, rfl⟩
  | succ n ih =>
    intro i hi
    have hc : ¬ (4 : Int32) ≤ nI i := nI_ge (b := 4) (by omega) (by decide)
    refine r_iload_n dX1_evenOnes_4 0 rfl ?_
    refine r_iconst (v := 4) dX1_evenOnes_5 (by decide) ?_
    refine r_icmp_ge (t := 39) dX1_evenOnes_6 (by decide) (fun hh => absurd hh hc) (fun _ => ?_)
    refine r_iload_n dX1_evenOnes_9 0 rfl ?_
    refine r_iload_n dX1_evenOnes_10 2 rfl ?_
    refine x_callSN (Y := mX11_isIn) (d' := 1) dX1_evenOnes_11 mn_X1_114 ys_X11_isIn (by omega) rfl rfl (by simp [Value.category]) (c_X11_isIn σ (nI i) t) ?_
    refine r_if_eq (t := 33) dX1_evenOnes_14 (by decide) (fun c1 => ?_) (fun c1 => ?_)
    · have c1 : (q_in (nI i) t) = 0 := c1
      refine r_iinc (v := (nI i) + 1) (lo' := [(3, .int ((nI i) + 1)), (2, .int (p_ev t r i)), (0, .int t), (1, .int r)]) dX1_evenOnes_33 0 rfl rfl (by decide) rfl ?_
      refine r_goto (t := 4) dX1_evenOnes_36 (by decide) ?_
      rw [nI_1]
      have e2 : p_ev t r (i + 1) = p_ev t r i := by rw [p_ev]; simp only [eq_true c1, ↓reduceIte]
      rw [← e2]
      exact ab_E.lo [0, 1, 2, 3] rfl (ih (i + 1) (by omega))
    · have c1 : ¬ ((q_in (nI i) t) = 0) := c1
      refine r_iload_n dX1_evenOnes_17 3 rfl ?_
      refine r_iload_n dX1_evenOnes_18 0 rfl ?_
      refine x_callS (Y := mX4_rankOf) (d' := 1) dX1_evenOnes_19 ml_X1_118 ys_X4_rankOf (by omega) rfl rfl (by simp [Value.category]) (c_X4_rankOf σ r (nI i)) ?_
      refine r_iconst (v := 1) dX1_evenOnes_22 (by decide) ?_
      refine r_iand dX1_evenOnes_23 ?_
      refine r_if_ne (t := 33) dX1_evenOnes_24 (by decide) (fun c2 => ?_) (fun c2 => ?_)
      · have c2 : ¬ (((k_ro r (nI i)) &&& 1) = 0) := c2
        refine r_iinc (v := (nI i) + 1) (lo' := [(3, .int ((nI i) + 1)), (2, .int (p_ev t r i)), (0, .int t), (1, .int r)]) dX1_evenOnes_33 0 rfl rfl (by decide) rfl ?_
        refine r_goto (t := 4) dX1_evenOnes_36 (by decide) ?_
        rw [nI_1]
        have e2 : p_ev t r (i + 1) = p_ev t r i := by rw [p_ev]; simp only [eq_false c1, eq_false c2, ↓reduceIte]
        rw [← e2]
        exact ab_E.lo [0, 1, 2, 3] rfl (ih (i + 1) (by omega))
      · have c2 : ((k_ro r (nI i)) &&& 1) = 0 := c2
        refine r_iload_n dX1_evenOnes_27 1 rfl ?_
        refine r_iconst (v := 1) dX1_evenOnes_28 (by decide) ?_
        refine r_iload_n dX1_evenOnes_29 0 rfl ?_
        refine r_ishl dX1_evenOnes_30 ?_
        refine r_ior dX1_evenOnes_31 ?_
        refine r_istore_n (lo' := [(2, .int ((p_ev t r i) ||| ((1 : Int32) <<< ((nI i) &&& 31)))), (3, .int (nI i)), (0, .int t), (1, .int r)]) dX1_evenOnes_32 (by decide) rfl ?_
        refine r_iinc (v := (nI i) + 1) (lo' := [(3, .int ((nI i) + 1)), (2, .int ((p_ev t r i) ||| ((1 : Int32) <<< ((nI i) &&& 31)))), (0, .int t), (1, .int r)]) dX1_evenOnes_33 1 rfl rfl (by decide) rfl ?_
        refine r_goto (t := 4) dX1_evenOnes_36 (by decide) ?_
        rw [nI_1]
        have e2 : p_ev t r (i + 1) = (p_ev t r i) ||| ((1 : Int32) <<< ((nI i) &&& 31)) := by rw [p_ev]; simp only [eq_false c1, eq_true c2, ↓reduceIte]
        rw [← e2]
        exact ab_E.lo [0, 1, 2, 3] rfl (ih (i + 1) (by omega))
theorem c_X1_evenOnes {ad : Nat → Nat} (σ : sS) (t r : Int32) : ab_X (sR ad) 2 mX1_evenOnes [.int t, .int r] σ (some (.int (p_ev t r 4))) σ := by
  refine ab_X.of (by decide) (Nat.le_of_ble_eq_true rfl) ?_
  refine r_iconst (v := 0) dX1_evenOnes_0 (by decide) ?_
  refine r_istore_n (lo' := [(2, .int 0), (0, .int t), (1, .int r)]) dX1_evenOnes_1 (by decide) rfl ?_
  refine r_iconst (v := 0) dX1_evenOnes_2 (by decide) ?_
  refine r_istore_n (lo' := [(3, .int 0), (2, .int 0), (0, .int t), (1, .int r)]) dX1_evenOnes_3 (by decide) rfl ?_
  exact l_X1_even 4 0 (by decide)
def p_ci (σ : sS) (a : Nat) (k s t : Int32) : Nat → Int32
  | 0 => 7
  | i + 1 => if q_in (nI i) (k &&& 15) = 0 then p_ci σ a k s t i else if a_jn σ a (nI i) s t = 0 then p_ci σ a k s t i else mnI (p_ci σ a k s t i) (k_ro (k >>> ((8 : Int32) &&& 31)) (nI i))
def p_ca (σ : sS) (a : Nat) (k s : Int32) (N : Nat) : Nat → Int32
  | 0 => 0
  | i + 1 => k_wr (p_ca σ a k s N i) (nI i) (p_ci σ a k s (nI i) N)
theorem l_X1_caps1 {ad : Nat → Nat} {σ : sS} {Q : Option Value → sS → Prop} {c N : Nat} (hc0 : la c = (1, 1)) (hN : vI σ (c - 6) 1 = nI N) (hN4 : N ≤ 4) {k s u : Int32} {t : Nat} : ∀ (n i : Nat), i + n = N → ab_E (sR ad) mX1_capsAfter 4 85 [(6, .int (nI N)), (5, .int (p_ci σ (c - 6) k s (nI t) N)), (4, .int (nI t)), (3, .int u), (0, .ref (ad c)), (1, .int k), (2, .int s)] [] σ Q → ab_E (sR ad) mX1_capsAfter 4 24 [(6, .int (nI i)), (5, .int (p_ci σ (c - 6) k s (nI t) i)), (4, .int (nI t)), (3, .int u), (0, .ref (ad c)), (1, .int k), (2, .int s)] [] σ Q := by
  intro n
  induction n with
  | zero =>
    intro i hi K
    have hi : i = N := by omega
    subst hi
    have hc : vI σ (c - 6) 1 ≤ nI i := by rw [hN]; exact nI_le (by omega) (by omega)
    refine r_iload dX1_capsAfter_24 0 rfl ?_
    refine r_aload_n dX1_capsAfter_26 4 rfl ?_
    refine s_getR (b := c - 6) ok_X1 dX1_capsAfter_27 (k := 0) (by decide) fl_X1_26 hc0 rfl (cq_s0 hc0) ?_
    refine s_getI ok_X0 dX1_capsAfter_30 (k := 1) (by decide) fl_X1_121 (cq_m hc0) rfl ?_
    refine r_icmp_ge (t := 85) dX1_capsAfter_33 (by decide) (fun _ => ?_) (fun hh => absurd hc hh)
    exact K
  | succ n ih =>
    intro i hi K
    have hc : ¬ vI σ (c - 6) 1 ≤ nI i := by rw [hN]; exact nI_ge (by omega) (by omega)
    refine r_iload dX1_capsAfter_24 0 rfl ?_
    refine r_aload_n dX1_capsAfter_26 4 rfl ?_
    refine s_getR (b := c - 6) ok_X1 dX1_capsAfter_27 (k := 0) (by decide) fl_X1_26 hc0 rfl (cq_s0 hc0) ?_
    refine s_getI ok_X0 dX1_capsAfter_30 (k := 1) (by decide) fl_X1_121 (cq_m hc0) rfl ?_
    refine r_icmp_ge (t := 85) dX1_capsAfter_33 (by decide) (fun hh => absurd hh hc) (fun _ => ?_)
    refine r_iload dX1_capsAfter_36 0 rfl ?_
    refine r_iload_n dX1_capsAfter_38 5 rfl ?_
    refine r_bipush (v := 15) dX1_capsAfter_39 (by decide) ?_
    refine r_iand dX1_capsAfter_41 ?_
    refine x_callSN (Y := mX11_isIn) (d' := 1) dX1_capsAfter_42 mn_X1_114 ys_X11_isIn (by omega) rfl rfl (by simp [Value.category]) (c_X11_isIn σ (nI i) (k &&& 15)) ?_
    refine r_if_eq (t := 79) dX1_capsAfter_45 (by decide) (fun c1 => ?_) (fun c1 => ?_)
    · have c1 : (q_in (nI i) (k &&& 15)) = 0 := c1
      refine r_iinc (v := (nI i) + 1) (lo' := [(6, .int ((nI i) + 1)), (5, .int (p_ci σ (c - 6) k s (nI t) i)), (4, .int (nI t)), (3, .int u), (0, .ref (ad c)), (1, .int k), (2, .int s)]) dX1_capsAfter_79 0 rfl rfl (by decide) rfl ?_
      refine r_goto (t := 24) dX1_capsAfter_82 (by decide) ?_
      rw [nI_1]
      have e5 : p_ci σ (c - 6) k s (nI t) (i + 1) = p_ci σ (c - 6) k s (nI t) i := by rw [p_ci]; simp only [eq_true c1, ↓reduceIte]
      rw [← e5]
      exact ab_E.lo [0, 1, 2, 3, 4, 5, 6] rfl (ih (i + 1) (by omega) K)
    · have c1 : ¬ ((q_in (nI i) (k &&& 15)) = 0) := c1
      refine r_aload_n dX1_capsAfter_48 4 rfl ?_
      refine s_getR (b := c - 6) ok_X1 dX1_capsAfter_49 (k := 0) (by decide) fl_X1_26 hc0 rfl (cq_s0 hc0) ?_
      refine r_iload dX1_capsAfter_52 0 rfl ?_
      refine r_iload_n dX1_capsAfter_54 6 rfl ?_
      refine r_iload dX1_capsAfter_55 2 rfl ?_
      refine x_callV (Y := mX0_joins) (d' := 3) dX1_capsAfter_57 ml_X1_124 yv_X0_joins (by omega) rfl rfl (by simp [Value.category]) (sR_is (cq_m hc0) rfl) (c_X0_joins σ (cq_m hc0) (nI i) s (nI t)) ?_
      refine r_if_eq (t := 79) dX1_capsAfter_60 (by decide) (fun c2 => ?_) (fun c2 => ?_)
      · have c2 : (a_jn σ (c - 6) (nI i) s (nI t)) = 0 := c2
        refine r_iinc (v := (nI i) + 1) (lo' := [(6, .int ((nI i) + 1)), (5, .int (p_ci σ (c - 6) k s (nI t) i)), (4, .int (nI t)), (3, .int u), (0, .ref (ad c)), (1, .int k), (2, .int s)]) dX1_capsAfter_79 0 rfl rfl (by decide) rfl ?_
        refine r_goto (t := 24) dX1_capsAfter_82 (by decide) ?_
        rw [nI_1]
        have e5 : p_ci σ (c - 6) k s (nI t) (i + 1) = p_ci σ (c - 6) k s (nI t) i := by rw [p_ci]; simp only [eq_false c1, eq_true c2, ↓reduceIte]
        rw [← e5]
        exact ab_E.lo [0, 1, 2, 3, 4, 5, 6] rfl (ih (i + 1) (by omega) K)
      · have c2 : ¬ ((a_jn σ (c - 6) (nI i) s (nI t)) = 0) := c2
        refine r_iload dX1_capsAfter_63 1 rfl ?_
        refine r_iload_n dX1_capsAfter_65 5 rfl ?_
        refine r_bipush (v := 8) dX1_capsAfter_66 (by decide) ?_
        refine r_ishr dX1_capsAfter_68 ?_
        refine r_iload dX1_capsAfter_69 0 rfl ?_
        refine x_callS (Y := mX4_rankOf) (d' := 1) dX1_capsAfter_71 ml_X1_118 ys_X4_rankOf (by omega) rfl rfl (by simp [Value.category]) (c_X4_rankOf σ (k >>> ((8 : Int32) &&& 31)) (nI i)) ?_
        refine r_min dX1_capsAfter_74 (by omega) ml_X1_128 ma_mins ma_i ma_minc (by simp [Value.category]) ?_
        refine r_istore (lo' := [(5, .int (mnI (p_ci σ (c - 6) k s (nI t) i) (k_ro (k >>> ((8 : Int32) &&& 31)) (nI i)))), (6, .int (nI i)), (4, .int (nI t)), (3, .int u), (0, .ref (ad c)), (1, .int k), (2, .int s)]) dX1_capsAfter_77 (by decide) rfl ?_
        refine r_iinc (v := (nI i) + 1) (lo' := [(6, .int ((nI i) + 1)), (5, .int (mnI (p_ci σ (c - 6) k s (nI t) i) (k_ro (k >>> ((8 : Int32) &&& 31)) (nI i)))), (4, .int (nI t)), (3, .int u), (0, .ref (ad c)), (1, .int k), (2, .int s)]) dX1_capsAfter_79 1 rfl rfl (by decide) rfl ?_
        refine r_goto (t := 24) dX1_capsAfter_82 (by decide) ?_
        rw [nI_1]
        have e5 : p_ci σ (c - 6) k s (nI t) (i + 1) = mnI (p_ci σ (c - 6) k s (nI t) i) (k_ro (k >>> ((8 : Int32) &&& 31)) (nI i)) := by rw [p_ci]; simp only [eq_false c1, eq_false c2, ↓reduceIte]
        rw [← e5]
        exact ab_E.lo [0, 1, 2, 3, 4, 5, 6] rfl (ih (i + 1) (by omega) K)
theorem l_X1_caps {ad : Nat → Nat} {σ : sS} {c N : Nat} (hc0 : la c = (1, 1)) (hN : vI σ (c - 6) 1 = nI N) (hN4 : N ≤ 4) {k s : Int32} : ∀ (n i : Nat), i + n = N → ab_E (sR ad) mX1_capsAfter 4 5 [(4, .int (nI i)), (3, .int (p_ca σ (c - 6) k s N i)), (0, .ref (ad c)), (1, .int k), (2, .int s)] [] σ (fun r9 σ' => r9 = some (.int (p_ca σ (c - 6) k s N N)) ∧ σ' = σ) := by
  intro n
  induction n with
  | zero =>
    intro i hi
    have hi : i = N := by omega
    subst hi
    have hc : vI σ (c - 6) 1 ≤ nI i := by rw [hN]; exact nI_le (by omega) (by omega)
    refine r_iload dX1_capsAfter_5 0 rfl ?_
    refine r_aload_n dX1_capsAfter_7 2 rfl ?_
    refine s_getR (b := c - 6) ok_X1 dX1_capsAfter_8 (k := 0) (by decide) fl_X1_26 hc0 rfl (cq_s0 hc0) ?_
    refine s_getI ok_X0 dX1_capsAfter_11 (k := 1) (by decide) fl_X1_121 (cq_m hc0) rfl ?_
    refine r_icmp_ge (t := 100) dX1_capsAfter_14 (by decide) (fun _ => ?_) (fun hh => absurd hc hh)
    refine r_iload_n dX1_capsAfter_100 1 rfl ?_
    refine r_iret rfl dX1_capsAfter_101 ?_
    exact ⟨rfl, rfl⟩
  | succ n ih =>
    intro i hi
    have hc : ¬ vI σ (c - 6) 1 ≤ nI i := by rw [hN]; exact nI_ge (by omega) (by omega)
    refine r_iload dX1_capsAfter_5 0 rfl ?_
    refine r_aload_n dX1_capsAfter_7 2 rfl ?_
    refine s_getR (b := c - 6) ok_X1 dX1_capsAfter_8 (k := 0) (by decide) fl_X1_26 hc0 rfl (cq_s0 hc0) ?_
    refine s_getI ok_X0 dX1_capsAfter_11 (k := 1) (by decide) fl_X1_121 (cq_m hc0) rfl ?_
    refine r_icmp_ge (t := 100) dX1_capsAfter_14 (by decide) (fun hh => absurd hh hc) (fun _ => ?_)
    refine r_bipush (v := 7) dX1_capsAfter_17 (by decide) ?_
    refine r_istore (lo' := [(5, .int 7), (4, .int (nI i)), (3, .int (p_ca σ (c - 6) k s N i)), (0, .ref (ad c)), (1, .int k), (2, .int s)]) dX1_capsAfter_19 (by decide) rfl ?_
    refine r_iconst (v := 0) dX1_capsAfter_21 (by decide) ?_
    refine r_istore (lo' := [(6, .int 0), (5, .int 7), (4, .int (nI i)), (3, .int (p_ca σ (c - 6) k s N i)), (0, .ref (ad c)), (1, .int k), (2, .int s)]) dX1_capsAfter_22 (by decide) rfl ?_
    refine ab_E.lo [0, 1, 2, 3, 4, 5, 6] (lo' := [(6, .int (nI 0)), (5, .int (p_ci σ (c - 6) k s (nI i) 0)), (4, .int (nI i)), (3, .int (p_ca σ (c - 6) k s N i)), (0, .ref (ad c)), (1, .int k), (2, .int s)]) rfl ?_
    refine l_X1_caps1 hc0 hN hN4 N 0 (by omega) ?_
    refine r_iload_n dX1_capsAfter_85 3 rfl ?_
    refine r_iload dX1_capsAfter_86 2 rfl ?_
    refine r_iload dX1_capsAfter_88 1 rfl ?_
    refine x_callS (Y := mX4_withRank) (d' := 1) dX1_capsAfter_90 ml_X1_133 ys_X4_withRank (by omega) rfl rfl (by simp [Value.category]) (c_X4_withRank σ (p_ca σ (c - 6) k s N i) (nI i) (p_ci σ (c - 6) k s (nI i) N)) ?_
    refine r_istore_n (lo' := [(3, .int (k_wr (p_ca σ (c - 6) k s N i) (nI i) (p_ci σ (c - 6) k s (nI i) N))), (6, .int (nI N)), (5, .int (p_ci σ (c - 6) k s (nI i) N)), (4, .int (nI i)), (0, .ref (ad c)), (1, .int k), (2, .int s)]) dX1_capsAfter_93 (by decide) rfl ?_
    refine r_iinc (v := (nI i) + 1) (lo' := [(4, .int ((nI i) + 1)), (3, .int (k_wr (p_ca σ (c - 6) k s N i) (nI i) (p_ci σ (c - 6) k s (nI i) N))), (6, .int (nI N)), (5, .int (p_ci σ (c - 6) k s (nI i) N)), (0, .ref (ad c)), (1, .int k), (2, .int s)]) dX1_capsAfter_94 3 rfl rfl (by decide) rfl ?_
    refine r_goto (t := 5) dX1_capsAfter_97 (by decide) ?_
    rw [nI_1]
    have e3 : p_ca σ (c - 6) k s N (i + 1) = k_wr (p_ca σ (c - 6) k s N i) (nI i) (p_ci σ (c - 6) k s (nI i) N) := by rw [p_ca]
    rw [← e3]
    exact ab_E.lo [0, 1, 4, 5, 6] rfl (ih (i + 1) (by omega))
theorem c_X1_capsAfter {ad : Nat → Nat} (σ : sS) {c N : Nat} (hc0 : la c = (1, 1)) (hN : vI σ (c - 6) 1 = nI N) (hN4 : N ≤ 4) (k s : Int32) : ab_X (sR ad) 4 mX1_capsAfter [.ref (ad c), .int k, .int s] σ (some (.int (p_ca σ (c - 6) k s N N))) σ := by
  refine ab_X.of (by decide) (Nat.le_of_ble_eq_true rfl) ?_
  refine r_iconst (v := 0) dX1_capsAfter_0 (by decide) ?_
  refine r_istore_n (lo' := [(3, .int 0), (0, .ref (ad c)), (1, .int k), (2, .int s)]) dX1_capsAfter_1 (by decide) rfl ?_
  refine r_iconst (v := 0) dX1_capsAfter_2 (by decide) ?_
  refine r_istore (lo' := [(4, .int 0), (3, .int 0), (0, .ref (ad c)), (1, .int k), (2, .int s)]) dX1_capsAfter_3 (by decide) rfl ?_
  exact l_X1_caps hc0 hN hN4 N 0 (by omega)
