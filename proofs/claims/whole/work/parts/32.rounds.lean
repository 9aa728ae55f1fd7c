/-! Rounds: the graph. F from, H fresh, G machine, P round -/
def r_d (F H G P : Nat) (σ : sS) : Prop := vR σ 45 1 = some F ∧ vR σ 45 2 = some H ∧ vR σ 45 5 = some G ∧ vR σ 45 6 = some P
theorem r_d.of {F H G P : Nat} {σ τ : sS} (h : r_d F H G P σ) (e : τ.2.2.1 = σ.2.2.1) : r_d F H G P τ := by
  unfold r_d vR
  rw [e]
  exact h
theorem i_le0 {x : Int32} (h : ¬ x ≤ 0) : ¬ x = 0 := fun e => h (by rw [e]; decide)
def r_no (σ : sS) (v : Int32) : Int32 := if vI σ 45 7 ≤ 0 then 0 else v - v / vI σ 45 7 * vI σ 45 7
def r_pl (σ : sS) (v : Int32) : Int32 := if vI σ 45 7 ≤ 0 then 0 else v / vI σ 45 7
def r_V (P : Nat) (σ : sS) (_ : List Int32) : Int32 := vI σ 45 7 * vU σ P
def r_L (_ : sS) (_ : List Int32) : Int32 := 1
def r_F (F : Nat) (σ : sS) (as : List Int32) : Int32 := if vI σ 45 7 ≤ as.getD 0 0 then 0 else if rg σ F (as.getD 0 0) = 0 then 0 else 1
def r_M (σ : sS) (as : List Int32) : Int32 := if rg σ 48 (r_no σ (as.getD 0 0)) = 0 then 0 else 1
def r_N (fN : sS → List Int32 → Int32) (P : Nat) (σ : sS) (as : List Int32) : Int32 := fN σ [r_no σ (as.getD 0 0), rg σ P (r_pl σ (as.getD 0 0))]
def r_E (fE : sS → List Int32 → Int32) (P : Nat) (σ : sS) (as : List Int32) : Int32 := if vU σ P ≤ r_pl σ (as.getD 0 0) + 1 then fE σ [r_no σ (as.getD 0 0), rg σ P (r_pl σ (as.getD 0 0)), as.getD 2 0] else (r_pl σ (as.getD 0 0) + 1) * vI σ 45 7 + fE σ [r_no σ (as.getD 0 0), rg σ P (r_pl σ (as.getD 0 0)), as.getD 2 0]
set_option maxRecDepth 4000 in
theorem c_X6_nodeOf {ad : Nat → Nat} (σ : sS) (v : Int32)  : ab_X (sR ad) 1 mX6_nodeOf [.ref (ad 45), .int v] σ (some (.int (r_no σ v))) σ := by
  refine ab_X.of (by decide) (Nat.le_of_ble_eq_true rfl) ?_
  refine r_aload_n dX6_nodeOf_0 0 rfl ?_
  refine s_getI ok_X6 dX6_nodeOf_1 (k := 7) (by decide) fl_X6_84 rfl rfl ?_
  refine r_if_le (t := 16) dX6_nodeOf_4 (by decide) (fun c1 => ?_) (fun c1 => ?_)
  · have c1 : (vI σ 45 7) ≤ 0 := c1
    refine r_iconst (v := 0) dX6_nodeOf_16 (by decide) ?_
    refine r_iret rfl dX6_nodeOf_17 ?_
    exact ⟨by unfold r_no; simp only [eq_true c1, ↓reduceIte], rfl⟩
  · have c1 : ¬ ((vI σ 45 7) ≤ 0) := c1
    refine r_iload_n dX6_nodeOf_7 1 rfl ?_
    refine r_aload_n dX6_nodeOf_8 0 rfl ?_
    refine s_getI ok_X6 dX6_nodeOf_9 (k := 7) (by decide) fl_X6_84 rfl rfl ?_
    refine r_irem dX6_nodeOf_12 (i_le0 c1) ?_
    refine r_goto (t := 17) dX6_nodeOf_13 (by decide) ?_
    refine r_iret rfl dX6_nodeOf_17 ?_
    exact ⟨by unfold r_no; simp only [eq_false c1, ↓reduceIte], rfl⟩
set_option maxRecDepth 4000 in
theorem c_X6_placeOf {ad : Nat → Nat} (σ : sS) (v : Int32)  : ab_X (sR ad) 1 mX6_placeOf [.ref (ad 45), .int v] σ (some (.int (r_pl σ v))) σ := by
  refine ab_X.of (by decide) (Nat.le_of_ble_eq_true rfl) ?_
  refine r_aload_n dX6_placeOf_0 0 rfl ?_
  refine s_getI ok_X6 dX6_placeOf_1 (k := 7) (by decide) fl_X6_84 rfl rfl ?_
  refine r_if_le (t := 16) dX6_placeOf_4 (by decide) (fun c1 => ?_) (fun c1 => ?_)
  · have c1 : (vI σ 45 7) ≤ 0 := c1
    refine r_iconst (v := 0) dX6_placeOf_16 (by decide) ?_
    refine r_iret rfl dX6_placeOf_17 ?_
    exact ⟨by unfold r_pl; simp only [eq_true c1, ↓reduceIte], rfl⟩
  · have c1 : ¬ ((vI σ 45 7) ≤ 0) := c1
    refine r_iload_n dX6_placeOf_7 1 rfl ?_
    refine r_aload_n dX6_placeOf_8 0 rfl ?_
    refine s_getI ok_X6 dX6_placeOf_9 (k := 7) (by decide) fl_X6_84 rfl rfl ?_
    refine r_idiv dX6_placeOf_12 (i_le0 c1) ?_
    refine r_goto (t := 17) dX6_placeOf_13 (by decide) ?_
    refine r_iret rfl dX6_placeOf_17 ?_
    exact ⟨by unfold r_pl; simp only [eq_false c1, ↓reduceIte], rfl⟩
theorem c_X6_vertices {ad : Nat → Nat} {d' G : Nat} {J : sS → Prop} (hd : 2 ≤ d')  {F H P : Nat} (hF7 : la F = (7, 0)) (hH7 : la H = (7, 0)) (hP7 : la P = (7, 0)) (σ : sS) (hJ : J σ) (hD : r_d F H G P σ) : ab_X (sR ad) (d' + 1) mX6_vertices [.ref (ad 45)] σ (some (.int (r_V P σ []))) σ := by
  refine ab_X.of (by decide) (Nat.le_of_ble_eq_true rfl) ?_
  refine r_aload_n dX6_vertices_0 0 rfl ?_
  refine s_getI ok_X6 dX6_vertices_1 (k := 7) (by decide) fl_X6_84 rfl rfl ?_
  refine r_aload_n dX6_vertices_4 0 rfl ?_
  refine s_getD (b := P) ok_X6 dX6_vertices_5 (k := 6) (by decide) fl_X6_29 rfl rfl hD.2.2.2 ?_
  refine s_getU dX6_vertices_8 fl_X6_44 hP7 ?_
  refine r_imul dX6_vertices_11 ?_
  refine r_iret rfl dX6_vertices_12 ?_
  exact ⟨rfl, rfl⟩
theorem g_X6_vertices {ad : Nat → Nat} {d' G : Nat} {J : sS → Prop} (hd : 2 ≤ d')  {F H P : Nat} (hF7 : la F = (7, 0)) (hH7 : la H = (7, 0)) (hP7 : la P = (7, 0)) : gr_m ad 45 (fun σ => J σ ∧ r_d F H G P σ) ⟨"OddRanks$Graph", "vertices", "()I"⟩ 0 (d' + 1) (r_V P) := by
  refine ⟨mX6_vertices, d' + 1, Nat.le_refl _, yu_X6_vertices, fun σ => sR_is rfl rfl, fun σ as hJ hl => ?_⟩
  match as, hl with
  | [], _ => exact c_X6_vertices hd  hF7 hH7 hP7 σ hJ.1 hJ.2 
theorem c_X6_letterCount {ad : Nat → Nat} {d' G : Nat} {J : sS → Prop} (hd : 2 ≤ d')  {F H P : Nat} (hF7 : la F = (7, 0)) (hH7 : la H = (7, 0)) (hP7 : la P = (7, 0)) (σ : sS) (hJ : J σ) (hD : r_d F H G P σ) : ab_X (sR ad) (d' + 1) mX6_letterCount [.ref (ad 45)] σ (some (.int (r_L σ []))) σ := by
  refine ab_X.of (by decide) (Nat.le_of_ble_eq_true rfl) ?_
  refine r_iconst (v := 1) dX6_letterCount_0 (by decide) ?_
  refine r_iret rfl dX6_letterCount_1 ?_
  exact ⟨rfl, rfl⟩
theorem g_X6_letterCount {ad : Nat → Nat} {d' G : Nat} {J : sS → Prop} (hd : 2 ≤ d')  {F H P : Nat} (hF7 : la F = (7, 0)) (hH7 : la H = (7, 0)) (hP7 : la P = (7, 0)) : gr_m ad 45 (fun σ => J σ ∧ r_d F H G P σ) ⟨"OddRanks$Graph", "letterCount", "()I"⟩ 0 (d' + 1) (r_L) := by
  refine ⟨mX6_letterCount, d' + 1, Nat.le_refl _, yu_X6_letterCount, fun σ => sR_is rfl rfl, fun σ as hJ hl => ?_⟩
  match as, hl with
  | [], _ => exact c_X6_letterCount hd  hF7 hH7 hP7 σ hJ.1 hJ.2 
theorem c_X6_isFirst {ad : Nat → Nat} {d' G : Nat} {J : sS → Prop} (hd : 2 ≤ d')  {F H P : Nat} (hF7 : la F = (7, 0)) (hH7 : la H = (7, 0)) (hP7 : la P = (7, 0)) (σ : sS) (hJ : J σ) (hD : r_d F H G P σ) (v : Int32) : ab_X (sR ad) (d' + 1) mX6_isFirst [.ref (ad 45), .int v] σ (some (.int (r_F F σ [v]))) σ := by
  refine ab_X.of (by decide) (Nat.le_of_ble_eq_true rfl) ?_
  refine r_iload_n dX6_isFirst_0 1 rfl ?_
  refine r_aload_n dX6_isFirst_1 0 rfl ?_
  refine s_getI ok_X6 dX6_isFirst_2 (k := 7) (by decide) fl_X6_84 rfl rfl ?_
  refine r_icmp_ge (t := 23) dX6_isFirst_5 (by decide) (fun c1 => ?_) (fun c1 => ?_)
  · have c1 : (vI σ 45 7) ≤ v := c1
    refine r_iconst (v := 0) dX6_isFirst_23 (by decide) ?_
    refine r_zret rfl (by decide) dX6_isFirst_24 ?_
    exact ⟨by unfold r_F; simp only [List.getD_cons_zero, eq_true c1, ↓reduceIte], rfl⟩
  · have c1 : ¬ ((vI σ 45 7) ≤ v) := c1
    refine r_aload_n dX6_isFirst_8 0 rfl ?_
    refine s_getD (b := F) ok_X6 dX6_isFirst_9 (k := 1) (by decide) fl_X6_14 rfl rfl hD.1 ?_
    refine r_iload_n dX6_isFirst_12 1 rfl ?_
    refine x_callV (Y := mX7_get) (d' := 1) dX6_isFirst_13 ml_X6_48 yv_X7_get (by omega) rfl rfl (by simp [Value.category]) (sR_isR hF7) (c_get hF7 v) ?_
    refine r_if_eq (t := 23) dX6_isFirst_16 (by decide) (fun c2 => ?_) (fun c2 => ?_)
    · have c2 : (rg σ F v) = 0 := c2
      refine r_iconst (v := 0) dX6_isFirst_23 (by decide) ?_
      refine r_zret rfl (by decide) dX6_isFirst_24 ?_
      exact ⟨by unfold r_F; simp only [List.getD_cons_zero, eq_false c1, eq_true c2, ↓reduceIte], rfl⟩
    · have c2 : ¬ ((rg σ F v) = 0) := c2
      refine r_iconst (v := 1) dX6_isFirst_19 (by decide) ?_
      refine r_goto (t := 24) dX6_isFirst_20 (by decide) ?_
      refine r_zret rfl (by decide) dX6_isFirst_24 ?_
      exact ⟨by unfold r_F; simp only [List.getD_cons_zero, eq_false c1, eq_false c2, ↓reduceIte], rfl⟩
theorem g_X6_isFirst {ad : Nat → Nat} {d' G : Nat} {J : sS → Prop} (hd : 2 ≤ d')  {F H P : Nat} (hF7 : la F = (7, 0)) (hH7 : la H = (7, 0)) (hP7 : la P = (7, 0)) : gr_m ad 45 (fun σ => J σ ∧ r_d F H G P σ) ⟨"OddRanks$Graph", "isFirst", "(I)Z"⟩ 1 (d' + 1) (r_F F) := by
  refine ⟨mX6_isFirst, d' + 1, Nat.le_refl _, yu_X6_isFirst, fun σ => sR_is rfl rfl, fun σ as hJ hl => ?_⟩
  match as, hl with
  | [v], _ => exact c_X6_isFirst hd  hF7 hH7 hP7 σ hJ.1 hJ.2 v
theorem c_X6_isMarked {ad : Nat → Nat} {d' G : Nat} {J : sS → Prop} (hd : 2 ≤ d')  {F H P : Nat} (hF7 : la F = (7, 0)) (hH7 : la H = (7, 0)) (hP7 : la P = (7, 0)) (σ : sS) (hJ : J σ) (hD : r_d F H G P σ) (v : Int32) : ab_X (sR ad) (d' + 1) mX6_isMarked [.ref (ad 45), .int v] σ (some (.int (r_M σ [v]))) σ := by
  refine ab_X.of (by decide) (Nat.le_of_ble_eq_true rfl) ?_
  refine r_aload_n dX6_isMarked_0 0 rfl ?_
  refine s_getR (b := 48) ok_X6 dX6_isMarked_1 (k := 3) (by decide) fl_X6_23 rfl rfl rfl ?_
  refine r_aload_n dX6_isMarked_4 0 rfl ?_
  refine r_iload_n dX6_isMarked_5 1 rfl ?_
  refine x_callV (Y := mX6_nodeOf) (d' := 1) dX6_isMarked_6 ml_X6_122 yv_X6_nodeOf (by omega) rfl rfl (by simp [Value.category]) (sR_is rfl rfl) (c_X6_nodeOf σ v) ?_
  refine x_callV (Y := mX7_get) (d' := 1) dX6_isMarked_9 ml_X6_48 yv_X7_get (by omega) rfl rfl (by simp [Value.category]) (sR_isR rfl) (c_get rfl (r_no σ v)) ?_
  refine r_if_eq (t := 19) dX6_isMarked_12 (by decide) (fun c1 => ?_) (fun c1 => ?_)
  · have c1 : (rg σ 48 (r_no σ v)) = 0 := c1
    refine r_iconst (v := 0) dX6_isMarked_19 (by decide) ?_
    refine r_zret rfl (by decide) dX6_isMarked_20 ?_
    exact ⟨by unfold r_M; simp only [List.getD_cons_zero, eq_true c1, ↓reduceIte], rfl⟩
  · have c1 : ¬ ((rg σ 48 (r_no σ v)) = 0) := c1
    refine r_iconst (v := 1) dX6_isMarked_15 (by decide) ?_
    refine r_goto (t := 20) dX6_isMarked_16 (by decide) ?_
    refine r_zret rfl (by decide) dX6_isMarked_20 ?_
    exact ⟨by unfold r_M; simp only [List.getD_cons_zero, eq_false c1, ↓reduceIte], rfl⟩
theorem g_X6_isMarked {ad : Nat → Nat} {d' G : Nat} {J : sS → Prop} (hd : 2 ≤ d')  {F H P : Nat} (hF7 : la F = (7, 0)) (hH7 : la H = (7, 0)) (hP7 : la P = (7, 0)) : gr_m ad 45 (fun σ => J σ ∧ r_d F H G P σ) ⟨"OddRanks$Graph", "isMarked", "(I)Z"⟩ 1 (d' + 1) (r_M) := by
  refine ⟨mX6_isMarked, d' + 1, Nat.le_refl _, yu_X6_isMarked, fun σ => sR_is rfl rfl, fun σ as hJ hl => ?_⟩
  match as, hl with
  | [v], _ => exact c_X6_isMarked hd  hF7 hH7 hP7 σ hJ.1 hJ.2 v
theorem c_X6_fan {ad : Nat → Nat} {d' G : Nat} {J : sS → Prop} {fN : sS → List Int32 → Int32} (hd : 2 ≤ d') (hN : gr_m ad G J ⟨"OddRanks$Graph", "fan", "(II)I"⟩ 2 d' fN) {F H P : Nat} (hF7 : la F = (7, 0)) (hH7 : la H = (7, 0)) (hP7 : la P = (7, 0)) (σ : sS) (hJ : J σ) (hD : r_d F H G P σ) (v s : Int32) : ab_X (sR ad) (d' + 1) mX6_fan [.ref (ad 45), .int v, .int s] σ (some (.int (r_N fN P σ [v, s]))) σ := by
  refine ab_X.of (by decide) (Nat.le_of_ble_eq_true rfl) ?_
  refine r_aload_n dX6_fan_0 0 rfl ?_
  refine s_getD (b := G) ok_X6 dX6_fan_1 (k := 5) (by decide) fl_X6_36 rfl rfl hD.2.2.1 ?_
  refine r_aload_n dX6_fan_4 0 rfl ?_
  refine r_iload_n dX6_fan_5 1 rfl ?_
  refine x_callV (Y := mX6_nodeOf) (d' := 1) dX6_fan_6 ml_X6_122 yv_X6_nodeOf (by omega) rfl rfl (by simp [Value.category]) (sR_is rfl rfl) (c_X6_nodeOf σ v) ?_
  refine r_aload_n dX6_fan_9 0 rfl ?_
  refine s_getD (b := P) ok_X6 dX6_fan_10 (k := 6) (by decide) fl_X6_29 rfl rfl hD.2.2.2 ?_
  refine r_aload_n dX6_fan_13 0 rfl ?_
  refine r_iload_n dX6_fan_14 1 rfl ?_
  refine x_callV (Y := mX6_placeOf) (d' := 1) dX6_fan_15 ml_X6_125 yv_X6_placeOf (by omega) rfl rfl (by simp [Value.category]) (sR_is rfl rfl) (c_X6_placeOf σ v) ?_
  refine x_callV (Y := mX7_get) (d' := 1) dX6_fan_18 ml_X6_48 yv_X7_get (by omega) rfl rfl (by simp [Value.category]) (sR_isR hP7) (c_get hP7 (r_pl σ v)) ?_
  refine x_callG [r_no σ v, rg σ P (r_pl σ v)] hN dX6_fan_21 ml_X6_105 (by omega) hJ rfl rfl (by simp [Value.category]) ?_
  refine r_iret rfl dX6_fan_24 ?_
  exact ⟨rfl, rfl⟩
theorem g_X6_fan {ad : Nat → Nat} {d' G : Nat} {J : sS → Prop} {fN : sS → List Int32 → Int32} (hd : 2 ≤ d') (hN : gr_m ad G J ⟨"OddRanks$Graph", "fan", "(II)I"⟩ 2 d' fN) {F H P : Nat} (hF7 : la F = (7, 0)) (hH7 : la H = (7, 0)) (hP7 : la P = (7, 0)) : gr_m ad 45 (fun σ => J σ ∧ r_d F H G P σ) ⟨"OddRanks$Graph", "fan", "(II)I"⟩ 2 (d' + 1) (r_N fN P) := by
  refine ⟨mX6_fan, d' + 1, Nat.le_refl _, yu_X6_fan, fun σ => sR_is rfl rfl, fun σ as hJ hl => ?_⟩
  match as, hl with
  | [v, s], _ => exact c_X6_fan hd hN hF7 hH7 hP7 σ hJ.1 hJ.2 v s
theorem c_X6_goal {ad : Nat → Nat} {d' G : Nat} {J : sS → Prop} {fE : sS → List Int32 → Int32} (hd : 2 ≤ d') (hE : gr_m ad G J ⟨"OddRanks$Graph", "goal", "(III)I"⟩ 3 d' fE) {F H P : Nat} (hF7 : la F = (7, 0)) (hH7 : la H = (7, 0)) (hP7 : la P = (7, 0)) (σ : sS) (hJ : J σ) (hD : r_d F H G P σ) (v s i : Int32) : ab_X (sR ad) (d' + 1) mX6_goal [.ref (ad 45), .int v, .int s, .int i] σ (some (.int (r_E fE P σ [v, s, i]))) σ := by
  refine ab_X.of (by decide) (Nat.le_of_ble_eq_true rfl) ?_
  refine r_aload_n dX6_goal_0 0 rfl ?_
  refine r_iload_n dX6_goal_1 1 rfl ?_
  refine x_callV (Y := mX6_placeOf) (d' := 1) dX6_goal_2 ml_X6_125 yv_X6_placeOf (by omega) rfl rfl (by simp [Value.category]) (sR_is rfl rfl) (c_X6_placeOf σ v) ?_
  refine r_istore (lo' := [(4, .int (r_pl σ v)), (0, .ref (ad 45)), (1, .int v), (2, .int s), (3, .int i)]) dX6_goal_5 (by decide) rfl ?_
  refine r_aload_n dX6_goal_7 1 rfl ?_
  refine s_getD (b := G) ok_X6 dX6_goal_8 (k := 5) (by decide) fl_X6_36 rfl rfl hD.2.2.1 ?_
  refine r_aload_n dX6_goal_11 1 rfl ?_
  refine r_iload_n dX6_goal_12 2 rfl ?_
  refine x_callV (Y := mX6_nodeOf) (d' := 1) dX6_goal_13 ml_X6_122 yv_X6_nodeOf (by omega) rfl rfl (by simp [Value.category]) (sR_is rfl rfl) (c_X6_nodeOf σ v) ?_
  refine r_aload_n dX6_goal_16 1 rfl ?_
  refine s_getD (b := P) ok_X6 dX6_goal_17 (k := 6) (by decide) fl_X6_29 rfl rfl hD.2.2.2 ?_
  refine r_iload dX6_goal_20 0 rfl ?_
  refine x_callV (Y := mX7_get) (d' := 1) dX6_goal_22 ml_X6_48 yv_X7_get (by omega) rfl rfl (by simp [Value.category]) (sR_isR hP7) (c_get hP7 (r_pl σ v)) ?_
  refine r_iload_n dX6_goal_25 4 rfl ?_
  refine x_callG [r_no σ v, rg σ P (r_pl σ v), i] hE dX6_goal_26 ml_X6_108 (by omega) hJ rfl rfl (by simp [Value.category]) ?_
  refine r_istore (lo' := [(5, .int (fE σ [r_no σ v, rg σ P (r_pl σ v), i])), (4, .int (r_pl σ v)), (0, .ref (ad 45)), (1, .int v), (2, .int s), (3, .int i)]) dX6_goal_29 (by decide) rfl ?_
  refine r_iload dX6_goal_31 1 rfl ?_
  refine r_iconst (v := 1) dX6_goal_33 (by decide) ?_
  refine r_iadd dX6_goal_34 ?_
  refine r_aload_n dX6_goal_35 2 rfl ?_
  refine s_getD (b := P) ok_X6 dX6_goal_36 (k := 6) (by decide) fl_X6_29 rfl rfl hD.2.2.2 ?_
  refine s_getU dX6_goal_39 fl_X6_44 hP7 ?_
  refine r_icmp_ge (t := 60) dX6_goal_42 (by decide) (fun c1 => ?_) (fun c1 => ?_)
  · have c1 : (vU σ P) ≤ ((r_pl σ v) + 1) := c1
    refine r_iload dX6_goal_60 0 rfl ?_
    refine r_iret rfl dX6_goal_62 ?_
    exact ⟨congrArg some (congrArg Value.int ((if_pos c1).symm)), rfl⟩
  · have c1 : ¬ ((vU σ P) ≤ ((r_pl σ v) + 1)) := c1
    refine r_iload dX6_goal_45 1 rfl ?_
    refine r_iconst (v := 1) dX6_goal_47 (by decide) ?_
    refine r_iadd dX6_goal_48 ?_
    refine r_aload_n dX6_goal_49 2 rfl ?_
    refine s_getI ok_X6 dX6_goal_50 (k := 7) (by decide) fl_X6_84 rfl rfl ?_
    refine r_imul dX6_goal_53 ?_
    refine r_iload dX6_goal_54 0 rfl ?_
    refine r_iadd dX6_goal_56 ?_
    refine r_goto (t := 62) dX6_goal_57 (by decide) ?_
    refine r_iret rfl dX6_goal_62 ?_
    exact ⟨congrArg some (congrArg Value.int ((if_neg c1).symm)), rfl⟩
theorem g_X6_goal {ad : Nat → Nat} {d' G : Nat} {J : sS → Prop} {fE : sS → List Int32 → Int32} (hd : 2 ≤ d') (hE : gr_m ad G J ⟨"OddRanks$Graph", "goal", "(III)I"⟩ 3 d' fE) {F H P : Nat} (hF7 : la F = (7, 0)) (hH7 : la H = (7, 0)) (hP7 : la P = (7, 0)) : gr_m ad 45 (fun σ => J σ ∧ r_d F H G P σ) ⟨"OddRanks$Graph", "goal", "(III)I"⟩ 3 (d' + 1) (r_E fE P) := by
  refine ⟨mX6_goal, d' + 1, Nat.le_refl _, yu_X6_goal, fun σ => sR_is rfl rfl, fun σ as hJ hl => ?_⟩
  match as, hl with
  | [v, s, i], _ => exact c_X6_goal hd hE hF7 hH7 hP7 σ hJ.1 hJ.2 v s i
