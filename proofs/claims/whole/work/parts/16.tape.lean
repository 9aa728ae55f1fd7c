/-! Tape -/
def q_sm (x : Int32) : Int32 := if x < 97 then 0 else if 122 < x then 0 else 1
def q_dg (x : Int32) : Int32 := if x < 48 then 0 else if 57 < x then 0 else 1
set_option maxRecDepth 4000 in
theorem c_X9_isSmall {ad : Nat → Nat} (σ : sS) (x : Int32)  : ab_X (sR ad) 1 mX9_isSmall [.int x] σ (some (.int (q_sm x))) σ := by
  refine ab_X.of (by decide) (Nat.le_of_ble_eq_true rfl) ?_
  refine r_iload_n dX9_isSmall_0 0 rfl ?_
  refine r_bipush (v := 97) dX9_isSmall_1 (by decide) ?_
  refine r_icmp_lt (t := 16) dX9_isSmall_3 (by decide) (fun c1 => ?_) (fun c1 => ?_)
  · have c1 : x < 97 := c1
    refine r_iconst (v := 0) dX9_isSmall_16 (by decide) ?_
    refine r_zret rfl (by decide) dX9_isSmall_17 ?_
    exact ⟨by unfold q_sm; simp only [eq_true c1, ↓reduceIte], rfl⟩
  · have c1 : ¬ (x < 97) := c1
    refine r_iload_n dX9_isSmall_6 0 rfl ?_
    refine r_bipush (v := 122) dX9_isSmall_7 (by decide) ?_
    refine r_icmp_gt (t := 16) dX9_isSmall_9 (by decide) (fun c2 => ?_) (fun c2 => ?_)
    · have c2 : 122 < x := c2
      refine r_iconst (v := 0) dX9_isSmall_16 (by decide) ?_
      refine r_zret rfl (by decide) dX9_isSmall_17 ?_
      exact ⟨by unfold q_sm; simp only [eq_false c1, eq_true c2, ↓reduceIte], rfl⟩
    · have c2 : ¬ (122 < x) := c2
      refine r_iconst (v := 1) dX9_isSmall_12 (by decide) ?_
      refine r_goto (t := 17) dX9_isSmall_13 (by decide) ?_
      refine r_zret rfl (by decide) dX9_isSmall_17 ?_
      exact ⟨by unfold q_sm; simp only [eq_false c1, eq_false c2, ↓reduceIte], rfl⟩
set_option maxRecDepth 4000 in
theorem c_X9_isDigit {ad : Nat → Nat} (σ : sS) (x : Int32)  : ab_X (sR ad) 1 mX9_isDigit [.int x] σ (some (.int (q_dg x))) σ := by
  refine ab_X.of (by decide) (Nat.le_of_ble_eq_true rfl) ?_
  refine r_iload_n dX9_isDigit_0 0 rfl ?_
  refine r_bipush (v := 48) dX9_isDigit_1 (by decide) ?_
  refine r_icmp_lt (t := 16) dX9_isDigit_3 (by decide) (fun c1 => ?_) (fun c1 => ?_)
  · have c1 : x < 48 := c1
    refine r_iconst (v := 0) dX9_isDigit_16 (by decide) ?_
    refine r_zret rfl (by decide) dX9_isDigit_17 ?_
    exact ⟨by unfold q_dg; simp only [eq_true c1, ↓reduceIte], rfl⟩
  · have c1 : ¬ (x < 48) := c1
    refine r_iload_n dX9_isDigit_6 0 rfl ?_
    refine r_bipush (v := 57) dX9_isDigit_7 (by decide) ?_
    refine r_icmp_gt (t := 16) dX9_isDigit_9 (by decide) (fun c2 => ?_) (fun c2 => ?_)
    · have c2 : 57 < x := c2
      refine r_iconst (v := 0) dX9_isDigit_16 (by decide) ?_
      refine r_zret rfl (by decide) dX9_isDigit_17 ?_
      exact ⟨by unfold q_dg; simp only [eq_false c1, eq_true c2, ↓reduceIte], rfl⟩
    · have c2 : ¬ (57 < x) := c2
      refine r_iconst (v := 1) dX9_isDigit_12 (by decide) ?_
      refine r_goto (t := 17) dX9_isDigit_13 (by decide) ?_
      refine r_zret rfl (by decide) dX9_isDigit_17 ?_
      exact ⟨by unfold q_dg; simp only [eq_false c1, eq_false c2, ↓reduceIte], rfl⟩
set_option maxRecDepth 4000 in
theorem c_X9_hasRoom {ad : Nat → Nat} (σ : sS)   : ab_X (sR ad) 1 mX9_hasRoom [.ref (ad 1)] σ (some (.int (if 400 < vI σ 1 3 + 20 then 0 else 1))) σ := by
  refine ab_X.of (by decide) (Nat.le_of_ble_eq_true rfl) ?_
  refine r_aload_n dX9_hasRoom_0 0 rfl ?_
  refine s_getI ok_X9 dX9_hasRoom_1 (k := 3) (by decide) fl_X9_24 rfl rfl ?_
  refine r_bipush (v := 20) dX9_hasRoom_4 (by decide) ?_
  refine r_iadd dX9_hasRoom_6 ?_
  refine r_sipush (v := 400) dX9_hasRoom_7 (by decide) ?_
  refine r_icmp_gt (t := 17) dX9_hasRoom_10 (by decide) (fun c1 => ?_) (fun c1 => ?_)
  · have c1 : 400 < ((vI σ 1 3) + 20) := c1
    refine r_iconst (v := 0) dX9_hasRoom_17 (by decide) ?_
    refine r_zret rfl (by decide) dX9_hasRoom_18 ?_
    exact ⟨by simp only [eq_true c1, ↓reduceIte], rfl⟩
  · have c1 : ¬ (400 < ((vI σ 1 3) + 20)) := c1
    refine r_iconst (v := 1) dX9_hasRoom_13 (by decide) ?_
    refine r_goto (t := 18) dX9_hasRoom_14 (by decide) ?_
    refine r_zret rfl (by decide) dX9_hasRoom_18 ?_
    exact ⟨by simp only [eq_false c1, ↓reduceIte], rfl⟩
set_option maxRecDepth 4000 in
theorem c_X9_holds {ad : Nat → Nat} (σ : sS) (n : Int32)  : ab_X (sR ad) 1 mX9_holds [.ref (ad 1), .int n] σ (some (.int (if n < 0 then 0 else if vI σ 1 3 < n then 0 else 1))) σ := by
  refine ab_X.of (by decide) (Nat.le_of_ble_eq_true rfl) ?_
  refine r_iload_n dX9_holds_0 1 rfl ?_
  refine r_if_lt (t := 16) dX9_holds_1 (by decide) (fun c1 => ?_) (fun c1 => ?_)
  · have c1 : n < 0 := c1
    refine r_iconst (v := 0) dX9_holds_16 (by decide) ?_
    refine r_zret rfl (by decide) dX9_holds_17 ?_
    exact ⟨by simp only [eq_true c1, ↓reduceIte], rfl⟩
  · have c1 : ¬ (n < 0) := c1
    refine r_iload_n dX9_holds_4 1 rfl ?_
    refine r_aload_n dX9_holds_5 0 rfl ?_
    refine s_getI ok_X9 dX9_holds_6 (k := 3) (by decide) fl_X9_24 rfl rfl ?_
    refine r_icmp_gt (t := 16) dX9_holds_9 (by decide) (fun c2 => ?_) (fun c2 => ?_)
    · have c2 : (vI σ 1 3) < n := c2
      refine r_iconst (v := 0) dX9_holds_16 (by decide) ?_
      refine r_zret rfl (by decide) dX9_holds_17 ?_
      exact ⟨by simp only [eq_false c1, eq_true c2, ↓reduceIte], rfl⟩
    · have c2 : ¬ ((vI σ 1 3) < n) := c2
      refine r_iconst (v := 1) dX9_holds_12 (by decide) ?_
      refine r_goto (t := 17) dX9_holds_13 (by decide) ?_
      refine r_zret rfl (by decide) dX9_holds_17 ?_
      exact ⟨by simp only [eq_false c1, eq_false c2, ↓reduceIte], rfl⟩
def t_open (σ : sS) (n : Int32) : sS := uI (uI (uI (uI (uI σ 1 1 n) 1 2 0) 1 3 0) 1 7 0) 1 8 (-1)
set_option maxRecDepth 4000 in
theorem c_X9_open {ad : Nat → Nat} (σ : sS) (n : Int32)  : ab_X (sR ad) 1 mX9_open [.ref (ad 1), .int n] σ none (t_open σ n) := by
  refine ab_X.of (by decide) (Nat.le_of_ble_eq_true rfl) ?_
  refine r_aload_n dX9_open_0 0 rfl ?_
  refine r_iload_n dX9_open_1 1 rfl ?_
  refine s_putI ok_X9 dX9_open_2 (k := 1) (by decide) fl_X9_31 rfl rfl rfl rfl rfl ?_
  refine r_aload_n dX9_open_5 0 rfl ?_
  refine r_iconst (v := 0) dX9_open_6 (by decide) ?_
  refine s_putI ok_X9 dX9_open_7 (k := 2) (by decide) fl_X9_34 rfl rfl rfl rfl rfl ?_
  refine r_aload_n dX9_open_10 0 rfl ?_
  refine r_iconst (v := 0) dX9_open_11 (by decide) ?_
  refine s_putI ok_X9 dX9_open_12 (k := 3) (by decide) fl_X9_24 rfl rfl rfl rfl rfl ?_
  refine r_aload_n dX9_open_15 0 rfl ?_
  refine r_iconst (v := 0) dX9_open_16 (by decide) ?_
  refine s_putI ok_X9 dX9_open_17 (k := 7) (by decide) fl_X9_37 rfl rfl rfl rfl rfl ?_
  refine r_aload_n dX9_open_20 0 rfl ?_
  refine r_iconst (v := (-1)) dX9_open_21 (by decide) ?_
  refine s_putI ok_X9 dX9_open_22 (k := 8) (by decide) fl_X9_20 rfl rfl rfl rfl rfl ?_
  refine r_vret rfl dX9_open_25 ?_
  exact ⟨rfl, rfl⟩
def t_blame (σ : sS) (w s : Int32) : sS := uI (uI σ 1 7 w) 1 8 s
set_option maxRecDepth 4000 in
theorem c_X9_blame {ad : Nat → Nat} (σ : sS) (w s : Int32)  : ab_X (sR ad) 1 mX9_blame [.ref (ad 1), .int w, .int s] σ (some (.int 0)) (t_blame σ w s) := by
  refine ab_X.of (by decide) (Nat.le_of_ble_eq_true rfl) ?_
  refine r_aload_n dX9_blame_0 0 rfl ?_
  refine r_iload_n dX9_blame_1 1 rfl ?_
  refine s_putI ok_X9 dX9_blame_2 (k := 7) (by decide) fl_X9_37 rfl rfl rfl rfl rfl ?_
  refine r_aload_n dX9_blame_5 0 rfl ?_
  refine r_iload_n dX9_blame_6 2 rfl ?_
  refine s_putI ok_X9 dX9_blame_7 (k := 8) (by decide) fl_X9_20 rfl rfl rfl rfl rfl ?_
  refine r_iconst (v := 0) dX9_blame_10 (by decide) ?_
  refine r_zret rfl (by decide) dX9_blame_11 ?_
  exact ⟨rfl, rfl⟩
def t_by (σ : sS) (i : Int32) : Int32 := if i < 0 then 0 else if vI σ 1 1 ≤ i then 0 else rg σ 2 i
set_option maxRecDepth 4000 in
theorem c_X9_byteAt {ad : Nat → Nat} (σ : sS) (i : Int32)  : ab_X (sR ad) 2 mX9_byteAt [.ref (ad 1), .int i] σ (some (.int (t_by σ i))) σ := by
  refine ab_X.of (by decide) (Nat.le_of_ble_eq_true rfl) ?_
  refine r_iload_n dX9_byteAt_0 1 rfl ?_
  refine r_if_lt (t := 23) dX9_byteAt_1 (by decide) (fun c1 => ?_) (fun c1 => ?_)
  · have c1 : i < 0 := c1
    refine r_iconst (v := 0) dX9_byteAt_23 (by decide) ?_
    refine r_iret rfl dX9_byteAt_24 ?_
    exact ⟨by unfold t_by; simp only [eq_true c1, ↓reduceIte], rfl⟩
  · have c1 : ¬ (i < 0) := c1
    refine r_iload_n dX9_byteAt_4 1 rfl ?_
    refine r_aload_n dX9_byteAt_5 0 rfl ?_
    refine s_getI ok_X9 dX9_byteAt_6 (k := 1) (by decide) fl_X9_31 rfl rfl ?_
    refine r_icmp_ge (t := 23) dX9_byteAt_9 (by decide) (fun c2 => ?_) (fun c2 => ?_)
    · have c2 : (vI σ 1 1) ≤ i := c2
      refine r_iconst (v := 0) dX9_byteAt_23 (by decide) ?_
      refine r_iret rfl dX9_byteAt_24 ?_
      exact ⟨by unfold t_by; simp only [eq_false c1, eq_true c2, ↓reduceIte], rfl⟩
    · have c2 : ¬ ((vI σ 1 1) ≤ i) := c2
      refine r_aload_n dX9_byteAt_12 0 rfl ?_
      refine s_getR (b := 2) ok_X9 dX9_byteAt_13 (k := 0) (by decide) fl_X9_16 rfl rfl rfl ?_
      refine r_iload_n dX9_byteAt_16 1 rfl ?_
      refine x_callV (Y := mX7_get) (d' := 1) dX9_byteAt_17 ml_X9_40 yv_X7_get (by decide) rfl rfl (by simp [Value.category]) (sR_isR rfl) (c_get rfl i) ?_
      refine r_goto (t := 24) dX9_byteAt_20 (by decide) ?_
      refine r_iret rfl dX9_byteAt_24 ?_
      exact ⟨by unfold t_by; simp only [eq_false c1, eq_false c2, ↓reduceIte], rfl⟩
def t_ap1 (σ : sS) (x s : Int32) : sS := uI (rp σ 2 (vI σ 1 3) ((x >>> (s &&& 31)) &&& 255)) 1 3 (vI (rp σ 2 (vI σ 1 3) ((x >>> (s &&& 31)) &&& 255)) 1 3 + 1)
def t_ap (σ : sS) (x : Int32) : sS := t_ap1 (t_ap1 (t_ap1 (t_ap1 σ x 24) x 16) x 8) x 0
set_option maxRecDepth 4000 in
theorem c_X9_append {ad : Nat → Nat} (σ : sS) (x : Int32)  : ab_X (sR ad) 2 mX9_append [.ref (ad 1), .int x] σ none (t_ap σ x) := by
  refine ab_X.of (by decide) (Nat.le_of_ble_eq_true rfl) ?_
  refine r_bipush (v := 24) dX9_append_0 (by decide) ?_
  refine r_istore_n (lo' := [(2, .int 24), (0, .ref (ad 1)), (1, .int x)]) dX9_append_2 (by decide) rfl ?_
  refine r_iload_n dX9_append_3 0 rfl ?_
  refine r_if_lt (t := 41) dX9_append_4 (by decide) (fun hh => absurd hh (by decide)) (fun _ => ?_)
  refine r_aload_n dX9_append_7 1 rfl ?_
  refine s_getR (b := 2) ok_X9 dX9_append_8 (k := 0) (by decide) fl_X9_16 rfl rfl rfl ?_
  refine r_aload_n dX9_append_11 1 rfl ?_
  refine s_getI ok_X9 dX9_append_12 (k := 3) (by decide) fl_X9_24 rfl rfl ?_
  refine r_iload_n dX9_append_15 2 rfl ?_
  refine r_iload_n dX9_append_16 0 rfl ?_
  refine r_ishr dX9_append_17 ?_
  refine r_sipush (v := 255) dX9_append_18 (by decide) ?_
  refine r_iand dX9_append_21 ?_
  refine x_callV0 (Y := mX7_put) (d' := 1) dX9_append_22 ml_X9_27 yv_X7_put (by decide) rfl rfl (by simp [Value.category]) (sR_isR rfl) (c_put rfl (vI σ 1 3) ((x >>> (24 &&& 31)) &&& 255)) ?_
  refine r_aload_n dX9_append_25 1 rfl ?_
  refine r_dup dX9_append_26 rfl ?_
  refine s_getI ok_X9 dX9_append_27 (k := 3) (by decide) fl_X9_24 rfl rfl ?_
  refine r_iconst (v := 1) dX9_append_30 (by decide) ?_
  refine r_iadd dX9_append_31 ?_
  refine s_putI ok_X9 dX9_append_32 (k := 3) (by decide) fl_X9_24 rfl rfl rfl rfl rfl ?_
  refine r_iinc (v := 16) (lo' := [(2, .int 16), (0, .ref (ad 1)), (1, .int x)]) dX9_append_35 0 rfl (by decide) (by decide) rfl ?_
  refine r_goto (t := 3) dX9_append_38 (by decide) ?_
  refine r_iload_n dX9_append_3 0 rfl ?_
  refine r_if_lt (t := 41) dX9_append_4 (by decide) (fun hh => absurd hh (by decide)) (fun _ => ?_)
  refine r_aload_n dX9_append_7 1 rfl ?_
  refine s_getR (b := 2) ok_X9 dX9_append_8 (k := 0) (by decide) fl_X9_16 rfl rfl rfl ?_
  refine r_aload_n dX9_append_11 1 rfl ?_
  refine s_getI ok_X9 dX9_append_12 (k := 3) (by decide) fl_X9_24 rfl rfl ?_
  refine r_iload_n dX9_append_15 2 rfl ?_
  refine r_iload_n dX9_append_16 0 rfl ?_
  refine r_ishr dX9_append_17 ?_
  refine r_sipush (v := 255) dX9_append_18 (by decide) ?_
  refine r_iand dX9_append_21 ?_
  refine x_callV0 (Y := mX7_put) (d' := 1) dX9_append_22 ml_X9_27 yv_X7_put (by decide) rfl rfl (by simp [Value.category]) (sR_isR rfl) (c_put rfl ((vI (rp σ 2 (vI σ 1 3) ((x >>> (24 &&& 31)) &&& 255)) 1 3) + 1) ((x >>> (16 &&& 31)) &&& 255)) ?_
  refine r_aload_n dX9_append_25 1 rfl ?_
  refine r_dup dX9_append_26 rfl ?_
  refine s_getI ok_X9 dX9_append_27 (k := 3) (by decide) fl_X9_24 rfl rfl ?_
  refine r_iconst (v := 1) dX9_append_30 (by decide) ?_
  refine r_iadd dX9_append_31 ?_
  refine s_putI ok_X9 dX9_append_32 (k := 3) (by decide) fl_X9_24 rfl rfl rfl rfl rfl ?_
  refine r_iinc (v := 8) (lo' := [(2, .int 8), (0, .ref (ad 1)), (1, .int x)]) dX9_append_35 0 rfl (by decide) (by decide) rfl ?_
  refine r_goto (t := 3) dX9_append_38 (by decide) ?_
  refine r_iload_n dX9_append_3 0 rfl ?_
  refine r_if_lt (t := 41) dX9_append_4 (by decide) (fun hh => absurd hh (by decide)) (fun _ => ?_)
  refine r_aload_n dX9_append_7 1 rfl ?_
  refine s_getR (b := 2) ok_X9 dX9_append_8 (k := 0) (by decide) fl_X9_16 rfl rfl rfl ?_
  refine r_aload_n dX9_append_11 1 rfl ?_
  refine s_getI ok_X9 dX9_append_12 (k := 3) (by decide) fl_X9_24 rfl rfl ?_
  refine r_iload_n dX9_append_15 2 rfl ?_
  refine r_iload_n dX9_append_16 0 rfl ?_
  refine r_ishr dX9_append_17 ?_
  refine r_sipush (v := 255) dX9_append_18 (by decide) ?_
  refine r_iand dX9_append_21 ?_
  refine x_callV0 (Y := mX7_put) (d' := 1) dX9_append_22 ml_X9_27 yv_X7_put (by decide) rfl rfl (by simp [Value.category]) (sR_isR rfl) (c_put rfl ((vI (rp (uI (rp σ 2 (vI σ 1 3) ((x >>> (24 &&& 31)) &&& 255)) 1 3 ((vI (rp σ 2 (vI σ 1 3) ((x >>> (24 &&& 31)) &&& 255)) 1 3) + 1)) 2 ((vI (rp σ 2 (vI σ 1 3) ((x >>> (24 &&& 31)) &&& 255)) 1 3) + 1) ((x >>> (16 &&& 31)) &&& 255)) 1 3) + 1) ((x >>> (8 &&& 31)) &&& 255)) ?_
  refine r_aload_n dX9_append_25 1 rfl ?_
  refine r_dup dX9_append_26 rfl ?_
  refine s_getI ok_X9 dX9_append_27 (k := 3) (by decide) fl_X9_24 rfl rfl ?_
  refine r_iconst (v := 1) dX9_append_30 (by decide) ?_
  refine r_iadd dX9_append_31 ?_
  refine s_putI ok_X9 dX9_append_32 (k := 3) (by decide) fl_X9_24 rfl rfl rfl rfl rfl ?_
  refine r_iinc (v := 0) (lo' := [(2, .int 0), (0, .ref (ad 1)), (1, .int x)]) dX9_append_35 0 rfl (by decide) (by decide) rfl ?_
  refine r_goto (t := 3) dX9_append_38 (by decide) ?_
  refine r_iload_n dX9_append_3 0 rfl ?_
  refine r_if_lt (t := 41) dX9_append_4 (by decide) (fun hh => absurd hh (by decide)) (fun _ => ?_)
  refine r_aload_n dX9_append_7 1 rfl ?_
  refine s_getR (b := 2) ok_X9 dX9_append_8 (k := 0) (by decide) fl_X9_16 rfl rfl rfl ?_
  refine r_aload_n dX9_append_11 1 rfl ?_
  refine s_getI ok_X9 dX9_append_12 (k := 3) (by decide) fl_X9_24 rfl rfl ?_
  refine r_iload_n dX9_append_15 2 rfl ?_
  refine r_iload_n dX9_append_16 0 rfl ?_
  refine r_ishr dX9_append_17 ?_
  refine r_sipush (v := 255) dX9_append_18 (by decide) ?_
  refine r_iand dX9_append_21 ?_
  refine x_callV0 (Y := mX7_put) (d' := 1) dX9_append_22 ml_X9_27 yv_X7_put (by decide) rfl rfl (by simp [Value.category]) (sR_isR rfl) (c_put rfl ((vI (rp (uI (rp (uI (rp σ 2 (vI σ 1 3) ((x >>> (24 &&& 31)) &&& 255)) 1 3 ((vI (rp σ 2 (vI σ 1 3) ((x >>> (24 &&& 31)) &&& 255)) 1 3) + 1)) 2 ((vI (rp σ 2 (vI σ 1 3) ((x >>> (24 &&& 31)) &&& 255)) 1 3) + 1) ((x >>> (16 &&& 31)) &&& 255)) 1 3 ((vI (rp (uI (rp σ 2 (vI σ 1 3) ((x >>> (24 &&& 31)) &&& 255)) 1 3 ((vI (rp σ 2 (vI σ 1 3) ((x >>> (24 &&& 31)) &&& 255)) 1 3) + 1)) 2 ((vI (rp σ 2 (vI σ 1 3) ((x >>> (24 &&& 31)) &&& 255)) 1 3) + 1) ((x >>> (16 &&& 31)) &&& 255)) 1 3) + 1)) 2 ((vI (rp (uI (rp σ 2 (vI σ 1 3) ((x >>> (24 &&& 31)) &&& 255)) 1 3 ((vI (rp σ 2 (vI σ 1 3) ((x >>> (24 &&& 31)) &&& 255)) 1 3) + 1)) 2 ((vI (rp σ 2 (vI σ 1 3) ((x >>> (24 &&& 31)) &&& 255)) 1 3) + 1) ((x >>> (16 &&& 31)) &&& 255)) 1 3) + 1) ((x >>> (8 &&& 31)) &&& 255)) 1 3) + 1) ((x >>> (0 &&& 31)) &&& 255)) ?_
  refine r_aload_n dX9_append_25 1 rfl ?_
  refine r_dup dX9_append_26 rfl ?_
  refine s_getI ok_X9 dX9_append_27 (k := 3) (by decide) fl_X9_24 rfl rfl ?_
  refine r_iconst (v := 1) dX9_append_30 (by decide) ?_
  refine r_iadd dX9_append_31 ?_
  refine s_putI ok_X9 dX9_append_32 (k := 3) (by decide) fl_X9_24 rfl rfl rfl rfl rfl ?_
  refine r_iinc (v := (-8)) (lo' := [(2, .int ((-8))), (0, .ref (ad 1)), (1, .int x)]) dX9_append_35 0 rfl (by decide) (by decide) rfl ?_
  refine r_goto (t := 3) dX9_append_38 (by decide) ?_
  refine r_iload_n dX9_append_3 0 rfl ?_
  refine r_if_lt (t := 41) dX9_append_4 (by decide) (fun _ => ?_) (fun hh => absurd (by decide) hh)
  refine r_vret rfl dX9_append_41 ?_
  exact ⟨rfl, rfl⟩
