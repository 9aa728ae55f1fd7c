/-! the JDK's bitCount; Automaton -/
def q_in (s t : Int32) : Int32 := if (t >>> (s &&& 31)) &&& 1 = 0 then 0 else 1
theorem la_of {P : Nat → Nat × Nat → Prop} (h0 : ∀ a, P a (0, 0)) (h : ∀ a, a < 200 → P a (la a)) (a : Nat) : P a (la a) := by
  by_cases ha : a < 200
  · exact h a ha
  · have hl : la_tab.length ≤ 200 := by decide +kernel
    have e : la a = (0, 0) := by
      unfold la
      rw [List.getD_eq_getElem?_getD, List.getElem?_eq_none_iff.mpr (by omega)]
      rfl
    rw [e]
    exact h0 a
theorem au_is {a : Nat} (h : la a = (1, 0)) : a = 9 ∨ a = 10 ∨ a = 11 ∨ a = 27 ∨ a = 28 ∨ a = 29 := by
  have h1 : ∀ a, a < 200 → la a = (1, 0) → (a = 9 ∨ a = 10 ∨ a = 11 ∨ a = 27 ∨ a = 28 ∨ a = 29) := by decide +kernel
  exact la_of (P := fun a q => q = (1, 0) → (a = 9 ∨ a = 10 ∨ a = 11 ∨ a = 27 ∨ a = 28 ∨ a = 29)) (fun _ q => by cases q) h1 a h
theorem au_sr {a : Nat} (h : la a = (1, 0)) : sr a 0 = some (a + 3) := by rcases au_is h with rfl | rfl | rfl | rfl | rfl | rfl <;> rfl
theorem au_row {a : Nat} (h : la a = (1, 0)) : la (a + 3) = (7, 0) := by rcases au_is h with rfl | rfl | rfl | rfl | rfl | rfl <;> rfl
def bq (x k : Int32) : Int32 := (x.toUInt32 >>> (k.toUInt32 &&& Int32.toUInt32 31)).toInt32
def bc1 (x : Int32) : Int32 := x - (bq x 1 &&& 1431655765)
def bc2 (x : Int32) : Int32 := (x &&& 858993459) + (bq x 2 &&& 858993459)
def bc3 (x : Int32) : Int32 := (x + bq x 4) &&& 252645135
def bc4 (x : Int32) : Int32 := x + bq x 8
def bc5 (x : Int32) : Int32 := x + bq x 16
def bc (x : Int32) : Int32 := bc5 (bc4 (bc3 (bc2 (bc1 x)))) &&& 63
set_option maxRecDepth 4000 in
theorem c_J6_bitCount_0f7a4 {ad : Nat → Nat} (σ : sS) (x : Int32)  : ab_X (sR ad) 1 mJ6_bitCount_0f7a4 [.int x] σ (some (.int (bc x))) σ := by
  refine ab_X.of (by decide) (Nat.le_of_ble_eq_true rfl) ?_
  refine r_iload_n dJ6_bitCount_0f7a4_0 0 rfl ?_
  refine r_iload_n dJ6_bitCount_0f7a4_1 0 rfl ?_
  refine r_iconst (v := 1) dJ6_bitCount_0f7a4_2 (by decide) ?_
  refine r_iushr dJ6_bitCount_0f7a4_3 ?_
  refine r_ldcw (v := 1431655765) dJ6_bitCount_0f7a4_4 co_J6_265 ?_
  refine r_iand dJ6_bitCount_0f7a4_7 ?_
  refine r_isub dJ6_bitCount_0f7a4_8 ?_
  refine r_istore_n (lo' := [(0, .int (x - ((bq x 1) &&& 1431655765)))]) dJ6_bitCount_0f7a4_9 (by decide) rfl ?_
  refine r_iload_n dJ6_bitCount_0f7a4_10 0 rfl ?_
  refine r_ldcw (v := 858993459) dJ6_bitCount_0f7a4_11 co_J6_266 ?_
  refine r_iand dJ6_bitCount_0f7a4_14 ?_
  refine r_iload_n dJ6_bitCount_0f7a4_15 0 rfl ?_
  refine r_iconst (v := 2) dJ6_bitCount_0f7a4_16 (by decide) ?_
  refine r_iushr dJ6_bitCount_0f7a4_17 ?_
  refine r_ldcw (v := 858993459) dJ6_bitCount_0f7a4_18 co_J6_266 ?_
  refine r_iand dJ6_bitCount_0f7a4_21 ?_
  refine r_iadd dJ6_bitCount_0f7a4_22 ?_
  refine r_istore_n (lo' := [(0, .int (((x - ((bq x 1) &&& 1431655765)) &&& 858993459) + ((bq (x - ((bq x 1) &&& 1431655765)) 2) &&& 858993459)))]) dJ6_bitCount_0f7a4_23 (by decide) rfl ?_
  refine r_iload_n dJ6_bitCount_0f7a4_24 0 rfl ?_
  refine r_iload_n dJ6_bitCount_0f7a4_25 0 rfl ?_
  refine r_iconst (v := 4) dJ6_bitCount_0f7a4_26 (by decide) ?_
  refine r_iushr dJ6_bitCount_0f7a4_27 ?_
  refine r_iadd dJ6_bitCount_0f7a4_28 ?_
  refine r_ldcw (v := 252645135) dJ6_bitCount_0f7a4_29 co_J6_267 ?_
  refine r_iand dJ6_bitCount_0f7a4_32 ?_
  refine r_istore_n (lo' := [(0, .int (((((x - ((bq x 1) &&& 1431655765)) &&& 858993459) + ((bq (x - ((bq x 1) &&& 1431655765)) 2) &&& 858993459)) + (bq (((x - ((bq x 1) &&& 1431655765)) &&& 858993459) + ((bq (x - ((bq x 1) &&& 1431655765)) 2) &&& 858993459)) 4)) &&& 252645135))]) dJ6_bitCount_0f7a4_33 (by decide) rfl ?_
  refine r_iload_n dJ6_bitCount_0f7a4_34 0 rfl ?_
  refine r_iload_n dJ6_bitCount_0f7a4_35 0 rfl ?_
  refine r_bipush (v := 8) dJ6_bitCount_0f7a4_36 (by decide) ?_
  refine r_iushr dJ6_bitCount_0f7a4_38 ?_
  refine r_iadd dJ6_bitCount_0f7a4_39 ?_
  refine r_istore_n (lo' := [(0, .int ((((((x - ((bq x 1) &&& 1431655765)) &&& 858993459) + ((bq (x - ((bq x 1) &&& 1431655765)) 2) &&& 858993459)) + (bq (((x - ((bq x 1) &&& 1431655765)) &&& 858993459) + ((bq (x - ((bq x 1) &&& 1431655765)) 2) &&& 858993459)) 4)) &&& 252645135) + (bq (((((x - ((bq x 1) &&& 1431655765)) &&& 858993459) + ((bq (x - ((bq x 1) &&& 1431655765)) 2) &&& 858993459)) + (bq (((x - ((bq x 1) &&& 1431655765)) &&& 858993459) + ((bq (x - ((bq x 1) &&& 1431655765)) 2) &&& 858993459)) 4)) &&& 252645135) 8)))]) dJ6_bitCount_0f7a4_40 (by decide) rfl ?_
  refine r_iload_n dJ6_bitCount_0f7a4_41 0 rfl ?_
  refine r_iload_n dJ6_bitCount_0f7a4_42 0 rfl ?_
  refine r_bipush (v := 16) dJ6_bitCount_0f7a4_43 (by decide) ?_
  refine r_iushr dJ6_bitCount_0f7a4_45 ?_
  refine r_iadd dJ6_bitCount_0f7a4_46 ?_
  refine r_istore_n (lo' := [(0, .int (((((((x - ((bq x 1) &&& 1431655765)) &&& 858993459) + ((bq (x - ((bq x 1) &&& 1431655765)) 2) &&& 858993459)) + (bq (((x - ((bq x 1) &&& 1431655765)) &&& 858993459) + ((bq (x - ((bq x 1) &&& 1431655765)) 2) &&& 858993459)) 4)) &&& 252645135) + (bq (((((x - ((bq x 1) &&& 1431655765)) &&& 858993459) + ((bq (x - ((bq x 1) &&& 1431655765)) 2) &&& 858993459)) + (bq (((x - ((bq x 1) &&& 1431655765)) &&& 858993459) + ((bq (x - ((bq x 1) &&& 1431655765)) 2) &&& 858993459)) 4)) &&& 252645135) 8)) + (bq ((((((x - ((bq x 1) &&& 1431655765)) &&& 858993459) + ((bq (x - ((bq x 1) &&& 1431655765)) 2) &&& 858993459)) + (bq (((x - ((bq x 1) &&& 1431655765)) &&& 858993459) + ((bq (x - ((bq x 1) &&& 1431655765)) 2) &&& 858993459)) 4)) &&& 252645135) + (bq (((((x - ((bq x 1) &&& 1431655765)) &&& 858993459) + ((bq (x - ((bq x 1) &&& 1431655765)) 2) &&& 858993459)) + (bq (((x - ((bq x 1) &&& 1431655765)) &&& 858993459) + ((bq (x - ((bq x 1) &&& 1431655765)) 2) &&& 858993459)) 4)) &&& 252645135) 8)) 16)))]) dJ6_bitCount_0f7a4_47 (by decide) rfl ?_
  refine r_iload_n dJ6_bitCount_0f7a4_48 0 rfl ?_
  refine r_bipush (v := 63) dJ6_bitCount_0f7a4_49 (by decide) ?_
  refine r_iand dJ6_bitCount_0f7a4_51 ?_
  refine r_iret rfl dJ6_bitCount_0f7a4_52 ?_
  exact ⟨rfl, rfl⟩
set_option maxRecDepth 4000 in
theorem c_X11_isIn {ad : Nat → Nat} (σ : sS) (s t : Int32)  : ab_X (sR ad) 1 mX11_isIn [.int s, .int t] σ (some (.int (q_in s t))) σ := by
  refine ab_X.of (by decide) (Nat.le_of_ble_eq_true rfl) ?_
  refine r_iload_n dX11_isIn_0 1 rfl ?_
  refine r_iload_n dX11_isIn_1 0 rfl ?_
  refine r_ishr dX11_isIn_2 ?_
  refine r_iconst (v := 1) dX11_isIn_3 (by decide) ?_
  refine r_iand dX11_isIn_4 ?_
  refine r_if_eq (t := 12) dX11_isIn_5 (by decide) (fun c1 => ?_) (fun c1 => ?_)
  · have c1 : ((t >>> (s &&& 31)) &&& 1) = 0 := c1
    refine r_iconst (v := 0) dX11_isIn_12 (by decide) ?_
    refine r_zret rfl (by decide) dX11_isIn_13 ?_
    exact ⟨by unfold q_in; simp only [eq_true c1, ↓reduceIte], rfl⟩
  · have c1 : ¬ (((t >>> (s &&& 31)) &&& 1) = 0) := c1
    refine r_iconst (v := 1) dX11_isIn_8 (by decide) ?_
    refine r_goto (t := 13) dX11_isIn_9 (by decide) ?_
    refine r_zret rfl (by decide) dX11_isIn_13 ?_
    exact ⟨by unfold q_in; simp only [eq_false c1, ↓reduceIte], rfl⟩
set_option maxRecDepth 4000 in
theorem c_X0_vertices {ad : Nat → Nat} (σ : sS) {a : Nat} (ha : la a = (1, 0))   : ab_X (sR ad) 1 mX0_vertices [.ref (ad a)] σ (some (.int (vI σ a 1))) σ := by
  refine ab_X.of (by decide) (Nat.le_of_ble_eq_true rfl) ?_
  refine r_aload_n dX0_vertices_0 0 rfl ?_
  refine s_getI ok_X0 dX0_vertices_1 (k := 1) (by decide) fl_X0_20 ha rfl ?_
  refine r_iret rfl dX0_vertices_4 ?_
  exact ⟨rfl, rfl⟩
set_option maxRecDepth 4000 in
theorem c_X0_letterCount {ad : Nat → Nat} (σ : sS) {a : Nat} (ha : la a = (1, 0))   : ab_X (sR ad) 1 mX0_letterCount [.ref (ad a)] σ (some (.int (vI σ a 2))) σ := by
  refine ab_X.of (by decide) (Nat.le_of_ble_eq_true rfl) ?_
  refine r_aload_n dX0_letterCount_0 0 rfl ?_
  refine s_getI ok_X0 dX0_letterCount_1 (k := 2) (by decide) fl_X0_24 ha rfl ?_
  refine r_iret rfl dX0_letterCount_4 ?_
  exact ⟨rfl, rfl⟩
def a_hs (σ : sS) (a : Nat) (s : Int32) : Int32 := if s < 0 then 0 else if vI σ a 1 ≤ s then 0 else 1
def a_hg (σ : sS) (a : Nat) (s : Int32) : Int32 := if s < 0 then 0 else if vI σ a 2 ≤ s then 0 else 1
def a_ht (σ : sS) (a : Nat) (s : Int32) : Int32 := if s < 0 then 0 else if 1 <<< (vI σ a 1 &&& 31) ≤ s then 0 else 1
def a_ha (σ : sS) (a : Nat) (f s t : Int32) : Int32 := if a_hs σ a f = 0 then 0 else if a_hg σ a s = 0 then 0 else if a_hs σ a t = 0 then 0 else 1
def a_ar (σ : sS) (a : Nat) (f s : Int32) : Int32 := rg σ (a + 3) (s * 4 + f)
def a_jn (σ : sS) (a : Nat) (f s t : Int32) : Int32 := q_in t (a_ar σ a f s)
set_option maxRecDepth 4000 in
theorem c_X0_hasState {ad : Nat → Nat} (σ : sS) {a : Nat} (ha : la a = (1, 0)) (s : Int32)  : ab_X (sR ad) 1 mX0_hasState [.ref (ad a), .int s] σ (some (.int (a_hs σ a s))) σ := by
  refine ab_X.of (by decide) (Nat.le_of_ble_eq_true rfl) ?_
  refine r_iload_n dX0_hasState_0 1 rfl ?_
  refine r_if_lt (t := 16) dX0_hasState_1 (by decide) (fun c1 => ?_) (fun c1 => ?_)
  · have c1 : s < 0 := c1
    refine r_iconst (v := 0) dX0_hasState_16 (by decide) ?_
    refine r_zret rfl (by decide) dX0_hasState_17 ?_
    exact ⟨by unfold a_hs; simp only [eq_true c1, ↓reduceIte], rfl⟩
  · have c1 : ¬ (s < 0) := c1
    refine r_iload_n dX0_hasState_4 1 rfl ?_
    refine r_aload_n dX0_hasState_5 0 rfl ?_
    refine s_getI ok_X0 dX0_hasState_6 (k := 1) (by decide) fl_X0_20 ha rfl ?_
    refine r_icmp_ge (t := 16) dX0_hasState_9 (by decide) (fun c2 => ?_) (fun c2 => ?_)
    · have c2 : (vI σ a 1) ≤ s := c2
      refine r_iconst (v := 0) dX0_hasState_16 (by decide) ?_
      refine r_zret rfl (by decide) dX0_hasState_17 ?_
      exact ⟨by unfold a_hs; simp only [eq_false c1, eq_true c2, ↓reduceIte], rfl⟩
    · have c2 : ¬ ((vI σ a 1) ≤ s) := c2
      refine r_iconst (v := 1) dX0_hasState_12 (by decide) ?_
      refine r_goto (t := 17) dX0_hasState_13 (by decide) ?_
      refine r_zret rfl (by decide) dX0_hasState_17 ?_
      exact ⟨by unfold a_hs; simp only [eq_false c1, eq_false c2, ↓reduceIte], rfl⟩
set_option maxRecDepth 4000 in
theorem c_X0_hasSign {ad : Nat → Nat} (σ : sS) {a : Nat} (ha : la a = (1, 0)) (s : Int32)  : ab_X (sR ad) 1 mX0_hasSign [.ref (ad a), .int s] σ (some (.int (a_hg σ a s))) σ := by
  refine ab_X.of (by decide) (Nat.le_of_ble_eq_true rfl) ?_
  refine r_iload_n dX0_hasSign_0 1 rfl ?_
  refine r_if_lt (t := 16) dX0_hasSign_1 (by decide) (fun c1 => ?_) (fun c1 => ?_)
  · have c1 : s < 0 := c1
    refine r_iconst (v := 0) dX0_hasSign_16 (by decide) ?_
    refine r_zret rfl (by decide) dX0_hasSign_17 ?_
    exact ⟨by unfold a_hg; simp only [eq_true c1, ↓reduceIte], rfl⟩
  · have c1 : ¬ (s < 0) := c1
    refine r_iload_n dX0_hasSign_4 1 rfl ?_
    refine r_aload_n dX0_hasSign_5 0 rfl ?_
    refine s_getI ok_X0 dX0_hasSign_6 (k := 2) (by decide) fl_X0_24 ha rfl ?_
    refine r_icmp_ge (t := 16) dX0_hasSign_9 (by decide) (fun c2 => ?_) (fun c2 => ?_)
    · have c2 : (vI σ a 2) ≤ s := c2
      refine r_iconst (v := 0) dX0_hasSign_16 (by decide) ?_
      refine r_zret rfl (by decide) dX0_hasSign_17 ?_
      exact ⟨by unfold a_hg; simp only [eq_false c1, eq_true c2, ↓reduceIte], rfl⟩
    · have c2 : ¬ ((vI σ a 2) ≤ s) := c2
      refine r_iconst (v := 1) dX0_hasSign_12 (by decide) ?_
      refine r_goto (t := 17) dX0_hasSign_13 (by decide) ?_
      refine r_zret rfl (by decide) dX0_hasSign_17 ?_
      exact ⟨by unfold a_hg; simp only [eq_false c1, eq_false c2, ↓reduceIte], rfl⟩
set_option maxRecDepth 4000 in
theorem c_X0_hasSet {ad : Nat → Nat} (σ : sS) {a : Nat} (ha : la a = (1, 0)) (s : Int32)  : ab_X (sR ad) 1 mX0_hasSet [.ref (ad a), .int s] σ (some (.int (a_ht σ a s))) σ := by
  refine ab_X.of (by decide) (Nat.le_of_ble_eq_true rfl) ?_
  refine r_iload_n dX0_hasSet_0 1 rfl ?_
  refine r_if_lt (t := 18) dX0_hasSet_1 (by decide) (fun c1 => ?_) (fun c1 => ?_)
  · have c1 : s < 0 := c1
    refine r_iconst (v := 0) dX0_hasSet_18 (by decide) ?_
    refine r_zret rfl (by decide) dX0_hasSet_19 ?_
    exact ⟨by unfold a_ht; simp only [eq_true c1, ↓reduceIte], rfl⟩
  · have c1 : ¬ (s < 0) := c1
    refine r_iload_n dX0_hasSet_4 1 rfl ?_
    refine r_iconst (v := 1) dX0_hasSet_5 (by decide) ?_
    refine r_aload_n dX0_hasSet_6 0 rfl ?_
    refine s_getI ok_X0 dX0_hasSet_7 (k := 1) (by decide) fl_X0_20 ha rfl ?_
    refine r_ishl dX0_hasSet_10 ?_
    refine r_icmp_ge (t := 18) dX0_hasSet_11 (by decide) (fun c2 => ?_) (fun c2 => ?_)
    · have c2 : (1 <<< ((vI σ a 1) &&& 31)) ≤ s := c2
      refine r_iconst (v := 0) dX0_hasSet_18 (by decide) ?_
      refine r_zret rfl (by decide) dX0_hasSet_19 ?_
      exact ⟨by unfold a_ht; simp only [eq_false c1, eq_true c2, ↓reduceIte], rfl⟩
    · have c2 : ¬ ((1 <<< ((vI σ a 1) &&& 31)) ≤ s) := c2
      refine r_iconst (v := 1) dX0_hasSet_14 (by decide) ?_
      refine r_goto (t := 19) dX0_hasSet_15 (by decide) ?_
      refine r_zret rfl (by decide) dX0_hasSet_19 ?_
      exact ⟨by unfold a_ht; simp only [eq_false c1, eq_false c2, ↓reduceIte], rfl⟩
set_option maxRecDepth 4000 in
theorem c_X0_hasArrow {ad : Nat → Nat} (σ : sS) {a : Nat} (ha : la a = (1, 0)) (f s t : Int32)  : ab_X (sR ad) 2 mX0_hasArrow [.ref (ad a), .int f, .int s, .int t] σ (some (.int (a_ha σ a f s t))) σ := by
  refine ab_X.of (by decide) (Nat.le_of_ble_eq_true rfl) ?_
  refine r_aload_n dX0_hasArrow_0 0 rfl ?_
  refine r_iload_n dX0_hasArrow_1 1 rfl ?_
  refine x_callV (Y := mX0_hasState) (d' := 1) dX0_hasArrow_2 ml_X0_44 yv_X0_hasState (by decide) rfl rfl (by simp [Value.category]) (sR_is ha rfl) (c_X0_hasState σ ha f) ?_
  refine r_if_eq (t := 28) dX0_hasArrow_5 (by decide) (fun c1 => ?_) (fun c1 => ?_)
  · have c1 : (a_hs σ a f) = 0 := c1
    refine r_iconst (v := 0) dX0_hasArrow_28 (by decide) ?_
    refine r_zret rfl (by decide) dX0_hasArrow_29 ?_
    exact ⟨by unfold a_ha; simp only [eq_true c1, ↓reduceIte], rfl⟩
  · have c1 : ¬ ((a_hs σ a f) = 0) := c1
    refine r_aload_n dX0_hasArrow_8 0 rfl ?_
    refine r_iload_n dX0_hasArrow_9 2 rfl ?_
    refine x_callV (Y := mX0_hasSign) (d' := 1) dX0_hasArrow_10 ml_X0_48 yv_X0_hasSign (by decide) rfl rfl (by simp [Value.category]) (sR_is ha rfl) (c_X0_hasSign σ ha s) ?_
    refine r_if_eq (t := 28) dX0_hasArrow_13 (by decide) (fun c2 => ?_) (fun c2 => ?_)
    · have c2 : (a_hg σ a s) = 0 := c2
      refine r_iconst (v := 0) dX0_hasArrow_28 (by decide) ?_
      refine r_zret rfl (by decide) dX0_hasArrow_29 ?_
      exact ⟨by unfold a_ha; simp only [eq_false c1, eq_true c2, ↓reduceIte], rfl⟩
    · have c2 : ¬ ((a_hg σ a s) = 0) := c2
      refine r_aload_n dX0_hasArrow_16 0 rfl ?_
      refine r_iload_n dX0_hasArrow_17 3 rfl ?_
      refine x_callV (Y := mX0_hasState) (d' := 1) dX0_hasArrow_18 ml_X0_44 yv_X0_hasState (by decide) rfl rfl (by simp [Value.category]) (sR_is ha rfl) (c_X0_hasState σ ha t) ?_
      refine r_if_eq (t := 28) dX0_hasArrow_21 (by decide) (fun c3 => ?_) (fun c3 => ?_)
      · have c3 : (a_hs σ a t) = 0 := c3
        refine r_iconst (v := 0) dX0_hasArrow_28 (by decide) ?_
        refine r_zret rfl (by decide) dX0_hasArrow_29 ?_
        exact ⟨by unfold a_ha; simp only [eq_false c1, eq_false c2, eq_true c3, ↓reduceIte], rfl⟩
      · have c3 : ¬ ((a_hs σ a t) = 0) := c3
        refine r_iconst (v := 1) dX0_hasArrow_24 (by decide) ?_
        refine r_goto (t := 29) dX0_hasArrow_25 (by decide) ?_
        refine r_zret rfl (by decide) dX0_hasArrow_29 ?_
        exact ⟨by unfold a_ha; simp only [eq_false c1, eq_false c2, eq_false c3, ↓reduceIte], rfl⟩
set_option maxRecDepth 4000 in
theorem c_X0_arrowsOf {ad : Nat → Nat} (σ : sS) {a : Nat} (ha : la a = (1, 0)) (f s : Int32)  : ab_X (sR ad) 2 mX0_arrowsOf [.ref (ad a), .int f, .int s] σ (some (.int (a_ar σ a f s))) σ := by
  refine ab_X.of (by decide) (Nat.le_of_ble_eq_true rfl) ?_
  refine r_aload_n dX0_arrowsOf_0 0 rfl ?_
  refine s_getR (b := a + 3) ok_X0 dX0_arrowsOf_1 (k := 0) (by decide) fl_X0_14 ha rfl (au_sr ha) ?_
  refine r_iload_n dX0_arrowsOf_4 2 rfl ?_
  refine r_iconst (v := 4) dX0_arrowsOf_5 (by decide) ?_
  refine r_imul dX0_arrowsOf_6 ?_
  refine r_iload_n dX0_arrowsOf_7 1 rfl ?_
  refine r_iadd dX0_arrowsOf_8 ?_
  refine x_callV (Y := mX7_get) (d' := 1) dX0_arrowsOf_9 ml_X0_36 yv_X7_get (by decide) rfl rfl (by simp [Value.category]) (sR_isR (au_row ha)) (c_get (au_row ha) ((s * 4) + f)) ?_
  refine r_iret rfl dX0_arrowsOf_12 ?_
  exact ⟨rfl, rfl⟩
theorem q_in01 (s t : Int32) : narrow .boolean (.int (q_in s t)) = .int (q_in s t) := by
  unfold q_in
  by_cases h : (t >>> (s &&& 31)) &&& 1 = 0
  · rw [if_pos h]; decide
  · rw [if_neg h]; decide
set_option maxRecDepth 4000 in
theorem c_X0_joins {ad : Nat → Nat} (σ : sS) {a : Nat} (ha : la a = (1, 0)) (f s t : Int32)  : ab_X (sR ad) 3 mX0_joins [.ref (ad a), .int f, .int s, .int t] σ (some (.int (a_jn σ a f s t))) σ := by
  refine ab_X.of (by decide) (Nat.le_of_ble_eq_true rfl) ?_
  refine r_iload_n dX0_joins_0 3 rfl ?_
  refine r_aload_n dX0_joins_1 0 rfl ?_
  refine r_iload_n dX0_joins_2 1 rfl ?_
  refine r_iload_n dX0_joins_3 2 rfl ?_
  refine x_callV (Y := mX0_arrowsOf) (d' := 2) dX0_joins_4 ml_X0_51 yv_X0_arrowsOf (by decide) rfl rfl (by simp [Value.category]) (sR_is ha rfl) (c_X0_arrowsOf σ ha f s) ?_
  refine x_callSN (Y := mX11_isIn) (d' := 1) dX0_joins_7 mn_X0_55 ys_X11_isIn (by decide) rfl rfl (by simp [Value.category]) (c_X11_isIn σ t (a_ar σ a f s)) ?_
  refine r_zret rfl (q_in01 _ _) dX0_joins_10 ?_
  exact ⟨rfl, rfl⟩
set_option maxRecDepth 4000 in
theorem c_X0_isFirst {ad : Nat → Nat} (σ : sS) {a : Nat} (ha : la a = (1, 0)) (s : Int32)  : ab_X (sR ad) 2 mX0_isFirst [.ref (ad a), .int s] σ (some (.int (q_in s (vI σ a 3)))) σ := by
  refine ab_X.of (by decide) (Nat.le_of_ble_eq_true rfl) ?_
  refine r_iload_n dX0_isFirst_0 1 rfl ?_
  refine r_aload_n dX0_isFirst_1 0 rfl ?_
  refine s_getI ok_X0 dX0_isFirst_2 (k := 3) (by decide) fl_X0_27 ha rfl ?_
  refine x_callSN (Y := mX11_isIn) (d' := 1) dX0_isFirst_5 mn_X0_55 ys_X11_isIn (by decide) rfl rfl (by simp [Value.category]) (c_X11_isIn σ s (vI σ a 3)) ?_
  refine r_zret rfl (q_in01 _ _) dX0_isFirst_8 ?_
  exact ⟨rfl, rfl⟩
set_option maxRecDepth 4000 in
theorem c_X0_isMarked {ad : Nat → Nat} (σ : sS) {a : Nat} (ha : la a = (1, 0)) (s : Int32)  : ab_X (sR ad) 2 mX0_isMarked [.ref (ad a), .int s] σ (some (.int (q_in s (vI σ a 4)))) σ := by
  refine ab_X.of (by decide) (Nat.le_of_ble_eq_true rfl) ?_
  refine r_iload_n dX0_isMarked_0 1 rfl ?_
  refine r_aload_n dX0_isMarked_1 0 rfl ?_
  refine s_getI ok_X0 dX0_isMarked_2 (k := 4) (by decide) fl_X0_30 ha rfl ?_
  refine x_callSN (Y := mX11_isIn) (d' := 1) dX0_isMarked_5 mn_X0_55 ys_X11_isIn (by decide) rfl rfl (by simp [Value.category]) (c_X11_isIn σ s (vI σ a 4)) ?_
  refine r_zret rfl (q_in01 _ _) dX0_isMarked_8 ?_
  exact ⟨rfl, rfl⟩
set_option maxRecDepth 4000 in
theorem c_X0_fan {ad : Nat → Nat} (σ : sS) {a : Nat} (ha : la a = (1, 0)) (v s : Int32)  : ab_X (sR ad) 3 mX0_fan [.ref (ad a), .int v, .int s] σ (some (.int (bc (a_ar σ a v s)))) σ := by
  refine ab_X.of (by decide) (Nat.le_of_ble_eq_true rfl) ?_
  refine r_aload_n dX0_fan_0 0 rfl ?_
  refine r_iload_n dX0_fan_1 1 rfl ?_
  refine r_iload_n dX0_fan_2 2 rfl ?_
  refine x_callV (Y := mX0_arrowsOf) (d' := 2) dX0_fan_3 ml_X0_51 yv_X0_arrowsOf (by decide) rfl rfl (by simp [Value.category]) (sR_is ha rfl) (c_X0_arrowsOf σ ha v s) ?_
  refine x_callS (Y := mJ6_bitCount_0f7a4) (d' := 1) dX0_fan_6 ml_X0_59 ys_J6_bitCount_0f7a4 (by decide) rfl rfl (by simp [Value.category]) (c_J6_bitCount_0f7a4 σ (a_ar σ a v s)) ?_
  refine r_iret rfl dX0_fan_9 ?_
  exact ⟨rfl, rfl⟩
def a_sa (σ : sS) (a : Nat) (f s t z : Int32) : sS := if z = 0 then rp σ (a + 3) (s * 4 + f) (a_ar σ a f s &&& ((1 <<< (t &&& 31)) ^^^ (-1))) else rp σ (a + 3) (s * 4 + f) (a_ar σ a f s ||| (1 <<< (t &&& 31)))
set_option maxRecDepth 4000 in
theorem c_X0_setArrow {ad : Nat → Nat} (σ : sS) {a : Nat} (ha : la a = (1, 0)) (f s t z : Int32)  : ab_X (sR ad) 3 mX0_setArrow [.ref (ad a), .int f, .int s, .int t, .int z] σ none (a_sa σ a f s t z) := by
  refine ab_X.of (by decide) (Nat.le_of_ble_eq_true rfl) ?_
  refine r_aload_n dX0_setArrow_0 0 rfl ?_
  refine r_iload_n dX0_setArrow_1 1 rfl ?_
  refine r_iload_n dX0_setArrow_2 2 rfl ?_
  refine x_callV (Y := mX0_arrowsOf) (d' := 2) dX0_setArrow_3 ml_X0_51 yv_X0_arrowsOf (by decide) rfl rfl (by simp [Value.category]) (sR_is ha rfl) (c_X0_arrowsOf σ ha f s) ?_
  refine r_istore (lo' := [(5, .int (a_ar σ a f s)), (0, .ref (ad a)), (1, .int f), (2, .int s), (3, .int t), (4, .int z)]) dX0_setArrow_6 (by decide) rfl ?_
  refine r_aload_n dX0_setArrow_8 1 rfl ?_
  refine s_getR (b := a + 3) ok_X0 dX0_setArrow_9 (k := 0) (by decide) fl_X0_14 ha rfl (au_sr ha) ?_
  refine r_iload_n dX0_setArrow_12 3 rfl ?_
  refine r_iconst (v := 4) dX0_setArrow_13 (by decide) ?_
  refine r_imul dX0_setArrow_14 ?_
  refine r_iload_n dX0_setArrow_15 2 rfl ?_
  refine r_iadd dX0_setArrow_16 ?_
  refine r_iload dX0_setArrow_17 5 rfl ?_
  refine r_if_eq (t := 31) dX0_setArrow_19 (by decide) (fun c1 => ?_) (fun c1 => ?_)
  · have c1 : z = 0 := c1
    refine r_iload dX0_setArrow_31 0 rfl ?_
    refine r_iconst (v := 1) dX0_setArrow_33 (by decide) ?_
    refine r_iload_n dX0_setArrow_34 4 rfl ?_
    refine r_ishl dX0_setArrow_35 ?_
    refine r_iconst (v := (-1)) dX0_setArrow_36 (by decide) ?_
    refine r_ixor dX0_setArrow_37 ?_
    refine r_iand dX0_setArrow_38 ?_
    refine x_callV0 (Y := mX7_put) (d' := 1) dX0_setArrow_39 ml_X0_40 yv_X7_put (by decide) rfl rfl (by simp [Value.category]) (sR_isR (au_row ha)) (c_put (au_row ha) ((s * 4) + f) ((a_ar σ a f s) &&& ((1 <<< (t &&& 31)) ^^^ ((-1))))) ?_
    refine r_vret rfl dX0_setArrow_42 ?_
    exact ⟨rfl, by unfold a_sa; simp only [eq_true c1, ↓reduceIte]⟩
  · have c1 : ¬ (z = 0) := c1
    refine r_iload dX0_setArrow_22 0 rfl ?_
    refine r_iconst (v := 1) dX0_setArrow_24 (by decide) ?_
    refine r_iload_n dX0_setArrow_25 4 rfl ?_
    refine r_ishl dX0_setArrow_26 ?_
    refine r_ior dX0_setArrow_27 ?_
    refine r_goto (t := 39) dX0_setArrow_28 (by decide) ?_
    refine x_callV0 (Y := mX7_put) (d' := 1) dX0_setArrow_39 ml_X0_40 yv_X7_put (by decide) rfl rfl (by simp [Value.category]) (sR_isR (au_row ha)) (c_put (au_row ha) ((s * 4) + f) ((a_ar σ a f s) ||| (1 <<< (t &&& 31)))) ?_
    refine r_vret rfl dX0_setArrow_42 ?_
    exact ⟨rfl, by unfold a_sa; simp only [eq_false c1, ↓reduceIte]⟩
def a_ly (σ : sS) (a : Nat) (n m : Int32) : sS := rz (uI (uI (uI (uI σ a 1 n) a 2 m) a 3 0) a 4 0) (a + 3) 12
set_option maxRecDepth 4000 in
theorem c_X0_lay {ad : Nat → Nat} (σ : sS) {a : Nat} (ha : la a = (1, 0)) (n m : Int32)  : ab_X (sR ad) 4 mX0_lay [.ref (ad a), .int n, .int m] σ none (a_ly σ a n m) := by
  refine ab_X.of (by decide) (Nat.le_of_ble_eq_true rfl) ?_
  refine r_aload_n dX0_lay_0 0 rfl ?_
  refine r_iload_n dX0_lay_1 1 rfl ?_
  refine s_putI ok_X0 dX0_lay_2 (k := 1) (by decide) fl_X0_20 rfl rfl rfl ha rfl ?_
  refine r_aload_n dX0_lay_5 0 rfl ?_
  refine r_iload_n dX0_lay_6 2 rfl ?_
  refine s_putI ok_X0 dX0_lay_7 (k := 2) (by decide) fl_X0_24 rfl rfl rfl ha rfl ?_
  refine r_aload_n dX0_lay_10 0 rfl ?_
  refine r_iconst (v := 0) dX0_lay_11 (by decide) ?_
  refine s_putI ok_X0 dX0_lay_12 (k := 3) (by decide) fl_X0_27 rfl rfl rfl ha rfl ?_
  refine r_aload_n dX0_lay_15 0 rfl ?_
  refine r_iconst (v := 0) dX0_lay_16 (by decide) ?_
  refine s_putI ok_X0 dX0_lay_17 (k := 4) (by decide) fl_X0_30 rfl rfl rfl ha rfl ?_
  refine r_aload_n dX0_lay_20 0 rfl ?_
  refine s_getR (b := a + 3) ok_X0 dX0_lay_21 (k := 0) (by decide) fl_X0_14 ha rfl (au_sr ha) ?_
  refine r_bipush (v := 12) dX0_lay_24 (by decide) ?_
  refine x_callV0 (Y := mX7_wipe) (d' := 3) dX0_lay_26 ml_X0_33 yv_X7_wipe (by decide) rfl rfl (by simp [Value.category]) (sR_isR (au_row ha)) (c_wipe (au_row ha) 12 (by decide)) ?_
  refine r_vret rfl dX0_lay_29 ?_
  exact ⟨rfl, rfl⟩
def a_ct (σ : sS) (a : Nat) : Int32 := ((((((((((((0 + bc (rg σ (a + 3) 0)) + bc (rg σ (a + 3) 1)) + bc (rg σ (a + 3) 2)) + bc (rg σ (a + 3) 3)) + bc (rg σ (a + 3) 4)) + bc (rg σ (a + 3) 5)) + bc (rg σ (a + 3) 6)) + bc (rg σ (a + 3) 7)) + bc (rg σ (a + 3) 8)) + bc (rg σ (a + 3) 9)) + bc (rg σ (a + 3) 10)) + bc (rg σ (a + 3) 11))
set_option maxRecDepth 4000 in
theorem c_X0_arrowCount {ad : Nat → Nat} (σ : sS) {a : Nat} (ha : la a = (1, 0))   : ab_X (sR ad) 2 mX0_arrowCount [.ref (ad a)] σ (some (.int (a_ct σ a))) σ := by
  refine ab_X.of (by decide) (Nat.le_of_ble_eq_true rfl) ?_
  refine r_iconst (v := 0) dX0_arrowCount_0 (by decide) ?_
  refine r_istore_n (lo' := [(1, .int 0), (0, .ref (ad a))]) dX0_arrowCount_1 (by decide) rfl ?_
  refine r_iconst (v := 0) dX0_arrowCount_2 (by decide) ?_
  refine r_istore_n (lo' := [(2, .int 0), (1, .int 0), (0, .ref (ad a))]) dX0_arrowCount_3 (by decide) rfl ?_
  refine r_iload_n dX0_arrowCount_4 0 rfl ?_
  refine r_bipush (v := 12) dX0_arrowCount_5 (by decide) ?_
  refine r_icmp_ge (t := 30) dX0_arrowCount_7 (by decide) (fun hh => absurd hh (by decide)) (fun _ => ?_)
  refine r_iload_n dX0_arrowCount_10 1 rfl ?_
  refine r_aload_n dX0_arrowCount_11 2 rfl ?_
  refine s_getR (b := a + 3) ok_X0 dX0_arrowCount_12 (k := 0) (by decide) fl_X0_14 ha rfl (au_sr ha) ?_
  refine r_iload_n dX0_arrowCount_15 0 rfl ?_
  refine x_callV (Y := mX7_get) (d' := 1) dX0_arrowCount_16 ml_X0_36 yv_X7_get (by decide) rfl rfl (by simp [Value.category]) (sR_isR (au_row ha)) (c_get (au_row ha) 0) ?_
  refine x_callS (Y := mJ6_bitCount_0f7a4) (d' := 1) dX0_arrowCount_19 ml_X0_59 ys_J6_bitCount_0f7a4 (by decide) rfl rfl (by simp [Value.category]) (c_J6_bitCount_0f7a4 σ (rg σ (a + 3) 0)) ?_
  refine r_iadd dX0_arrowCount_22 ?_
  refine r_istore_n (lo' := [(1, .int (0 + (bc (rg σ (a + 3) 0)))), (2, .int 0), (0, .ref (ad a))]) dX0_arrowCount_23 (by decide) rfl ?_
  refine r_iinc (v := 1) (lo' := [(2, .int 1), (1, .int (0 + (bc (rg σ (a + 3) 0)))), (0, .ref (ad a))]) dX0_arrowCount_24 1 rfl (by decide) (by decide) rfl ?_
  refine r_goto (t := 4) dX0_arrowCount_27 (by decide) ?_
  refine r_iload_n dX0_arrowCount_4 0 rfl ?_
  refine r_bipush (v := 12) dX0_arrowCount_5 (by decide) ?_
  refine r_icmp_ge (t := 30) dX0_arrowCount_7 (by decide) (fun hh => absurd hh (by decide)) (fun _ => ?_)
  refine r_iload_n dX0_arrowCount_10 1 rfl ?_
  refine r_aload_n dX0_arrowCount_11 2 rfl ?_
  refine s_getR (b := a + 3) ok_X0 dX0_arrowCount_12 (k := 0) (by decide) fl_X0_14 ha rfl (au_sr ha) ?_
  refine r_iload_n dX0_arrowCount_15 0 rfl ?_
  refine x_callV (Y := mX7_get) (d' := 1) dX0_arrowCount_16 ml_X0_36 yv_X7_get (by decide) rfl rfl (by simp [Value.category]) (sR_isR (au_row ha)) (c_get (au_row ha) 1) ?_
  refine x_callS (Y := mJ6_bitCount_0f7a4) (d' := 1) dX0_arrowCount_19 ml_X0_59 ys_J6_bitCount_0f7a4 (by decide) rfl rfl (by simp [Value.category]) (c_J6_bitCount_0f7a4 σ (rg σ (a + 3) 1)) ?_
  refine r_iadd dX0_arrowCount_22 ?_
  refine r_istore_n (lo' := [(1, .int ((0 + (bc (rg σ (a + 3) 0))) + (bc (rg σ (a + 3) 1)))), (2, .int 1), (0, .ref (ad a))]) dX0_arrowCount_23 (by decide) rfl ?_
  refine r_iinc (v := 2) (lo' := [(2, .int 2), (1, .int ((0 + (bc (rg σ (a + 3) 0))) + (bc (rg σ (a + 3) 1)))), (0, .ref (ad a))]) dX0_arrowCount_24 1 rfl (by decide) (by decide) rfl ?_
  refine r_goto (t := 4) dX0_arrowCount_27 (by decide) ?_
  refine r_iload_n dX0_arrowCount_4 0 rfl ?_
  refine r_bipush (v := 12) dX0_arrowCount_5 (by decide) ?_
  refine r_icmp_ge (t := 30) dX0_arrowCount_7 (by decide) (fun hh => absurd hh (by decide)) (fun _ => ?_)
  refine r_iload_n dX0_arrowCount_10 1 rfl ?_
  refine r_aload_n dX0_arrowCount_11 2 rfl ?_
  refine s_getR (b := a + 3) ok_X0 dX0_arrowCount_12 (k := 0) (by decide) fl_X0_14 ha rfl (au_sr ha) ?_
  refine r_iload_n dX0_arrowCount_15 0 rfl ?_
  refine x_callV (Y := mX7_get) (d' := 1) dX0_arrowCount_16 ml_X0_36 yv_X7_get (by decide) rfl rfl (by simp [Value.category]) (sR_isR (au_row ha)) (c_get (au_row ha) 2) ?_
  refine x_callS (Y := mJ6_bitCount_0f7a4) (d' := 1) dX0_arrowCount_19 ml_X0_59 ys_J6_bitCount_0f7a4 (by decide) rfl rfl (by simp [Value.category]) (c_J6_bitCount_0f7a4 σ (rg σ (a + 3) 2)) ?_
  refine r_iadd dX0_arrowCount_22 ?_
  refine r_istore_n (lo' := [(1, .int (((0 + (bc (rg σ (a + 3) 0))) + (bc (rg σ (a + 3) 1))) + (bc (rg σ (a + 3) 2)))), (2, .int 2), (0, .ref (ad a))]) dX0_arrowCount_23 (by decide) rfl ?_
  refine r_iinc (v := 3) (lo' := [(2, .int 3), (1, .int (((0 + (bc (rg σ (a + 3) 0))) + (bc (rg σ (a + 3) 1))) + (bc (rg σ (a + 3) 2)))), (0, .ref (ad a))]) dX0_arrowCount_24 1 rfl (by decide) (by decide) rfl ?_
  refine r_goto (t := 4) dX0_arrowCount_27 (by decide) ?_
  refine r_iload_n dX0_arrowCount_4 0 rfl ?_
  refine r_bipush (v := 12) dX0_arrowCount_5 (by decide) ?_
  refine r_icmp_ge (t := 30) dX0_arrowCount_7 (by decide) (fun hh => absurd hh (by decide)) (fun _ => ?_)
  refine r_iload_n dX0_arrowCount_10 1 rfl ?_
  refine r_aload_n dX0_arrowCount_11 2 rfl ?_
  refine s_getR (b := a + 3) ok_X0 dX0_arrowCount_12 (k := 0) (by decide) fl_X0_14 ha rfl (au_sr ha) ?_
  refine r_iload_n dX0_arrowCount_15 0 rfl ?_
  refine x_callV (Y := mX7_get) (d' := 1) dX0_arrowCount_16 ml_X0_36 yv_X7_get (by decide) rfl rfl (by simp [Value.category]) (sR_isR (au_row ha)) (c_get (au_row ha) 3) ?_
  refine x_callS (Y := mJ6_bitCount_0f7a4) (d' := 1) dX0_arrowCount_19 ml_X0_59 ys_J6_bitCount_0f7a4 (by decide) rfl rfl (by simp [Value.category]) (c_J6_bitCount_0f7a4 σ (rg σ (a + 3) 3)) ?_
  refine r_iadd dX0_arrowCount_22 ?_
  refine r_istore_n (lo' := [(1, .int ((((0 + (bc (rg σ (a + 3) 0))) + (bc (rg σ (a + 3) 1))) + (bc (rg σ (a + 3) 2))) + (bc (rg σ (a + 3) 3)))), (2, .int 3), (0, .ref (ad a))]) dX0_arrowCount_23 (by decide) rfl ?_
  refine r_iinc (v := 4) (lo' := [(2, .int 4), (1, .int ((((0 + (bc (rg σ (a + 3) 0))) + (bc (rg σ (a + 3) 1))) + (bc (rg σ (a + 3) 2))) + (bc (rg σ (a + 3) 3)))), (0, .ref (ad a))]) dX0_arrowCount_24 1 rfl (by decide) (by decide) rfl ?_
  refine r_goto (t := 4) dX0_arrowCount_27 (by decide) ?_
  refine r_iload_n dX0_arrowCount_4 0 rfl ?_
  refine r_bipush (v := 12) dX0_arrowCount_5 (by decide) ?_
  refine r_icmp_ge (t := 30) dX0_arrowCount_7 (by decide) (fun hh => absurd hh (by decide)) (fun _ => ?_)
  refine r_iload_n dX0_arrowCount_10 1 rfl ?_
  refine r_aload_n dX0_arrowCount_11 2 rfl ?_
  refine s_getR (b := a + 3) ok_X0 dX0_arrowCount_12 (k := 0) (by decide) fl_X0_14 ha rfl (au_sr ha) ?_
  refine r_iload_n dX0_arrowCount_15 0 rfl ?_
  refine x_callV (Y := mX7_get) (d' := 1) dX0_arrowCount_16 ml_X0_36 yv_X7_get (by decide) rfl rfl (by simp [Value.category]) (sR_isR (au_row ha)) (c_get (au_row ha) 4) ?_
  refine x_callS (Y := mJ6_bitCount_0f7a4) (d' := 1) dX0_arrowCount_19 ml_X0_59 ys_J6_bitCount_0f7a4 (by decide) rfl rfl (by simp [Value.category]) (c_J6_bitCount_0f7a4 σ (rg σ (a + 3) 4)) ?_
  refine r_iadd dX0_arrowCount_22 ?_
  refine r_istore_n (lo' := [(1, .int (((((0 + (bc (rg σ (a + 3) 0))) + (bc (rg σ (a + 3) 1))) + (bc (rg σ (a + 3) 2))) + (bc (rg σ (a + 3) 3))) + (bc (rg σ (a + 3) 4)))), (2, .int 4), (0, .ref (ad a))]) dX0_arrowCount_23 (by decide) rfl ?_
  refine r_iinc (v := 5) (lo' := [(2, .int 5), (1, .int (((((0 + (bc (rg σ (a + 3) 0))) + (bc (rg σ (a + 3) 1))) + (bc (rg σ (a + 3) 2))) + (bc (rg σ (a + 3) 3))) + (bc (rg σ (a + 3) 4)))), (0, .ref (ad a))]) dX0_arrowCount_24 1 rfl (by decide) (by decide) rfl ?_
  refine r_goto (t := 4) dX0_arrowCount_27 (by decide) ?_
  refine r_iload_n dX0_arrowCount_4 0 rfl ?_
  refine r_bipush (v := 12) dX0_arrowCount_5 (by decide) ?_
  refine r_icmp_ge (t := 30) dX0_arrowCount_7 (by decide) (fun hh => absurd hh (by decide)) (fun _ => ?_)
  refine r_iload_n dX0_arrowCount_10 1 rfl ?_
  refine r_aload_n dX0_arrowCount_11 2 rfl ?_
  refine s_getR (b := a + 3) ok_X0 dX0_arrowCount_12 (k := 0) (by decide) fl_X0_14 ha rfl (au_sr ha) ?_
  refine r_iload_n dX0_arrowCount_15 0 rfl ?_
  refine x_callV (Y := mX7_get) (d' := 1) dX0_arrowCount_16 ml_X0_36 yv_X7_get (by decide) rfl rfl (by simp [Value.category]) (sR_isR (au_row ha)) (c_get (au_row ha) 5) ?_
  refine x_callS (Y := mJ6_bitCount_0f7a4) (d' := 1) dX0_arrowCount_19 ml_X0_59 ys_J6_bitCount_0f7a4 (by decide) rfl rfl (by simp [Value.category]) (c_J6_bitCount_0f7a4 σ (rg σ (a + 3) 5)) ?_
  refine r_iadd dX0_arrowCount_22 ?_
  refine r_istore_n (lo' := [(1, .int ((((((0 + (bc (rg σ (a + 3) 0))) + (bc (rg σ (a + 3) 1))) + (bc (rg σ (a + 3) 2))) + (bc (rg σ (a + 3) 3))) + (bc (rg σ (a + 3) 4))) + (bc (rg σ (a + 3) 5)))), (2, .int 5), (0, .ref (ad a))]) dX0_arrowCount_23 (by decide) rfl ?_
  refine r_iinc (v := 6) (lo' := [(2, .int 6), (1, .int ((((((0 + (bc (rg σ (a + 3) 0))) + (bc (rg σ (a + 3) 1))) + (bc (rg σ (a + 3) 2))) + (bc (rg σ (a + 3) 3))) + (bc (rg σ (a + 3) 4))) + (bc (rg σ (a + 3) 5)))), (0, .ref (ad a))]) dX0_arrowCount_24 1 rfl (by decide) (by decide) rfl ?_
  refine r_goto (t := 4) dX0_arrowCount_27 (by decide) ?_
  refine r_iload_n dX0_arrowCount_4 0 rfl ?_
  refine r_bipush (v := 12) dX0_arrowCount_5 (by decide) ?_
  refine r_icmp_ge (t := 30) dX0_arrowCount_7 (by decide) (fun hh => absurd hh (by decide)) (fun _ => ?_)
  refine r_iload_n dX0_arrowCount_10 1 rfl ?_
  refine r_aload_n dX0_arrowCount_11 2 rfl ?_
  refine s_getR (b := a + 3) ok_X0 dX0_arrowCount_12 (k := 0) (by decide) fl_X0_14 ha rfl (au_sr ha) ?_
  refine r_iload_n dX0_arrowCount_15 0 rfl ?_
  refine x_callV (Y := mX7_get) (d' := 1) dX0_arrowCount_16 ml_X0_36 yv_X7_get (by decide) rfl rfl (by simp [Value.category]) (sR_isR (au_row ha)) (c_get (au_row ha) 6) ?_
  refine x_callS (Y := mJ6_bitCount_0f7a4) (d' := 1) dX0_arrowCount_19 ml_X0_59 ys_J6_bitCount_0f7a4 (by decide) rfl rfl (by simp [Value.category]) (c_J6_bitCount_0f7a4 σ (rg σ (a + 3) 6)) ?_
  refine r_iadd dX0_arrowCount_22 ?_
  refine r_istore_n (lo' := [(1, .int (((((((0 + (bc (rg σ (a + 3) 0))) + (bc (rg σ (a + 3) 1))) + (bc (rg σ (a + 3) 2))) + (bc (rg σ (a + 3) 3))) + (bc (rg σ (a + 3) 4))) + (bc (rg σ (a + 3) 5))) + (bc (rg σ (a + 3) 6)))), (2, .int 6), (0, .ref (ad a))]) dX0_arrowCount_23 (by decide) rfl ?_
  refine r_iinc (v := 7) (lo' := [(2, .int 7), (1, .int (((((((0 + (bc (rg σ (a + 3) 0))) + (bc (rg σ (a + 3) 1))) + (bc (rg σ (a + 3) 2))) + (bc (rg σ (a + 3) 3))) + (bc (rg σ (a + 3) 4))) + (bc (rg σ (a + 3) 5))) + (bc (rg σ (a + 3) 6)))), (0, .ref (ad a))]) dX0_arrowCount_24 1 rfl (by decide) (by decide) rfl ?_
  refine r_goto (t := 4) dX0_arrowCount_27 (by decide) ?_
  refine r_iload_n dX0_arrowCount_4 0 rfl ?_
  refine r_bipush (v := 12) dX0_arrowCount_5 (by decide) ?_
  refine r_icmp_ge (t := 30) dX0_arrowCount_7 (by decide) (fun hh => absurd hh (by decide)) (fun _ => ?_)
  refine r_iload_n dX0_arrowCount_10 1 rfl ?_
  refine r_aload_n dX0_arrowCount_11 2 rfl ?_
  refine s_getR (b := a + 3) ok_X0 dX0_arrowCount_12 (k := 0) (by decide) fl_X0_14 ha rfl (au_sr ha) ?_
  refine r_iload_n dX0_arrowCount_15 0 rfl ?_
  refine x_callV (Y := mX7_get) (d' := 1) dX0_arrowCount_16 ml_X0_36 yv_X7_get (by decide) rfl rfl (by simp [Value.category]) (sR_isR (au_row ha)) (c_get (au_row ha) 7) ?_
  refine x_callS (Y := mJ6_bitCount_0f7a4) (d' := 1) dX0_arrowCount_19 ml_X0_59 ys_J6_bitCount_0f7a4 (by decide) rfl rfl (by simp [Value.category]) (c_J6_bitCount_0f7a4 σ (rg σ (a + 3) 7)) ?_
  refine r_iadd dX0_arrowCount_22 ?_
  refine r_istore_n (lo' := [(1, .int ((((((((0 + (bc (rg σ (a + 3) 0))) + (bc (rg σ (a + 3) 1))) + (bc (rg σ (a + 3) 2))) + (bc (rg σ (a + 3) 3))) + (bc (rg σ (a + 3) 4))) + (bc (rg σ (a + 3) 5))) + (bc (rg σ (a + 3) 6))) + (bc (rg σ (a + 3) 7)))), (2, .int 7), (0, .ref (ad a))]) dX0_arrowCount_23 (by decide) rfl ?_
  refine r_iinc (v := 8) (lo' := [(2, .int 8), (1, .int ((((((((0 + (bc (rg σ (a + 3) 0))) + (bc (rg σ (a + 3) 1))) + (bc (rg σ (a + 3) 2))) + (bc (rg σ (a + 3) 3))) + (bc (rg σ (a + 3) 4))) + (bc (rg σ (a + 3) 5))) + (bc (rg σ (a + 3) 6))) + (bc (rg σ (a + 3) 7)))), (0, .ref (ad a))]) dX0_arrowCount_24 1 rfl (by decide) (by decide) rfl ?_
  refine r_goto (t := 4) dX0_arrowCount_27 (by decide) ?_
  refine r_iload_n dX0_arrowCount_4 0 rfl ?_
  refine r_bipush (v := 12) dX0_arrowCount_5 (by decide) ?_
  refine r_icmp_ge (t := 30) dX0_arrowCount_7 (by decide) (fun hh => absurd hh (by decide)) (fun _ => ?_)
  refine r_iload_n dX0_arrowCount_10 1 rfl ?_
  refine r_aload_n dX0_arrowCount_11 2 rfl ?_
  refine s_getR (b := a + 3) ok_X0 dX0_arrowCount_12 (k := 0) (by decide) fl_X0_14 ha rfl (au_sr ha) ?_
  refine r_iload_n dX0_arrowCount_15 0 rfl ?_
  refine x_callV (Y := mX7_get) (d' := 1) dX0_arrowCount_16 ml_X0_36 yv_X7_get (by decide) rfl rfl (by simp [Value.category]) (sR_isR (au_row ha)) (c_get (au_row ha) 8) ?_
  refine x_callS (Y := mJ6_bitCount_0f7a4) (d' := 1) dX0_arrowCount_19 ml_X0_59 ys_J6_bitCount_0f7a4 (by decide) rfl rfl (by simp [Value.category]) (c_J6_bitCount_0f7a4 σ (rg σ (a + 3) 8)) ?_
  refine r_iadd dX0_arrowCount_22 ?_
  refine r_istore_n (lo' := [(1, .int (((((((((0 + (bc (rg σ (a + 3) 0))) + (bc (rg σ (a + 3) 1))) + (bc (rg σ (a + 3) 2))) + (bc (rg σ (a + 3) 3))) + (bc (rg σ (a + 3) 4))) + (bc (rg σ (a + 3) 5))) + (bc (rg σ (a + 3) 6))) + (bc (rg σ (a + 3) 7))) + (bc (rg σ (a + 3) 8)))), (2, .int 8), (0, .ref (ad a))]) dX0_arrowCount_23 (by decide) rfl ?_
  refine r_iinc (v := 9) (lo' := [(2, .int 9), (1, .int (((((((((0 + (bc (rg σ (a + 3) 0))) + (bc (rg σ (a + 3) 1))) + (bc (rg σ (a + 3) 2))) + (bc (rg σ (a + 3) 3))) + (bc (rg σ (a + 3) 4))) + (bc (rg σ (a + 3) 5))) + (bc (rg σ (a + 3) 6))) + (bc (rg σ (a + 3) 7))) + (bc (rg σ (a + 3) 8)))), (0, .ref (ad a))]) dX0_arrowCount_24 1 rfl (by decide) (by decide) rfl ?_
  refine r_goto (t := 4) dX0_arrowCount_27 (by decide) ?_
  refine r_iload_n dX0_arrowCount_4 0 rfl ?_
  refine r_bipush (v := 12) dX0_arrowCount_5 (by decide) ?_
  refine r_icmp_ge (t := 30) dX0_arrowCount_7 (by decide) (fun hh => absurd hh (by decide)) (fun _ => ?_)
  refine r_iload_n dX0_arrowCount_10 1 rfl ?_
  refine r_aload_n dX0_arrowCount_11 2 rfl ?_
  refine s_getR (b := a + 3) ok_X0 dX0_arrowCount_12 (k := 0) (by decide) fl_X0_14 ha rfl (au_sr ha) ?_
  refine r_iload_n dX0_arrowCount_15 0 rfl ?_
  refine x_callV (Y := mX7_get) (d' := 1) dX0_arrowCount_16 ml_X0_36 yv_X7_get (by decide) rfl rfl (by simp [Value.category]) (sR_isR (au_row ha)) (c_get (au_row ha) 9) ?_
  refine x_callS (Y := mJ6_bitCount_0f7a4) (d' := 1) dX0_arrowCount_19 ml_X0_59 ys_J6_bitCount_0f7a4 (by decide) rfl rfl (by simp [Value.category]) (c_J6_bitCount_0f7a4 σ (rg σ (a + 3) 9)) ?_
  refine r_iadd dX0_arrowCount_22 ?_
  refine r_istore_n (lo' := [(1, .int ((((((((((0 + (bc (rg σ (a + 3) 0))) + (bc (rg σ (a + 3) 1))) + (bc (rg σ (a + 3) 2))) + (bc (rg σ (a + 3) 3))) + (bc (rg σ (a + 3) 4))) + (bc (rg σ (a + 3) 5))) + (bc (rg σ (a + 3) 6))) + (bc (rg σ (a + 3) 7))) + (bc (rg σ (a + 3) 8))) + (bc (rg σ (a + 3) 9)))), (2, .int 9), (0, .ref (ad a))]) dX0_arrowCount_23 (by decide) rfl ?_
  refine r_iinc (v := 10) (lo' := [(2, .int 10), (1, .int ((((((((((0 + (bc (rg σ (a + 3) 0))) + (bc (rg σ (a + 3) 1))) + (bc (rg σ (a + 3) 2))) + (bc (rg σ (a + 3) 3))) + (bc (rg σ (a + 3) 4))) + (bc (rg σ (a + 3) 5))) + (bc (rg σ (a + 3) 6))) + (bc (rg σ (a + 3) 7))) + (bc (rg σ (a + 3) 8))) + (bc (rg σ (a + 3) 9)))), (0, .ref (ad a))]) dX0_arrowCount_24 1 rfl (by decide) (by decide) rfl ?_
  refine r_goto (t := 4) dX0_arrowCount_27 (by decide) ?_
  refine r_iload_n dX0_arrowCount_4 0 rfl ?_
  refine r_bipush (v := 12) dX0_arrowCount_5 (by decide) ?_
  refine r_icmp_ge (t := 30) dX0_arrowCount_7 (by decide) (fun hh => absurd hh (by decide)) (fun _ => ?_)
  refine r_iload_n dX0_arrowCount_10 1 rfl ?_
  refine r_aload_n dX0_arrowCount_11 2 rfl ?_
  refine s_getR (b := a + 3) ok_X0 dX0_arrowCount_12 (k := 0) (by decide) fl_X0_14 ha rfl (au_sr ha) ?_
  refine r_iload_n dX0_arrowCount_15 0 rfl ?_
  refine x_callV (Y := mX7_get) (d' := 1) dX0_arrowCount_16 ml_X0_36 yv_X7_get (by decide) rfl rfl (by simp [Value.category]) (sR_isR (au_row ha)) (c_get (au_row ha) 10) ?_
  refine x_callS (Y := mJ6_bitCount_0f7a4) (d' := 1) dX0_arrowCount_19 ml_X0_59 ys_J6_bitCount_0f7a4 (by decide) rfl rfl (by simp [Value.category]) (c_J6_bitCount_0f7a4 σ (rg σ (a + 3) 10)) ?_
  refine r_iadd dX0_arrowCount_22 ?_
  refine r_istore_n (lo' := [(1, .int (((((((((((0 + (bc (rg σ (a + 3) 0))) + (bc (rg σ (a + 3) 1))) + (bc (rg σ (a + 3) 2))) + (bc (rg σ (a + 3) 3))) + (bc (rg σ (a + 3) 4))) + (bc (rg σ (a + 3) 5))) + (bc (rg σ (a + 3) 6))) + (bc (rg σ (a + 3) 7))) + (bc (rg σ (a + 3) 8))) + (bc (rg σ (a + 3) 9))) + (bc (rg σ (a + 3) 10)))), (2, .int 10), (0, .ref (ad a))]) dX0_arrowCount_23 (by decide) rfl ?_
  refine r_iinc (v := 11) (lo' := [(2, .int 11), (1, .int (((((((((((0 + (bc (rg σ (a + 3) 0))) + (bc (rg σ (a + 3) 1))) + (bc (rg σ (a + 3) 2))) + (bc (rg σ (a + 3) 3))) + (bc (rg σ (a + 3) 4))) + (bc (rg σ (a + 3) 5))) + (bc (rg σ (a + 3) 6))) + (bc (rg σ (a + 3) 7))) + (bc (rg σ (a + 3) 8))) + (bc (rg σ (a + 3) 9))) + (bc (rg σ (a + 3) 10)))), (0, .ref (ad a))]) dX0_arrowCount_24 1 rfl (by decide) (by decide) rfl ?_
  refine r_goto (t := 4) dX0_arrowCount_27 (by decide) ?_
  refine r_iload_n dX0_arrowCount_4 0 rfl ?_
  refine r_bipush (v := 12) dX0_arrowCount_5 (by decide) ?_
  refine r_icmp_ge (t := 30) dX0_arrowCount_7 (by decide) (fun hh => absurd hh (by decide)) (fun _ => ?_)
  refine r_iload_n dX0_arrowCount_10 1 rfl ?_
  refine r_aload_n dX0_arrowCount_11 2 rfl ?_
  refine s_getR (b := a + 3) ok_X0 dX0_arrowCount_12 (k := 0) (by decide) fl_X0_14 ha rfl (au_sr ha) ?_
  refine r_iload_n dX0_arrowCount_15 0 rfl ?_
  refine x_callV (Y := mX7_get) (d' := 1) dX0_arrowCount_16 ml_X0_36 yv_X7_get (by decide) rfl rfl (by simp [Value.category]) (sR_isR (au_row ha)) (c_get (au_row ha) 11) ?_
  refine x_callS (Y := mJ6_bitCount_0f7a4) (d' := 1) dX0_arrowCount_19 ml_X0_59 ys_J6_bitCount_0f7a4 (by decide) rfl rfl (by simp [Value.category]) (c_J6_bitCount_0f7a4 σ (rg σ (a + 3) 11)) ?_
  refine r_iadd dX0_arrowCount_22 ?_
  refine r_istore_n (lo' := [(1, .int ((((((((((((0 + (bc (rg σ (a + 3) 0))) + (bc (rg σ (a + 3) 1))) + (bc (rg σ (a + 3) 2))) + (bc (rg σ (a + 3) 3))) + (bc (rg σ (a + 3) 4))) + (bc (rg σ (a + 3) 5))) + (bc (rg σ (a + 3) 6))) + (bc (rg σ (a + 3) 7))) + (bc (rg σ (a + 3) 8))) + (bc (rg σ (a + 3) 9))) + (bc (rg σ (a + 3) 10))) + (bc (rg σ (a + 3) 11)))), (2, .int 11), (0, .ref (ad a))]) dX0_arrowCount_23 (by decide) rfl ?_
  refine r_iinc (v := 12) (lo' := [(2, .int 12), (1, .int ((((((((((((0 + (bc (rg σ (a + 3) 0))) + (bc (rg σ (a + 3) 1))) + (bc (rg σ (a + 3) 2))) + (bc (rg σ (a + 3) 3))) + (bc (rg σ (a + 3) 4))) + (bc (rg σ (a + 3) 5))) + (bc (rg σ (a + 3) 6))) + (bc (rg σ (a + 3) 7))) + (bc (rg σ (a + 3) 8))) + (bc (rg σ (a + 3) 9))) + (bc (rg σ (a + 3) 10))) + (bc (rg σ (a + 3) 11)))), (0, .ref (ad a))]) dX0_arrowCount_24 1 rfl (by decide) (by decide) rfl ?_
  refine r_goto (t := 4) dX0_arrowCount_27 (by decide) ?_
  refine r_iload_n dX0_arrowCount_4 0 rfl ?_
  refine r_bipush (v := 12) dX0_arrowCount_5 (by decide) ?_
  refine r_icmp_ge (t := 30) dX0_arrowCount_7 (by decide) (fun _ => ?_) (fun hh => absurd (by decide) hh)
  refine r_iload_n dX0_arrowCount_30 1 rfl ?_
  refine r_iret rfl dX0_arrowCount_31 ?_
  exact ⟨rfl, rfl⟩
def a_t1 (σ : sS) (a b : Nat) (i : Int32) : sS := rp σ (a + 3) i (rg σ (b + 3) i)
def a_to (σ : sS) (a b : Nat) : sS := a_t1 (a_t1 (a_t1 (a_t1 (a_t1 (a_t1 (a_t1 (a_t1 (a_t1 (a_t1 (a_t1 (a_t1 (uI (uI (uI (uI σ a 1 (vI σ b 1)) a 2 (vI (uI σ a 1 (vI σ b 1)) b 2)) a 3 (vI (uI (uI σ a 1 (vI σ b 1)) a 2 (vI (uI σ a 1 (vI σ b 1)) b 2)) b 3)) a 4 (vI (uI (uI (uI σ a 1 (vI σ b 1)) a 2 (vI (uI σ a 1 (vI σ b 1)) b 2)) a 3 (vI (uI (uI σ a 1 (vI σ b 1)) a 2 (vI (uI σ a 1 (vI σ b 1)) b 2)) b 3)) b 4)) a b 0) a b 1) a b 2) a b 3) a b 4) a b 5) a b 6) a b 7) a b 8) a b 9) a b 10) a b 11
set_option maxRecDepth 4000 in
theorem c_X0_takeOver {ad : Nat → Nat} (σ : sS) {a b : Nat} (ha : la a = (1, 0)) (hb : la b = (1, 0))  : ab_X (sR ad) 2 mX0_takeOver [.ref (ad a), .ref (ad b)] σ none (a_to σ a b) := by
  refine ab_X.of (by decide) (Nat.le_of_ble_eq_true rfl) ?_
  refine r_aload_n dX0_takeOver_0 0 rfl ?_
  refine r_aload_n dX0_takeOver_1 1 rfl ?_
  refine s_getI ok_X0 dX0_takeOver_2 (k := 1) (by decide) fl_X0_20 hb rfl ?_
  refine s_putI ok_X0 dX0_takeOver_5 (k := 1) (by decide) fl_X0_20 rfl rfl rfl ha rfl ?_
  refine r_st (fun σ1 eσ1 => ?_)
  refine r_aload_n dX0_takeOver_8 0 rfl ?_
  refine r_aload_n dX0_takeOver_9 1 rfl ?_
  refine s_getI ok_X0 dX0_takeOver_10 (k := 2) (by decide) fl_X0_24 hb rfl ?_
  refine s_putI ok_X0 dX0_takeOver_13 (k := 2) (by decide) fl_X0_24 rfl rfl rfl ha rfl ?_
  refine r_st (fun σ2 eσ2 => ?_)
  refine r_aload_n dX0_takeOver_16 0 rfl ?_
  refine r_aload_n dX0_takeOver_17 1 rfl ?_
  refine s_getI ok_X0 dX0_takeOver_18 (k := 3) (by decide) fl_X0_27 hb rfl ?_
  refine s_putI ok_X0 dX0_takeOver_21 (k := 3) (by decide) fl_X0_27 rfl rfl rfl ha rfl ?_
  refine r_st (fun σ3 eσ3 => ?_)
  refine r_aload_n dX0_takeOver_24 0 rfl ?_
  refine r_aload_n dX0_takeOver_25 1 rfl ?_
  refine s_getI ok_X0 dX0_takeOver_26 (k := 4) (by decide) fl_X0_30 hb rfl ?_
  refine s_putI ok_X0 dX0_takeOver_29 (k := 4) (by decide) fl_X0_30 rfl rfl rfl ha rfl ?_
  refine r_st (fun σ4 eσ4 => ?_)
  refine r_iconst (v := 0) dX0_takeOver_32 (by decide) ?_
  refine r_istore_n (lo' := [(2, .int 0), (0, .ref (ad a)), (1, .ref (ad b))]) dX0_takeOver_33 (by decide) rfl ?_
  refine r_iload_n dX0_takeOver_34 0 rfl ?_
  refine r_bipush (v := 12) dX0_takeOver_35 (by decide) ?_
  refine r_icmp_ge (t := 62) dX0_takeOver_37 (by decide) (fun hh => absurd hh (by decide)) (fun _ => ?_)
  refine r_aload_n dX0_takeOver_40 1 rfl ?_
  refine s_getR (b := a + 3) ok_X0 dX0_takeOver_41 (k := 0) (by decide) fl_X0_14 ha rfl (au_sr ha) ?_
  refine r_iload_n dX0_takeOver_44 0 rfl ?_
  refine r_aload_n dX0_takeOver_45 2 rfl ?_
  refine s_getR (b := b + 3) ok_X0 dX0_takeOver_46 (k := 0) (by decide) fl_X0_14 hb rfl (au_sr hb) ?_
  refine r_iload_n dX0_takeOver_49 0 rfl ?_
  refine x_callV (Y := mX7_get) (d' := 1) dX0_takeOver_50 ml_X0_36 yv_X7_get (by decide) rfl rfl (by simp [Value.category]) (sR_isR (au_row hb)) (c_get (au_row hb) 0) ?_
  refine x_callV0 (Y := mX7_put) (d' := 1) dX0_takeOver_53 ml_X0_40 yv_X7_put (by decide) rfl rfl (by simp [Value.category]) (sR_isR (au_row ha)) (c_put (au_row ha) 0 (rg σ4 (b + 3) 0)) ?_
  refine r_st (fun σ5 eσ5 => ?_)
  refine r_iinc (v := 1) (lo' := [(2, .int 1), (0, .ref (ad a)), (1, .ref (ad b))]) dX0_takeOver_56 0 rfl (by decide) (by decide) rfl ?_
  refine r_goto (t := 34) dX0_takeOver_59 (by decide) ?_
  refine r_iload_n dX0_takeOver_34 0 rfl ?_
  refine r_bipush (v := 12) dX0_takeOver_35 (by decide) ?_
  refine r_icmp_ge (t := 62) dX0_takeOver_37 (by decide) (fun hh => absurd hh (by decide)) (fun _ => ?_)
  refine r_aload_n dX0_takeOver_40 1 rfl ?_
  refine s_getR (b := a + 3) ok_X0 dX0_takeOver_41 (k := 0) (by decide) fl_X0_14 ha rfl (au_sr ha) ?_
  refine r_iload_n dX0_takeOver_44 0 rfl ?_
  refine r_aload_n dX0_takeOver_45 2 rfl ?_
  refine s_getR (b := b + 3) ok_X0 dX0_takeOver_46 (k := 0) (by decide) fl_X0_14 hb rfl (au_sr hb) ?_
  refine r_iload_n dX0_takeOver_49 0 rfl ?_
  refine x_callV (Y := mX7_get) (d' := 1) dX0_takeOver_50 ml_X0_36 yv_X7_get (by decide) rfl rfl (by simp [Value.category]) (sR_isR (au_row hb)) (c_get (au_row hb) 1) ?_
  refine x_callV0 (Y := mX7_put) (d' := 1) dX0_takeOver_53 ml_X0_40 yv_X7_put (by decide) rfl rfl (by simp [Value.category]) (sR_isR (au_row ha)) (c_put (au_row ha) 1 (rg σ5 (b + 3) 1)) ?_
  refine r_st (fun σ6 eσ6 => ?_)
  refine r_iinc (v := 2) (lo' := [(2, .int 2), (0, .ref (ad a)), (1, .ref (ad b))]) dX0_takeOver_56 0 rfl (by decide) (by decide) rfl ?_
  refine r_goto (t := 34) dX0_takeOver_59 (by decide) ?_
  refine r_iload_n dX0_takeOver_34 0 rfl ?_
  refine r_bipush (v := 12) dX0_takeOver_35 (by decide) ?_
  refine r_icmp_ge (t := 62) dX0_takeOver_37 (by decide) (fun hh => absurd hh (by decide)) (fun _ => ?_)
  refine r_aload_n dX0_takeOver_40 1 rfl ?_
  refine s_getR (b := a + 3) ok_X0 dX0_takeOver_41 (k := 0) (by decide) fl_X0_14 ha rfl (au_sr ha) ?_
  refine r_iload_n dX0_takeOver_44 0 rfl ?_
  refine r_aload_n dX0_takeOver_45 2 rfl ?_
  refine s_getR (b := b + 3) ok_X0 dX0_takeOver_46 (k := 0) (by decide) fl_X0_14 hb rfl (au_sr hb) ?_
  refine r_iload_n dX0_takeOver_49 0 rfl ?_
  refine x_callV (Y := mX7_get) (d' := 1) dX0_takeOver_50 ml_X0_36 yv_X7_get (by decide) rfl rfl (by simp [Value.category]) (sR_isR (au_row hb)) (c_get (au_row hb) 2) ?_
  refine x_callV0 (Y := mX7_put) (d' := 1) dX0_takeOver_53 ml_X0_40 yv_X7_put (by decide) rfl rfl (by simp [Value.category]) (sR_isR (au_row ha)) (c_put (au_row ha) 2 (rg σ6 (b + 3) 2)) ?_
  refine r_st (fun σ7 eσ7 => ?_)
  refine r_iinc (v := 3) (lo' := [(2, .int 3), (0, .ref (ad a)), (1, .ref (ad b))]) dX0_takeOver_56 0 rfl (by decide) (by decide) rfl ?_
  refine r_goto (t := 34) dX0_takeOver_59 (by decide) ?_
  refine r_iload_n dX0_takeOver_34 0 rfl ?_
  refine r_bipush (v := 12) dX0_takeOver_35 (by decide) ?_
  refine r_icmp_ge (t := 62) dX0_takeOver_37 (by decide) (fun hh => absurd hh (by decide)) (fun _ => ?_)
  refine r_aload_n dX0_takeOver_40 1 rfl ?_
  refine s_getR (b := a + 3) ok_X0 dX0_takeOver_41 (k := 0) (by decide) fl_X0_14 ha rfl (au_sr ha) ?_
  refine r_iload_n dX0_takeOver_44 0 rfl ?_
  refine r_aload_n dX0_takeOver_45 2 rfl ?_
  refine s_getR (b := b + 3) ok_X0 dX0_takeOver_46 (k := 0) (by decide) fl_X0_14 hb rfl (au_sr hb) ?_
  refine r_iload_n dX0_takeOver_49 0 rfl ?_
  refine x_callV (Y := mX7_get) (d' := 1) dX0_takeOver_50 ml_X0_36 yv_X7_get (by decide) rfl rfl (by simp [Value.category]) (sR_isR (au_row hb)) (c_get (au_row hb) 3) ?_
  refine x_callV0 (Y := mX7_put) (d' := 1) dX0_takeOver_53 ml_X0_40 yv_X7_put (by decide) rfl rfl (by simp [Value.category]) (sR_isR (au_row ha)) (c_put (au_row ha) 3 (rg σ7 (b + 3) 3)) ?_
  refine r_st (fun σ8 eσ8 => ?_)
  refine r_iinc (v := 4) (lo' := [(2, .int 4), (0, .ref (ad a)), (1, .ref (ad b))]) dX0_takeOver_56 0 rfl (by decide) (by decide) rfl ?_
  refine r_goto (t := 34) dX0_takeOver_59 (by decide) ?_
  refine r_iload_n dX0_takeOver_34 0 rfl ?_
  refine r_bipush (v := 12) dX0_takeOver_35 (by decide) ?_
  refine r_icmp_ge (t := 62) dX0_takeOver_37 (by decide) (fun hh => absurd hh (by decide)) (fun _ => ?_)
  refine r_aload_n dX0_takeOver_40 1 rfl ?_
  refine s_getR (b := a + 3) ok_X0 dX0_takeOver_41 (k := 0) (by decide) fl_X0_14 ha rfl (au_sr ha) ?_
  refine r_iload_n dX0_takeOver_44 0 rfl ?_
  refine r_aload_n dX0_takeOver_45 2 rfl ?_
  refine s_getR (b := b + 3) ok_X0 dX0_takeOver_46 (k := 0) (by decide) fl_X0_14 hb rfl (au_sr hb) ?_
  refine r_iload_n dX0_takeOver_49 0 rfl ?_
  refine x_callV (Y := mX7_get) (d' := 1) dX0_takeOver_50 ml_X0_36 yv_X7_get (by decide) rfl rfl (by simp [Value.category]) (sR_isR (au_row hb)) (c_get (au_row hb) 4) ?_
  refine x_callV0 (Y := mX7_put) (d' := 1) dX0_takeOver_53 ml_X0_40 yv_X7_put (by decide) rfl rfl (by simp [Value.category]) (sR_isR (au_row ha)) (c_put (au_row ha) 4 (rg σ8 (b + 3) 4)) ?_
  refine r_st (fun σ9 eσ9 => ?_)
  refine r_iinc (v := 5) (lo' := [(2, .int 5), (0, .ref (ad a)), (1, .ref (ad b))]) dX0_takeOver_56 0 rfl (by decide) (by decide) rfl ?_
  refine r_goto (t := 34) dX0_takeOver_59 (by decide) ?_
  refine r_iload_n dX0_takeOver_34 0 rfl ?_
  refine r_bipush (v := 12) dX0_takeOver_35 (by decide) ?_
  refine r_icmp_ge (t := 62) dX0_takeOver_37 (by decide) (fun hh => absurd hh (by decide)) (fun _ => ?_)
  refine r_aload_n dX0_takeOver_40 1 rfl ?_
  refine s_getR (b := a + 3) ok_X0 dX0_takeOver_41 (k := 0) (by decide) fl_X0_14 ha rfl (au_sr ha) ?_
  refine r_iload_n dX0_takeOver_44 0 rfl ?_
  refine r_aload_n dX0_takeOver_45 2 rfl ?_
  refine s_getR (b := b + 3) ok_X0 dX0_takeOver_46 (k := 0) (by decide) fl_X0_14 hb rfl (au_sr hb) ?_
  refine r_iload_n dX0_takeOver_49 0 rfl ?_
  refine x_callV (Y := mX7_get) (d' := 1) dX0_takeOver_50 ml_X0_36 yv_X7_get (by decide) rfl rfl (by simp [Value.category]) (sR_isR (au_row hb)) (c_get (au_row hb) 5) ?_
  refine x_callV0 (Y := mX7_put) (d' := 1) dX0_takeOver_53 ml_X0_40 yv_X7_put (by decide) rfl rfl (by simp [Value.category]) (sR_isR (au_row ha)) (c_put (au_row ha) 5 (rg σ9 (b + 3) 5)) ?_
  refine r_st (fun σ10 eσ10 => ?_)
  refine r_iinc (v := 6) (lo' := [(2, .int 6), (0, .ref (ad a)), (1, .ref (ad b))]) dX0_takeOver_56 0 rfl (by decide) (by decide) rfl ?_
  refine r_goto (t := 34) dX0_takeOver_59 (by decide) ?_
  refine r_iload_n dX0_takeOver_34 0 rfl ?_
  refine r_bipush (v := 12) dX0_takeOver_35 (by decide) ?_
  refine r_icmp_ge (t := 62) dX0_takeOver_37 (by decide) (fun hh => absurd hh (by decide)) (fun _ => ?_)
  refine r_aload_n dX0_takeOver_40 1 rfl ?_
  refine s_getR (b := a + 3) ok_X0 dX0_takeOver_41 (k := 0) (by decide) fl_X0_14 ha rfl (au_sr ha) ?_
  refine r_iload_n dX0_takeOver_44 0 rfl ?_
  refine r_aload_n dX0_takeOver_45 2 rfl ?_
  refine s_getR (b := b + 3) ok_X0 dX0_takeOver_46 (k := 0) (by decide) fl_X0_14 hb rfl (au_sr hb) ?_
  refine r_iload_n dX0_takeOver_49 0 rfl ?_
  refine x_callV (Y := mX7_get) (d' := 1) dX0_takeOver_50 ml_X0_36 yv_X7_get (by decide) rfl rfl (by simp [Value.category]) (sR_isR (au_row hb)) (c_get (au_row hb) 6) ?_
  refine x_callV0 (Y := mX7_put) (d' := 1) dX0_takeOver_53 ml_X0_40 yv_X7_put (by decide) rfl rfl (by simp [Value.category]) (sR_isR (au_row ha)) (c_put (au_row ha) 6 (rg σ10 (b + 3) 6)) ?_
  refine r_st (fun σ11 eσ11 => ?_)
  refine r_iinc (v := 7) (lo' := [(2, .int 7), (0, .ref (ad a)), (1, .ref (ad b))]) dX0_takeOver_56 0 rfl (by decide) (by decide) rfl ?_
  refine r_goto (t := 34) dX0_takeOver_59 (by decide) ?_
  refine r_iload_n dX0_takeOver_34 0 rfl ?_
  refine r_bipush (v := 12) dX0_takeOver_35 (by decide) ?_
  refine r_icmp_ge (t := 62) dX0_takeOver_37 (by decide) (fun hh => absurd hh (by decide)) (fun _ => ?_)
  refine r_aload_n dX0_takeOver_40 1 rfl ?_
  refine s_getR (b := a + 3) ok_X0 dX0_takeOver_41 (k := 0) (by decide) fl_X0_14 ha rfl (au_sr ha) ?_
  refine r_iload_n dX0_takeOver_44 0 rfl ?_
  refine r_aload_n dX0_takeOver_45 2 rfl ?_
  refine s_getR (b := b + 3) ok_X0 dX0_takeOver_46 (k := 0) (by decide) fl_X0_14 hb rfl (au_sr hb) ?_
  refine r_iload_n dX0_takeOver_49 0 rfl ?_
  refine x_callV (Y := mX7_get) (d' := 1) dX0_takeOver_50 ml_X0_36 yv_X7_get (by decide) rfl rfl (by simp [Value.category]) (sR_isR (au_row hb)) (c_get (au_row hb) 7) ?_
  refine x_callV0 (Y := mX7_put) (d' := 1) dX0_takeOver_53 ml_X0_40 yv_X7_put (by decide) rfl rfl (by simp [Value.category]) (sR_isR (au_row ha)) (c_put (au_row ha) 7 (rg σ11 (b + 3) 7)) ?_
  refine r_st (fun σ12 eσ12 => ?_)
  refine r_iinc (v := 8) (lo' := [(2, .int 8), (0, .ref (ad a)), (1, .ref (ad b))]) dX0_takeOver_56 0 rfl (by decide) (by decide) rfl ?_
  refine r_goto (t := 34) dX0_takeOver_59 (by decide) ?_
  refine r_iload_n dX0_takeOver_34 0 rfl ?_
  refine r_bipush (v := 12) dX0_takeOver_35 (by decide) ?_
  refine r_icmp_ge (t := 62) dX0_takeOver_37 (by decide) (fun hh => absurd hh (by decide)) (fun _ => ?_)
  refine r_aload_n dX0_takeOver_40 1 rfl ?_
  refine s_getR (b := a + 3) ok_X0 dX0_takeOver_41 (k := 0) (by decide) fl_X0_14 ha rfl (au_sr ha) ?_
  refine r_iload_n dX0_takeOver_44 0 rfl ?_
  refine r_aload_n dX0_takeOver_45 2 rfl ?_
  refine s_getR (b := b + 3) ok_X0 dX0_takeOver_46 (k := 0) (by decide) fl_X0_14 hb rfl (au_sr hb) ?_
  refine r_iload_n dX0_takeOver_49 0 rfl ?_
  refine x_callV (Y := mX7_get) (d' := 1) dX0_takeOver_50 ml_X0_36 yv_X7_get (by decide) rfl rfl (by simp [Value.category]) (sR_isR (au_row hb)) (c_get (au_row hb) 8) ?_
  refine x_callV0 (Y := mX7_put) (d' := 1) dX0_takeOver_53 ml_X0_40 yv_X7_put (by decide) rfl rfl (by simp [Value.category]) (sR_isR (au_row ha)) (c_put (au_row ha) 8 (rg σ12 (b + 3) 8)) ?_
  refine r_st (fun σ13 eσ13 => ?_)
  refine r_iinc (v := 9) (lo' := [(2, .int 9), (0, .ref (ad a)), (1, .ref (ad b))]) dX0_takeOver_56 0 rfl (by decide) (by decide) rfl ?_
  refine r_goto (t := 34) dX0_takeOver_59 (by decide) ?_
  refine r_iload_n dX0_takeOver_34 0 rfl ?_
  refine r_bipush (v := 12) dX0_takeOver_35 (by decide) ?_
  refine r_icmp_ge (t := 62) dX0_takeOver_37 (by decide) (fun hh => absurd hh (by decide)) (fun _ => ?_)
  refine r_aload_n dX0_takeOver_40 1 rfl ?_
  refine s_getR (b := a + 3) ok_X0 dX0_takeOver_41 (k := 0) (by decide) fl_X0_14 ha rfl (au_sr ha) ?_
  refine r_iload_n dX0_takeOver_44 0 rfl ?_
  refine r_aload_n dX0_takeOver_45 2 rfl ?_
  refine s_getR (b := b + 3) ok_X0 dX0_takeOver_46 (k := 0) (by decide) fl_X0_14 hb rfl (au_sr hb) ?_
  refine r_iload_n dX0_takeOver_49 0 rfl ?_
  refine x_callV (Y := mX7_get) (d' := 1) dX0_takeOver_50 ml_X0_36 yv_X7_get (by decide) rfl rfl (by simp [Value.category]) (sR_isR (au_row hb)) (c_get (au_row hb) 9) ?_
  refine x_callV0 (Y := mX7_put) (d' := 1) dX0_takeOver_53 ml_X0_40 yv_X7_put (by decide) rfl rfl (by simp [Value.category]) (sR_isR (au_row ha)) (c_put (au_row ha) 9 (rg σ13 (b + 3) 9)) ?_
  refine r_st (fun σ14 eσ14 => ?_)
  refine r_iinc (v := 10) (lo' := [(2, .int 10), (0, .ref (ad a)), (1, .ref (ad b))]) dX0_takeOver_56 0 rfl (by decide) (by decide) rfl ?_
  refine r_goto (t := 34) dX0_takeOver_59 (by decide) ?_
  refine r_iload_n dX0_takeOver_34 0 rfl ?_
  refine r_bipush (v := 12) dX0_takeOver_35 (by decide) ?_
  refine r_icmp_ge (t := 62) dX0_takeOver_37 (by decide) (fun hh => absurd hh (by decide)) (fun _ => ?_)
  refine r_aload_n dX0_takeOver_40 1 rfl ?_
  refine s_getR (b := a + 3) ok_X0 dX0_takeOver_41 (k := 0) (by decide) fl_X0_14 ha rfl (au_sr ha) ?_
  refine r_iload_n dX0_takeOver_44 0 rfl ?_
  refine r_aload_n dX0_takeOver_45 2 rfl ?_
  refine s_getR (b := b + 3) ok_X0 dX0_takeOver_46 (k := 0) (by decide) fl_X0_14 hb rfl (au_sr hb) ?_
  refine r_iload_n dX0_takeOver_49 0 rfl ?_
  refine x_callV (Y := mX7_get) (d' := 1) dX0_takeOver_50 ml_X0_36 yv_X7_get (by decide) rfl rfl (by simp [Value.category]) (sR_isR (au_row hb)) (c_get (au_row hb) 10) ?_
  refine x_callV0 (Y := mX7_put) (d' := 1) dX0_takeOver_53 ml_X0_40 yv_X7_put (by decide) rfl rfl (by simp [Value.category]) (sR_isR (au_row ha)) (c_put (au_row ha) 10 (rg σ14 (b + 3) 10)) ?_
  refine r_st (fun σ15 eσ15 => ?_)
  refine r_iinc (v := 11) (lo' := [(2, .int 11), (0, .ref (ad a)), (1, .ref (ad b))]) dX0_takeOver_56 0 rfl (by decide) (by decide) rfl ?_
  refine r_goto (t := 34) dX0_takeOver_59 (by decide) ?_
  refine r_iload_n dX0_takeOver_34 0 rfl ?_
  refine r_bipush (v := 12) dX0_takeOver_35 (by decide) ?_
  refine r_icmp_ge (t := 62) dX0_takeOver_37 (by decide) (fun hh => absurd hh (by decide)) (fun _ => ?_)
  refine r_aload_n dX0_takeOver_40 1 rfl ?_
  refine s_getR (b := a + 3) ok_X0 dX0_takeOver_41 (k := 0) (by decide) fl_X0_14 ha rfl (au_sr ha) ?_
  refine r_iload_n dX0_takeOver_44 0 rfl ?_
  refine r_aload_n dX0_takeOver_45 2 rfl ?_
  refine s_getR (b := b + 3) ok_X0 dX0_takeOver_46 (k := 0) (by decide) fl_X0_14 hb rfl (au_sr hb) ?_
  refine r_iload_n dX0_takeOver_49 0 rfl ?_
  refine x_callV (Y := mX7_get) (d' := 1) dX0_takeOver_50 ml_X0_36 yv_X7_get (by decide) rfl rfl (by simp [Value.category]) (sR_isR (au_row hb)) (c_get (au_row hb) 11) ?_
  refine x_callV0 (Y := mX7_put) (d' := 1) dX0_takeOver_53 ml_X0_40 yv_X7_put (by decide) rfl rfl (by simp [Value.category]) (sR_isR (au_row ha)) (c_put (au_row ha) 11 (rg σ15 (b + 3) 11)) ?_
  refine r_st (fun σ16 eσ16 => ?_)
  refine r_iinc (v := 12) (lo' := [(2, .int 12), (0, .ref (ad a)), (1, .ref (ad b))]) dX0_takeOver_56 0 rfl (by decide) (by decide) rfl ?_
  refine r_goto (t := 34) dX0_takeOver_59 (by decide) ?_
  refine r_iload_n dX0_takeOver_34 0 rfl ?_
  refine r_bipush (v := 12) dX0_takeOver_35 (by decide) ?_
  refine r_icmp_ge (t := 62) dX0_takeOver_37 (by decide) (fun _ => ?_) (fun hh => absurd (by decide) hh)
  refine r_vret rfl dX0_takeOver_62 ?_
  subst_vars; exact ⟨rfl, rfl⟩
def a_rc (σ : sS) (a : Nat) (t s : Int32) : Nat → Int32
  | 0 => 0
  | i + 1 => if q_in (nI i) t = 0 then a_rc σ a t s i else a_rc σ a t s i ||| a_ar σ a (nI i) s
theorem l_X0_reach {ad : Nat → Nat} {σ : sS} {a N : Nat} (ha : la a = (1, 0)) (hN : vI σ a 1 = nI N) (hN4 : N ≤ 4) (t s : Int32) : ∀ (n i : Nat), i + n = N → ab_E (sR ad) mX0_reach 3 5 [(4, .int (nI i)), (3, .int (a_rc σ a t s i)), (0, .ref (ad a)), (1, .int t), (2, .int s)] [] σ (fun r σ' => r = some (.int (a_rc σ a t s N)) ∧ σ' = σ) := by
  intro n
  induction n with
  | zero =>
    intro i hi
    have hc : vI σ a 1 ≤ nI i := by rw [hN]; exact nI_le (by omega) (by omega)
    refine r_iload dX0_reach_5 0 rfl ?_
    refine r_aload_n dX0_reach_7 2 rfl ?_
    refine s_getI ok_X0 dX0_reach_8 (k := 1) (by decide) fl_X0_20 ha rfl ?_
    refine r_icmp_ge (t := 39) dX0_reach_11 (by decide) (fun _ => ?_) (fun hh => absurd hc hh)
    refine r_iload_n dX0_reach_39 1 rfl ?_
    refine r_iret rfl dX0_reach_40 ?_
    exact ⟨by rw [show i = N by omega], rfl⟩
  | succ n ih =>
    intro i hi
    have hc : ¬ vI σ a 1 ≤ nI i := by rw [hN]; exact nI_ge (by omega) (by omega)
    refine r_iload dX0_reach_5 0 rfl ?_
    refine r_aload_n dX0_reach_7 2 rfl ?_
    refine s_getI ok_X0 dX0_reach_8 (k := 1) (by decide) fl_X0_20 ha rfl ?_
    refine r_icmp_ge (t := 39) dX0_reach_11 (by decide) (fun hh => absurd hh hc) (fun _ => ?_)
    refine r_iload dX0_reach_14 0 rfl ?_
    refine r_iload_n dX0_reach_16 3 rfl ?_
    refine x_callSN (Y := mX11_isIn) (d' := 1) dX0_reach_17 mn_X0_55 ys_X11_isIn (by decide) rfl rfl (by simp [Value.category]) (c_X11_isIn σ (nI i) t) ?_
    refine r_if_eq (t := 33) dX0_reach_20 (by decide) (fun c1 => ?_) (fun c1 => ?_)
    · have c1 : (q_in (nI i) t) = 0 := c1
      refine r_iinc (v := (nI i) + 1) (lo' := [(4, .int ((nI i) + 1)), (3, .int (a_rc σ a t s i)), (0, .ref (ad a)), (1, .int t), (2, .int s)]) dX0_reach_33 0 rfl rfl (by decide) rfl ?_
      refine r_goto (t := 5) dX0_reach_36 (by decide) ?_
      rw [nI_1]
      have e1 : a_rc σ a t s (i + 1) = a_rc σ a t s i := by rw [a_rc, if_pos c1]
      rw [← e1]
      exact ih (i + 1) (by omega)
    · have c1 : ¬ ((q_in (nI i) t) = 0) := c1
      refine r_iload_n dX0_reach_23 1 rfl ?_
      refine r_aload_n dX0_reach_24 2 rfl ?_
      refine r_iload dX0_reach_25 0 rfl ?_
      refine r_iload_n dX0_reach_27 4 rfl ?_
      refine x_callV (Y := mX0_arrowsOf) (d' := 2) dX0_reach_28 ml_X0_51 yv_X0_arrowsOf (by decide) rfl rfl (by simp [Value.category]) (sR_is ha rfl) (c_X0_arrowsOf σ ha (nI i) s) ?_
      refine r_ior dX0_reach_31 ?_
      refine r_istore_n (lo' := [(3, .int ((a_rc σ a t s i) ||| (a_ar σ a (nI i) s))), (4, .int (nI i)), (0, .ref (ad a)), (1, .int t), (2, .int s)]) dX0_reach_32 (by decide) rfl ?_
      refine r_iinc (v := (nI i) + 1) (lo' := [(4, .int ((nI i) + 1)), (3, .int ((a_rc σ a t s i) ||| (a_ar σ a (nI i) s))), (0, .ref (ad a)), (1, .int t), (2, .int s)]) dX0_reach_33 1 rfl rfl (by decide) rfl ?_
      refine r_goto (t := 5) dX0_reach_36 (by decide) ?_
      rw [nI_1]
      have e1 : a_rc σ a t s (i + 1) = (a_rc σ a t s i) ||| (a_ar σ a (nI i) s) := by rw [a_rc, if_neg c1]
      rw [← e1]
      exact ih (i + 1) (by omega)
theorem c_X0_reach {ad : Nat → Nat} (σ : sS) {a N : Nat} (ha : la a = (1, 0)) (hN : vI σ a 1 = nI N) (hN4 : N ≤ 4) (t s : Int32) : ab_X (sR ad) 3 mX0_reach [.ref (ad a), .int t, .int s] σ (some (.int (a_rc σ a t s N))) σ := by
  refine ab_X.of (by decide) (Nat.le_of_ble_eq_true rfl) ?_
  refine r_iconst (v := 0) dX0_reach_0 (by decide) ?_
  refine r_istore_n (lo' := [(3, .int 0), (0, .ref (ad a)), (1, .int t), (2, .int s)]) dX0_reach_1 (by decide) rfl ?_
  refine r_iconst (v := 0) dX0_reach_2 (by decide) ?_
  refine r_istore (lo' := [(4, .int 0), (3, .int 0), (0, .ref (ad a)), (1, .int t), (2, .int s)]) dX0_reach_3 (by decide) rfl ?_
  exact l_X0_reach ha hN hN4 t s N 0 (by omega)
def a_gl (set i : Int32) : Nat → Nat → Int32 → Int32
  | 0, _, _ => -1
  | n + 1, j, p => if q_in (nI j) set = 0 then a_gl set i n (j + 1) p else if p = i then nI j else a_gl set i n (j + 1) (p + 1)
theorem ab_E.lo {S : Type} {Rp : S → ab_S → Prop} {X : ab_M} {d pc : Nat} {lo lo' : List (Nat × Value)} {st : List Value} {σ : S} {Q : Option Value → S → Prop} (ks : List Nat) (h : lv_pick lo ks = lo') (K : ab_E Rp X d pc lo' st σ Q) : ab_E Rp X d pc lo st σ Q :=
  ab_E.go (fun l κ p e R s m args below meth c H locs cells slots Qq ls cx hdd hll hcc hss hl kk => kk ls (lv_sub hl ks h)) K
theorem l_X0_goal {ad : Nat → Nat} {σ : sS} {a N : Nat} (ha : la a = (1, 0)) (hN : vI σ a 1 = nI N) (hN4 : N ≤ 4) (set v s i : Int32) : ∀ (n j : Nat) (p : Int32), j + n = N → ab_E (sR ad) mX0_goal 2 20 [(6, .int (nI j)), (5, .int p), (4, .int set), (0, .ref (ad a)), (1, .int v), (2, .int s), (3, .int i)] [] σ (fun r σ' => r = some (.int (a_gl set i n j p)) ∧ σ' = σ) := by
  intro n
  induction n with
  | zero =>
    intro j p hi
    have hc : vI σ a 1 ≤ nI j := by rw [hN]; exact nI_le (by omega) (by omega)
    refine r_iload dX0_goal_20 0 rfl ?_
    refine r_aload_n dX0_goal_22 3 rfl ?_
    refine s_getI ok_X0 dX0_goal_23 (k := 1) (by decide) fl_X0_20 ha rfl ?_
    refine r_icmp_ge (t := 57) dX0_goal_26 (by decide) (fun _ => ?_) (fun hh => absurd hc hh)
    refine r_iconst (v := (-1)) dX0_goal_57 (by decide) ?_
    refine r_iret rfl dX0_goal_58 ?_
    exact ⟨rfl, rfl⟩
  | succ n ih =>
    intro j p hi
    have hc : ¬ vI σ a 1 ≤ nI j := by rw [hN]; exact nI_ge (by omega) (by omega)
    refine r_iload dX0_goal_20 0 rfl ?_
    refine r_aload_n dX0_goal_22 3 rfl ?_
    refine s_getI ok_X0 dX0_goal_23 (k := 1) (by decide) fl_X0_20 ha rfl ?_
    refine r_icmp_ge (t := 57) dX0_goal_26 (by decide) (fun hh => absurd hh hc) (fun _ => ?_)
    refine r_iload dX0_goal_29 0 rfl ?_
    refine r_iload dX0_goal_31 2 rfl ?_
    refine x_callSN (Y := mX11_isIn) (d' := 1) dX0_goal_33 mn_X0_55 ys_X11_isIn (by decide) rfl rfl (by simp [Value.category]) (c_X11_isIn σ (nI j) set) ?_
    refine r_if_eq (t := 51) dX0_goal_36 (by decide) (fun c1 => ?_) (fun c1 => ?_)
    · have c1 : (q_in (nI j) set) = 0 := c1
      refine r_iinc (v := (nI j) + 1) (lo' := [(6, .int ((nI j) + 1)), (5, .int p), (4, .int set), (0, .ref (ad a)), (1, .int v), (2, .int s), (3, .int i)]) dX0_goal_51 0 rfl rfl (by decide) rfl ?_
      refine r_goto (t := 20) dX0_goal_54 (by decide) ?_
      rw [nI_1]
      rw [a_gl, if_pos c1]
      exact ab_E.lo [0, 1, 2, 3, 4, 5, 6] rfl (ih (j + 1) p (by omega))
    · have c1 : ¬ ((q_in (nI j) set) = 0) := c1
      refine r_iload dX0_goal_39 1 rfl ?_
      refine r_iload_n dX0_goal_41 6 rfl ?_
      refine r_icmp_ne (t := 48) dX0_goal_42 (by decide) (fun c2 => ?_) (fun c2 => ?_)
      · have c2 : ¬ (p = i) := c2
        refine r_iinc (v := p + 1) (lo' := [(5, .int (p + 1)), (6, .int (nI j)), (4, .int set), (0, .ref (ad a)), (1, .int v), (2, .int s), (3, .int i)]) dX0_goal_48 1 rfl rfl (by decide) rfl ?_
        refine r_iinc (v := (nI j) + 1) (lo' := [(6, .int ((nI j) + 1)), (5, .int (p + 1)), (4, .int set), (0, .ref (ad a)), (1, .int v), (2, .int s), (3, .int i)]) dX0_goal_51 1 rfl rfl (by decide) rfl ?_
        refine r_goto (t := 20) dX0_goal_54 (by decide) ?_
        rw [nI_1]
        rw [a_gl, if_neg c1, if_neg c2]
        exact ab_E.lo [0, 1, 2, 3, 4, 5, 6] rfl (ih (j + 1) (p + 1) (by omega))
      · have c2 : p = i := c2
        refine r_iload dX0_goal_45 0 rfl ?_
        refine r_iret rfl dX0_goal_47 ?_
        exact ⟨by rw [a_gl, if_neg c1, if_pos c2], rfl⟩
theorem c_X0_goal {ad : Nat → Nat} (σ : sS) {a N : Nat} (ha : la a = (1, 0)) (hN : vI σ a 1 = nI N) (hN4 : N ≤ 4) (v s i : Int32) : ab_X (sR ad) 2 mX0_goal [.ref (ad a), .int v, .int s, .int i] σ (some (.int (a_gl (a_ar σ a v s) i N 0 0))) σ := by
  refine ab_X.of (by decide) (Nat.le_of_ble_eq_true rfl) ?_
  refine r_aload_n dX0_goal_0 0 rfl ?_
  refine s_getR (b := a + 3) ok_X0 dX0_goal_1 (k := 0) (by decide) fl_X0_14 ha rfl (au_sr ha) ?_
  refine r_iload_n dX0_goal_4 2 rfl ?_
  refine r_iconst (v := 4) dX0_goal_5 (by decide) ?_
  refine r_imul dX0_goal_6 ?_
  refine r_iload_n dX0_goal_7 1 rfl ?_
  refine r_iadd dX0_goal_8 ?_
  refine x_callV (Y := mX7_get) (d' := 1) dX0_goal_9 ml_X0_36 yv_X7_get (by decide) rfl rfl (by simp [Value.category]) (sR_isR (au_row ha)) (c_get (au_row ha) ((s * 4) + v)) ?_
  refine r_istore (lo' := [(4, .int (rg σ (a + 3) ((s * 4) + v))), (0, .ref (ad a)), (1, .int v), (2, .int s), (3, .int i)]) dX0_goal_12 (by decide) rfl ?_
  refine r_iconst (v := 0) dX0_goal_14 (by decide) ?_
  refine r_istore (lo' := [(5, .int 0), (4, .int (rg σ (a + 3) ((s * 4) + v))), (0, .ref (ad a)), (1, .int v), (2, .int s), (3, .int i)]) dX0_goal_15 (by decide) rfl ?_
  refine r_iconst (v := 0) dX0_goal_17 (by decide) ?_
  refine r_istore (lo' := [(6, .int 0), (5, .int 0), (4, .int (rg σ (a + 3) ((s * 4) + v))), (0, .ref (ad a)), (1, .int v), (2, .int s), (3, .int i)]) dX0_goal_18 (by decide) rfl ?_
  exact l_X0_goal ha hN hN4 (a_ar σ a v s) v s i N 0 0 (by omega)
