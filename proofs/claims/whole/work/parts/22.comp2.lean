/-! Complement: counts, slots, meeting a node -/
def p_cab (σ : sS) (c : Nat) (k m : Int32) : Nat → Nat → Int32 → Int32
  | 0, _, a => a
  | n + 1, v, a => if m ≤ a then a else p_cab σ c k m n (v + 1) (if p_bl k (rg σ (c + 3) (nI v)) = 0 then a else a + 1)
theorem l_X1_cab {ad : Nat → Nat} {σ : sS} {c M : Nat} (hc0 : la c = (1, 1)) (hM : vI σ c 7 = nI M) (hM3 : M ≤ 300) {k m : Int32} : ∀ (n v : Nat) (x : Int32), v + n = M → ab_E (sR ad) mX1_countAbove 4 5 [(4, .int (nI v)), (3, .int x), (0, .ref (ad c)), (1, .int k), (2, .int m)] [] σ (fun r σ' => r = some (.int (p_cab σ c k m n v x)) ∧ σ' = σ) := by
  intro n
  induction n with
  | zero =>
    intro v x hi
    have hc : vI σ c 7 ≤ nI v := by rw [hM]; exact nI_le (by omega) (by omega)
    refine r_iload dX1_countAbove_5 0 rfl ?_
    refine r_aload_n dX1_countAbove_7 2 rfl ?_
    refine s_getI ok_X1 dX1_countAbove_8 (k := 7) (by decide) fl_X1_53 hc0 rfl ?_
    refine r_icmp_ge (t := 44) dX1_countAbove_11 (by decide) (fun _ => ?_) (fun hh => absurd hc hh)
    refine r_iload_n dX1_countAbove_44 1 rfl ?_
    refine r_iret rfl dX1_countAbove_45 ?_
    exact ⟨rfl, rfl⟩
  | succ n ih =>
    intro v x hi
    have hc : ¬ vI σ c 7 ≤ nI v := by rw [hM]; exact nI_ge (by omega) (by omega)
    refine r_iload dX1_countAbove_5 0 rfl ?_
    refine r_aload_n dX1_countAbove_7 2 rfl ?_
    refine s_getI ok_X1 dX1_countAbove_8 (k := 7) (by decide) fl_X1_53 hc0 rfl ?_
    refine r_icmp_ge (t := 44) dX1_countAbove_11 (by decide) (fun hh => absurd hh hc) (fun _ => ?_)
    refine r_iload_n dX1_countAbove_14 1 rfl ?_
    refine r_iload_n dX1_countAbove_15 4 rfl ?_
    refine r_icmp_ge (t := 44) dX1_countAbove_16 (by decide) (fun c1 => ?_) (fun c1 => ?_)
    · have c1 : m ≤ x := c1
      refine r_iload_n dX1_countAbove_44 1 rfl ?_
      refine r_iret rfl dX1_countAbove_45 ?_
      exact ⟨by rw [p_cab]; simp only [eq_true c1, ↓reduceIte], rfl⟩
    · have c1 : ¬ (m ≤ x) := c1
      refine r_iload_n dX1_countAbove_19 3 rfl ?_
      refine r_aload_n dX1_countAbove_20 2 rfl ?_
      refine s_getR (b := c + 3) ok_X1 dX1_countAbove_21 (k := 3) (by decide) fl_X1_14 hc0 rfl (cq_s3 hc0) ?_
      refine r_iload dX1_countAbove_24 0 rfl ?_
      refine x_callV (Y := mX7_get) (d' := 1) dX1_countAbove_26 ml_X1_71 yv_X7_get (by omega) rfl rfl (by simp [Value.category]) (sR_isR (cq_3 hc0)) (c_get (cq_3 hc0) (nI v)) ?_
      refine x_callS (Y := mX1_isBelow) (d' := 3) dX1_countAbove_29 ml_X1_150 ys_X1_isBelow (by omega) rfl rfl (by simp [Value.category]) (c_X1_isBelow σ k (rg σ (c + 3) (nI v))) ?_
      refine r_if_eq (t := 38) dX1_countAbove_32 (by decide) (fun c2 => ?_) (fun c2 => ?_)
      · have c2 : (p_bl k (rg σ (c + 3) (nI v))) = 0 := c2
        refine r_iinc (v := (nI v) + 1) (lo' := [(4, .int ((nI v) + 1)), (3, .int x), (0, .ref (ad c)), (1, .int k), (2, .int m)]) dX1_countAbove_38 0 rfl rfl (by decide) rfl ?_
        refine r_goto (t := 5) dX1_countAbove_41 (by decide) ?_
        rw [nI_1, p_cab]
        simp only [eq_false c1, eq_true c2, ↓reduceIte]
        exact ab_E.lo [0, 1, 2, 3, 4] rfl (ih (v + 1) x (by omega))
      · have c2 : ¬ ((p_bl k (rg σ (c + 3) (nI v))) = 0) := c2
        refine r_iinc (v := x + 1) (lo' := [(3, .int (x + 1)), (4, .int (nI v)), (0, .ref (ad c)), (1, .int k), (2, .int m)]) dX1_countAbove_35 1 rfl rfl (by decide) rfl ?_
        refine r_iinc (v := (nI v) + 1) (lo' := [(4, .int ((nI v) + 1)), (3, .int (x + 1)), (0, .ref (ad c)), (1, .int k), (2, .int m)]) dX1_countAbove_38 1 rfl rfl (by decide) rfl ?_
        refine r_goto (t := 5) dX1_countAbove_41 (by decide) ?_
        rw [nI_1, p_cab]
        simp only [eq_false c1, eq_false c2, ↓reduceIte]
        exact ab_E.lo [0, 1, 2, 3, 4] rfl (ih (v + 1) (x + 1) (by omega))
theorem c_X1_countAbove {ad : Nat → Nat} (σ : sS) {c M : Nat} (hc0 : la c = (1, 1)) (hM : vI σ c 7 = nI M) (hM3 : M ≤ 300) (k m : Int32) : ab_X (sR ad) 4 mX1_countAbove [.ref (ad c), .int k, .int m] σ (some (.int (p_cab σ c k m M 0 0))) σ := by
  refine ab_X.of (by decide) (Nat.le_of_ble_eq_true rfl) ?_
  refine r_iconst (v := 0) dX1_countAbove_0 (by decide) ?_
  refine r_istore_n (lo' := [(3, .int 0), (0, .ref (ad c)), (1, .int k), (2, .int m)]) dX1_countAbove_1 (by decide) rfl ?_
  refine r_iconst (v := 0) dX1_countAbove_2 (by decide) ?_
  refine r_istore (lo' := [(4, .int 0), (3, .int 0), (0, .ref (ad c)), (1, .int k), (2, .int m)]) dX1_countAbove_3 (by decide) rfl ?_
  exact l_X1_cab hc0 hM hM3 M 0 0 (by omega)
theorem i10 : ((1 : Int32) = 0) = False := eq_false (by decide)
def p_hA (σ : sS) (c M : Nat) (w v q : Int32) : Int32 := if w = 2 then (if q = 0 then 0 else if p_cab σ c (rg σ (c + 3) v) 1 M 0 0 = 0 then 1 else 0) else 0
def p_hB (σ : sS) (c M : Nat) (w v q : Int32) : Int32 := if w = 1 then (if p_im σ c v = 0 then p_hA σ c M w v q else 1) else p_hA σ c M w v q
def p_h1 (σ : sS) (c M : Nat) (w v : Int32) : Int32 := if rg σ (c + 3) v &&& 1048576 = 0 then (if w = 0 then 1 else p_hB σ c M w v 0) else p_hB σ c M w v 1
def p_hm (σ : sS) (c M : Nat) (w : Int32) : Nat → Int32
  | 0 => 0
  | i + 1 => if p_h1 σ c M w (nI i) = 0 then p_hm σ c M w i else p_hm σ c M w i + 1
set_option maxHeartbeats 800000 in
theorem l_X1_hm {ad : Nat → Nat} {σ : sS} {c M : Nat} (hc0 : la c = (1, 1)) (hM : vI σ c 7 = nI M) (hM3 : M ≤ 300) {w : Int32} : ∀ (n i : Nat), i + n = M → ab_E (sR ad) mX1_howMany 5 4 [(3, .int (nI i)), (2, .int (p_hm σ c M w i)), (0, .ref (ad c)), (1, .int w)] [] σ (fun r σ' => r = some (.int (p_hm σ c M w M)) ∧ σ' = σ) := by
  intro n
  induction n with
  | zero =>
    intro i hi
    have hc : vI σ c 7 ≤ nI i := by rw [hM]; exact nI_le (by omega) (by omega)
    refine r_iload_n dX1_howMany_4 0 rfl ?_
    refine r_aload_n dX1_howMany_5 2 rfl ?_
    refine s_getI ok_X1 dX1_howMany_6 (k := 7) (by decide) fl_X1_53 hc0 rfl ?_
    refine r_icmp_ge (t := 90) dX1_howMany_9 (by decide) (fun _ => ?_) (fun hh => absurd hc hh)
    refine r_iload_n dX1_howMany_90 1 rfl ?_
    refine r_iret rfl dX1_howMany_91 ?_
    exact ⟨by rw [show i = M by omega], rfl⟩
  | succ n ih =>
    intro i hi
    have hc : ¬ vI σ c 7 ≤ nI i := by rw [hM]; exact nI_ge (by omega) (by omega)
    refine r_iload_n dX1_howMany_4 0 rfl ?_
    refine r_aload_n dX1_howMany_5 2 rfl ?_
    refine s_getI ok_X1 dX1_howMany_6 (k := 7) (by decide) fl_X1_53 hc0 rfl ?_
    refine r_icmp_ge (t := 90) dX1_howMany_9 (by decide) (fun hh => absurd hh hc) (fun _ => ?_)
    refine r_aload_n dX1_howMany_12 2 rfl ?_
    refine s_getR (b := c + 3) ok_X1 dX1_howMany_13 (k := 3) (by decide) fl_X1_14 hc0 rfl (cq_s3 hc0) ?_
    refine r_iload_n dX1_howMany_16 0 rfl ?_
    refine x_callV (Y := mX7_get) (d' := 1) dX1_howMany_17 ml_X1_71 yv_X7_get (by omega) rfl rfl (by simp [Value.category]) (sR_isR (cq_3 hc0)) (c_get (cq_3 hc0) (nI i)) ?_
    refine r_ldc (v := 1048576) dX1_howMany_20 co_X1_82 ?_
    refine r_iand dX1_howMany_22 ?_
    refine r_if_eq (t := 30) dX1_howMany_23 (by decide) (fun c1 => ?_) (fun c1 => ?_)
    · have c1 : ((rg σ (c + 3) (nI i)) &&& 1048576) = 0 := c1
      refine r_iconst (v := 0) dX1_howMany_30 (by decide) ?_
      refine r_istore (lo' := [(4, .int 0), (3, .int (nI i)), (2, .int (p_hm σ c M w i)), (0, .ref (ad c)), (1, .int w)]) dX1_howMany_31 (by decide) rfl ?_
      refine r_iload_n dX1_howMany_33 4 rfl ?_
      refine r_if_ne (t := 42) dX1_howMany_34 (by decide) (fun c2 => ?_) (fun c2 => ?_)
      · have c2 : ¬ (w = 0) := c2
        refine r_iload_n dX1_howMany_42 4 rfl ?_
        refine r_iconst (v := 1) dX1_howMany_43 (by decide) ?_
        refine r_icmp_ne (t := 55) dX1_howMany_44 (by decide) (fun c3 => ?_) (fun c3 => ?_)
        · have c3 : ¬ (w = 1) := c3
          refine r_iload_n dX1_howMany_55 4 rfl ?_
          refine r_iconst (v := 2) dX1_howMany_56 (by decide) ?_
          refine r_icmp_ne (t := 84) dX1_howMany_57 (by decide) (fun c4 => ?_) (fun c4 => ?_)
          · have c4 : ¬ (w = 2) := c4
            refine r_iinc (v := (nI i) + 1) (lo' := [(3, .int ((nI i) + 1)), (4, .int 0), (2, .int (p_hm σ c M w i)), (0, .ref (ad c)), (1, .int w)]) dX1_howMany_84 1 rfl rfl (by decide) rfl ?_
            refine r_goto (t := 4) dX1_howMany_87 (by decide) ?_
            have e0 : p_h1 σ c M w (nI i) = 0 := by unfold p_h1 p_hB p_hA; simp only [eq_true c1, eq_false c2, eq_false c3, eq_false c4, ↓reduceIte, i10, eq_self]
            have e2 : p_hm σ c M w (i + 1) = p_hm σ c M w i := by rw [p_hm, e0]; rw [if_pos rfl]
            rw [nI_1, ← e2]
            exact ab_E.lo [0, 2, 3, 4] rfl (ih (i + 1) (by omega))
          · have c4 : w = 2 := c4
            refine r_iload dX1_howMany_60 0 rfl ?_
            refine r_if_eq (t := 84) dX1_howMany_62 (by decide) (fun _ => ?_) (fun hh => absurd (by decide) hh)
            refine r_iinc (v := (nI i) + 1) (lo' := [(3, .int ((nI i) + 1)), (4, .int 0), (2, .int (p_hm σ c M w i)), (0, .ref (ad c)), (1, .int w)]) dX1_howMany_84 1 rfl rfl (by decide) rfl ?_
            refine r_goto (t := 4) dX1_howMany_87 (by decide) ?_
            have e0 : p_h1 σ c M w (nI i) = 0 := by unfold p_h1 p_hB p_hA; simp only [eq_true c1, eq_false c2, eq_false c3, eq_true c4, ↓reduceIte, i10, eq_self]
            have e2 : p_hm σ c M w (i + 1) = p_hm σ c M w i := by rw [p_hm, e0]; rw [if_pos rfl]
            rw [nI_1, ← e2]
            exact ab_E.lo [0, 2, 3, 4] rfl (ih (i + 1) (by omega))
        · have c3 : w = 1 := c3
          refine r_aload_n dX1_howMany_47 3 rfl ?_
          refine r_iload_n dX1_howMany_48 1 rfl ?_
          refine x_callV (Y := mX1_isMarked) (d' := 2) dX1_howMany_49 ml_X1_143 yv_X1_isMarked (by omega) rfl rfl (by simp [Value.category]) (sR_is hc0 rfl) (c_X1_isMarked σ hc0 (nI i)) ?_
          refine r_if_ne (t := 81) dX1_howMany_52 (by decide) (fun c5 => ?_) (fun c5 => ?_)
          · have c5 : ¬ ((p_im σ c (nI i)) = 0) := c5
            refine r_iinc (v := (p_hm σ c M w i) + 1) (lo' := [(2, .int ((p_hm σ c M w i) + 1)), (4, .int 0), (3, .int (nI i)), (0, .ref (ad c)), (1, .int w)]) dX1_howMany_81 2 rfl rfl (by decide) rfl ?_
            refine r_iinc (v := (nI i) + 1) (lo' := [(3, .int ((nI i) + 1)), (2, .int ((p_hm σ c M w i) + 1)), (4, .int 0), (0, .ref (ad c)), (1, .int w)]) dX1_howMany_84 2 rfl rfl (by decide) rfl ?_
            refine r_goto (t := 4) dX1_howMany_87 (by decide) ?_
            have e0 : p_h1 σ c M w (nI i) = 1 := by unfold p_h1 p_hB p_hA; simp only [eq_true c1, eq_false c2, eq_true c3, eq_false c5, ↓reduceIte, i10, eq_self]
            have e2 : p_hm σ c M w (i + 1) = (p_hm σ c M w i) + 1 := by rw [p_hm, e0]; rw [if_neg (by decide)]
            rw [nI_1, ← e2]
            exact ab_E.lo [0, 1, 3, 4] rfl (ih (i + 1) (by omega))
          · have c5 : (p_im σ c (nI i)) = 0 := c5
            refine r_iload_n dX1_howMany_55 4 rfl ?_
            refine r_iconst (v := 2) dX1_howMany_56 (by decide) ?_
            refine r_icmp_ne (t := 84) dX1_howMany_57 (by decide) (fun c6 => ?_) (fun c6 => ?_)
            · have c6 : ¬ (w = 2) := c6
              refine r_iinc (v := (nI i) + 1) (lo' := [(3, .int ((nI i) + 1)), (4, .int 0), (2, .int (p_hm σ c M w i)), (0, .ref (ad c)), (1, .int w)]) dX1_howMany_84 1 rfl rfl (by decide) rfl ?_
              refine r_goto (t := 4) dX1_howMany_87 (by decide) ?_
              have e0 : p_h1 σ c M w (nI i) = 0 := by unfold p_h1 p_hB p_hA; simp only [eq_true c1, eq_false c2, eq_true c3, eq_true c5, eq_false c6, ↓reduceIte, i10, eq_self]
              have e2 : p_hm σ c M w (i + 1) = p_hm σ c M w i := by rw [p_hm, e0]; rw [if_pos rfl]
              rw [nI_1, ← e2]
              exact ab_E.lo [0, 2, 3, 4] rfl (ih (i + 1) (by omega))
            · have c6 : w = 2 := c6
              refine r_iload dX1_howMany_60 0 rfl ?_
              refine r_if_eq (t := 84) dX1_howMany_62 (by decide) (fun _ => ?_) (fun hh => absurd (by decide) hh)
              refine r_iinc (v := (nI i) + 1) (lo' := [(3, .int ((nI i) + 1)), (4, .int 0), (2, .int (p_hm σ c M w i)), (0, .ref (ad c)), (1, .int w)]) dX1_howMany_84 1 rfl rfl (by decide) rfl ?_
              refine r_goto (t := 4) dX1_howMany_87 (by decide) ?_
              have e0 : p_h1 σ c M w (nI i) = 0 := by unfold p_h1 p_hB p_hA; simp only [eq_true c1, eq_false c2, eq_true c3, eq_true c5, eq_true c6, ↓reduceIte, i10, eq_self]
              have e2 : p_hm σ c M w (i + 1) = p_hm σ c M w i := by rw [p_hm, e0]; rw [if_pos rfl]
              rw [nI_1, ← e2]
              exact ab_E.lo [0, 2, 3, 4] rfl (ih (i + 1) (by omega))
      · have c2 : w = 0 := c2
        refine r_iload dX1_howMany_37 0 rfl ?_
        refine r_if_eq (t := 81) dX1_howMany_39 (by decide) (fun _ => ?_) (fun hh => absurd (by decide) hh)
        refine r_iinc (v := (p_hm σ c M w i) + 1) (lo' := [(2, .int ((p_hm σ c M w i) + 1)), (4, .int 0), (3, .int (nI i)), (0, .ref (ad c)), (1, .int w)]) dX1_howMany_81 2 rfl rfl (by decide) rfl ?_
        refine r_iinc (v := (nI i) + 1) (lo' := [(3, .int ((nI i) + 1)), (2, .int ((p_hm σ c M w i) + 1)), (4, .int 0), (0, .ref (ad c)), (1, .int w)]) dX1_howMany_84 2 rfl rfl (by decide) rfl ?_
        refine r_goto (t := 4) dX1_howMany_87 (by decide) ?_
        have e0 : p_h1 σ c M w (nI i) = 1 := by unfold p_h1 p_hB p_hA; simp only [eq_true c1, eq_true c2, ↓reduceIte, i10, eq_self]
        have e2 : p_hm σ c M w (i + 1) = (p_hm σ c M w i) + 1 := by rw [p_hm, e0]; rw [if_neg (by decide)]
        rw [nI_1, ← e2]
        exact ab_E.lo [0, 1, 3, 4] rfl (ih (i + 1) (by omega))
    · have c1 : ¬ (((rg σ (c + 3) (nI i)) &&& 1048576) = 0) := c1
      refine r_iconst (v := 1) dX1_howMany_26 (by decide) ?_
      refine r_goto (t := 31) dX1_howMany_27 (by decide) ?_
      refine r_istore (lo' := [(4, .int 1), (3, .int (nI i)), (2, .int (p_hm σ c M w i)), (0, .ref (ad c)), (1, .int w)]) dX1_howMany_31 (by decide) rfl ?_
      refine r_iload_n dX1_howMany_33 4 rfl ?_
      refine r_if_ne (t := 42) dX1_howMany_34 (by decide) (fun c7 => ?_) (fun c7 => ?_)
      · have c7 : ¬ (w = 0) := c7
        refine r_iload_n dX1_howMany_42 4 rfl ?_
        refine r_iconst (v := 1) dX1_howMany_43 (by decide) ?_
        refine r_icmp_ne (t := 55) dX1_howMany_44 (by decide) (fun c8 => ?_) (fun c8 => ?_)
        · have c8 : ¬ (w = 1) := c8
          refine r_iload_n dX1_howMany_55 4 rfl ?_
          refine r_iconst (v := 2) dX1_howMany_56 (by decide) ?_
          refine r_icmp_ne (t := 84) dX1_howMany_57 (by decide) (fun c9 => ?_) (fun c9 => ?_)
          · have c9 : ¬ (w = 2) := c9
            refine r_iinc (v := (nI i) + 1) (lo' := [(3, .int ((nI i) + 1)), (4, .int 1), (2, .int (p_hm σ c M w i)), (0, .ref (ad c)), (1, .int w)]) dX1_howMany_84 1 rfl rfl (by decide) rfl ?_
            refine r_goto (t := 4) dX1_howMany_87 (by decide) ?_
            have e0 : p_h1 σ c M w (nI i) = 0 := by unfold p_h1 p_hB p_hA; simp only [eq_false c1, eq_false c7, eq_false c8, eq_false c9, ↓reduceIte, i10, eq_self]
            have e2 : p_hm σ c M w (i + 1) = p_hm σ c M w i := by rw [p_hm, e0]; rw [if_pos rfl]
            rw [nI_1, ← e2]
            exact ab_E.lo [0, 2, 3, 4] rfl (ih (i + 1) (by omega))
          · have c9 : w = 2 := c9
            refine r_iload dX1_howMany_60 0 rfl ?_
            refine r_if_eq (t := 84) dX1_howMany_62 (by decide) (fun hh => absurd hh (by decide)) (fun _ => ?_)
            refine r_aload_n dX1_howMany_65 3 rfl ?_
            refine r_aload_n dX1_howMany_66 3 rfl ?_
            refine s_getR (b := c + 3) ok_X1 dX1_howMany_67 (k := 3) (by decide) fl_X1_14 hc0 rfl (cq_s3 hc0) ?_
            refine r_iload_n dX1_howMany_70 1 rfl ?_
            refine x_callV (Y := mX7_get) (d' := 1) dX1_howMany_71 ml_X1_71 yv_X7_get (by omega) rfl rfl (by simp [Value.category]) (sR_isR (cq_3 hc0)) (c_get (cq_3 hc0) (nI i)) ?_
            refine r_iconst (v := 1) dX1_howMany_74 (by decide) ?_
            refine x_callV (Y := mX1_countAbove) (d' := 4) dX1_howMany_75 ml_X1_147 yv_X1_countAbove (by omega) rfl rfl (by simp [Value.category]) (sR_is hc0 rfl) (c_X1_countAbove σ hc0 hM hM3 (rg σ (c + 3) (nI i)) 1) ?_
            refine r_if_ne (t := 84) dX1_howMany_78 (by decide) (fun c10 => ?_) (fun c10 => ?_)
            · have c10 : ¬ ((p_cab σ c (rg σ (c + 3) (nI i)) 1 M 0 0) = 0) := c10
              refine r_iinc (v := (nI i) + 1) (lo' := [(3, .int ((nI i) + 1)), (4, .int 1), (2, .int (p_hm σ c M w i)), (0, .ref (ad c)), (1, .int w)]) dX1_howMany_84 1 rfl rfl (by decide) rfl ?_
              refine r_goto (t := 4) dX1_howMany_87 (by decide) ?_
              have e0 : p_h1 σ c M w (nI i) = 0 := by unfold p_h1 p_hB p_hA; simp only [eq_false c1, eq_false c7, eq_false c8, eq_true c9, eq_false c10, ↓reduceIte, i10, eq_self]
              have e2 : p_hm σ c M w (i + 1) = p_hm σ c M w i := by rw [p_hm, e0]; rw [if_pos rfl]
              rw [nI_1, ← e2]
              exact ab_E.lo [0, 2, 3, 4] rfl (ih (i + 1) (by omega))
            · have c10 : (p_cab σ c (rg σ (c + 3) (nI i)) 1 M 0 0) = 0 := c10
              refine r_iinc (v := (p_hm σ c M w i) + 1) (lo' := [(2, .int ((p_hm σ c M w i) + 1)), (4, .int 1), (3, .int (nI i)), (0, .ref (ad c)), (1, .int w)]) dX1_howMany_81 2 rfl rfl (by decide) rfl ?_
              refine r_iinc (v := (nI i) + 1) (lo' := [(3, .int ((nI i) + 1)), (2, .int ((p_hm σ c M w i) + 1)), (4, .int 1), (0, .ref (ad c)), (1, .int w)]) dX1_howMany_84 2 rfl rfl (by decide) rfl ?_
              refine r_goto (t := 4) dX1_howMany_87 (by decide) ?_
              have e0 : p_h1 σ c M w (nI i) = 1 := by unfold p_h1 p_hB p_hA; simp only [eq_false c1, eq_false c7, eq_false c8, eq_true c9, eq_true c10, ↓reduceIte, i10, eq_self]
              have e2 : p_hm σ c M w (i + 1) = (p_hm σ c M w i) + 1 := by rw [p_hm, e0]; rw [if_neg (by decide)]
              rw [nI_1, ← e2]
              exact ab_E.lo [0, 1, 3, 4] rfl (ih (i + 1) (by omega))
        · have c8 : w = 1 := c8
          refine r_aload_n dX1_howMany_47 3 rfl ?_
          refine r_iload_n dX1_howMany_48 1 rfl ?_
          refine x_callV (Y := mX1_isMarked) (d' := 2) dX1_howMany_49 ml_X1_143 yv_X1_isMarked (by omega) rfl rfl (by simp [Value.category]) (sR_is hc0 rfl) (c_X1_isMarked σ hc0 (nI i)) ?_
          refine r_if_ne (t := 81) dX1_howMany_52 (by decide) (fun c11 => ?_) (fun c11 => ?_)
          · have c11 : ¬ ((p_im σ c (nI i)) = 0) := c11
            refine r_iinc (v := (p_hm σ c M w i) + 1) (lo' := [(2, .int ((p_hm σ c M w i) + 1)), (4, .int 1), (3, .int (nI i)), (0, .ref (ad c)), (1, .int w)]) dX1_howMany_81 2 rfl rfl (by decide) rfl ?_
            refine r_iinc (v := (nI i) + 1) (lo' := [(3, .int ((nI i) + 1)), (2, .int ((p_hm σ c M w i) + 1)), (4, .int 1), (0, .ref (ad c)), (1, .int w)]) dX1_howMany_84 2 rfl rfl (by decide) rfl ?_
            refine r_goto (t := 4) dX1_howMany_87 (by decide) ?_
            have e0 : p_h1 σ c M w (nI i) = 1 := by unfold p_h1 p_hB p_hA; simp only [eq_false c1, eq_false c7, eq_true c8, eq_false c11, ↓reduceIte, i10, eq_self]
            have e2 : p_hm σ c M w (i + 1) = (p_hm σ c M w i) + 1 := by rw [p_hm, e0]; rw [if_neg (by decide)]
            rw [nI_1, ← e2]
            exact ab_E.lo [0, 1, 3, 4] rfl (ih (i + 1) (by omega))
          · have c11 : (p_im σ c (nI i)) = 0 := c11
            refine r_iload_n dX1_howMany_55 4 rfl ?_
            refine r_iconst (v := 2) dX1_howMany_56 (by decide) ?_
            refine r_icmp_ne (t := 84) dX1_howMany_57 (by decide) (fun c12 => ?_) (fun c12 => ?_)
            · have c12 : ¬ (w = 2) := c12
              refine r_iinc (v := (nI i) + 1) (lo' := [(3, .int ((nI i) + 1)), (4, .int 1), (2, .int (p_hm σ c M w i)), (0, .ref (ad c)), (1, .int w)]) dX1_howMany_84 1 rfl rfl (by decide) rfl ?_
              refine r_goto (t := 4) dX1_howMany_87 (by decide) ?_
              have e0 : p_h1 σ c M w (nI i) = 0 := by unfold p_h1 p_hB p_hA; simp only [eq_false c1, eq_false c7, eq_true c8, eq_true c11, eq_false c12, ↓reduceIte, i10, eq_self]
              have e2 : p_hm σ c M w (i + 1) = p_hm σ c M w i := by rw [p_hm, e0]; rw [if_pos rfl]
              rw [nI_1, ← e2]
              exact ab_E.lo [0, 2, 3, 4] rfl (ih (i + 1) (by omega))
            · have c12 : w = 2 := c12
              refine r_iload dX1_howMany_60 0 rfl ?_
              refine r_if_eq (t := 84) dX1_howMany_62 (by decide) (fun hh => absurd hh (by decide)) (fun _ => ?_)
              refine r_aload_n dX1_howMany_65 3 rfl ?_
              refine r_aload_n dX1_howMany_66 3 rfl ?_
              refine s_getR (b := c + 3) ok_X1 dX1_howMany_67 (k := 3) (by decide) fl_X1_14 hc0 rfl (cq_s3 hc0) ?_
              refine r_iload_n dX1_howMany_70 1 rfl ?_
              refine x_callV (Y := mX7_get) (d' := 1) dX1_howMany_71 ml_X1_71 yv_X7_get (by omega) rfl rfl (by simp [Value.category]) (sR_isR (cq_3 hc0)) (c_get (cq_3 hc0) (nI i)) ?_
              refine r_iconst (v := 1) dX1_howMany_74 (by decide) ?_
              refine x_callV (Y := mX1_countAbove) (d' := 4) dX1_howMany_75 ml_X1_147 yv_X1_countAbove (by omega) rfl rfl (by simp [Value.category]) (sR_is hc0 rfl) (c_X1_countAbove σ hc0 hM hM3 (rg σ (c + 3) (nI i)) 1) ?_
              refine r_if_ne (t := 84) dX1_howMany_78 (by decide) (fun c13 => ?_) (fun c13 => ?_)
              · have c13 : ¬ ((p_cab σ c (rg σ (c + 3) (nI i)) 1 M 0 0) = 0) := c13
                refine r_iinc (v := (nI i) + 1) (lo' := [(3, .int ((nI i) + 1)), (4, .int 1), (2, .int (p_hm σ c M w i)), (0, .ref (ad c)), (1, .int w)]) dX1_howMany_84 1 rfl rfl (by decide) rfl ?_
                refine r_goto (t := 4) dX1_howMany_87 (by decide) ?_
                have e0 : p_h1 σ c M w (nI i) = 0 := by unfold p_h1 p_hB p_hA; simp only [eq_false c1, eq_false c7, eq_true c8, eq_true c11, eq_true c12, eq_false c13, ↓reduceIte, i10, eq_self]
                have e2 : p_hm σ c M w (i + 1) = p_hm σ c M w i := by rw [p_hm, e0]; rw [if_pos rfl]
                rw [nI_1, ← e2]
                exact ab_E.lo [0, 2, 3, 4] rfl (ih (i + 1) (by omega))
              · have c13 : (p_cab σ c (rg σ (c + 3) (nI i)) 1 M 0 0) = 0 := c13
                refine r_iinc (v := (p_hm σ c M w i) + 1) (lo' := [(2, .int ((p_hm σ c M w i) + 1)), (4, .int 1), (3, .int (nI i)), (0, .ref (ad c)), (1, .int w)]) dX1_howMany_81 2 rfl rfl (by decide) rfl ?_
                refine r_iinc (v := (nI i) + 1) (lo' := [(3, .int ((nI i) + 1)), (2, .int ((p_hm σ c M w i) + 1)), (4, .int 1), (0, .ref (ad c)), (1, .int w)]) dX1_howMany_84 2 rfl rfl (by decide) rfl ?_
                refine r_goto (t := 4) dX1_howMany_87 (by decide) ?_
                have e0 : p_h1 σ c M w (nI i) = 1 := by unfold p_h1 p_hB p_hA; simp only [eq_false c1, eq_false c7, eq_true c8, eq_true c11, eq_true c12, eq_true c13, ↓reduceIte, i10, eq_self]
                have e2 : p_hm σ c M w (i + 1) = (p_hm σ c M w i) + 1 := by rw [p_hm, e0]; rw [if_neg (by decide)]
                rw [nI_1, ← e2]
                exact ab_E.lo [0, 1, 3, 4] rfl (ih (i + 1) (by omega))
      · have c7 : w = 0 := c7
        refine r_iload dX1_howMany_37 0 rfl ?_
        refine r_if_eq (t := 81) dX1_howMany_39 (by decide) (fun hh => absurd hh (by decide)) (fun _ => ?_)
        refine r_iload_n dX1_howMany_42 4 rfl ?_
        refine r_iconst (v := 1) dX1_howMany_43 (by decide) ?_
        refine r_icmp_ne (t := 55) dX1_howMany_44 (by decide) (fun c14 => ?_) (fun c14 => ?_)
        · have c14 : ¬ (w = 1) := c14
          refine r_iload_n dX1_howMany_55 4 rfl ?_
          refine r_iconst (v := 2) dX1_howMany_56 (by decide) ?_
          refine r_icmp_ne (t := 84) dX1_howMany_57 (by decide) (fun c15 => ?_) (fun c15 => ?_)
          · have c15 : ¬ (w = 2) := c15
            refine r_iinc (v := (nI i) + 1) (lo' := [(3, .int ((nI i) + 1)), (4, .int 1), (2, .int (p_hm σ c M w i)), (0, .ref (ad c)), (1, .int w)]) dX1_howMany_84 1 rfl rfl (by decide) rfl ?_
            refine r_goto (t := 4) dX1_howMany_87 (by decide) ?_
            have e0 : p_h1 σ c M w (nI i) = 0 := by unfold p_h1 p_hB p_hA; simp only [eq_false c1, eq_true c7, eq_false c14, eq_false c15, ↓reduceIte, i10, eq_self]
            have e2 : p_hm σ c M w (i + 1) = p_hm σ c M w i := by rw [p_hm, e0]; rw [if_pos rfl]
            rw [nI_1, ← e2]
            exact ab_E.lo [0, 2, 3, 4] rfl (ih (i + 1) (by omega))
          · have c15 : w = 2 := c15
            refine r_iload dX1_howMany_60 0 rfl ?_
            refine r_if_eq (t := 84) dX1_howMany_62 (by decide) (fun hh => absurd hh (by decide)) (fun _ => ?_)
            refine r_aload_n dX1_howMany_65 3 rfl ?_
            refine r_aload_n dX1_howMany_66 3 rfl ?_
            refine s_getR (b := c + 3) ok_X1 dX1_howMany_67 (k := 3) (by decide) fl_X1_14 hc0 rfl (cq_s3 hc0) ?_
            refine r_iload_n dX1_howMany_70 1 rfl ?_
            refine x_callV (Y := mX7_get) (d' := 1) dX1_howMany_71 ml_X1_71 yv_X7_get (by omega) rfl rfl (by simp [Value.category]) (sR_isR (cq_3 hc0)) (c_get (cq_3 hc0) (nI i)) ?_
            refine r_iconst (v := 1) dX1_howMany_74 (by decide) ?_
            refine x_callV (Y := mX1_countAbove) (d' := 4) dX1_howMany_75 ml_X1_147 yv_X1_countAbove (by omega) rfl rfl (by simp [Value.category]) (sR_is hc0 rfl) (c_X1_countAbove σ hc0 hM hM3 (rg σ (c + 3) (nI i)) 1) ?_
            refine r_if_ne (t := 84) dX1_howMany_78 (by decide) (fun c16 => ?_) (fun c16 => ?_)
            · have c16 : ¬ ((p_cab σ c (rg σ (c + 3) (nI i)) 1 M 0 0) = 0) := c16
              refine r_iinc (v := (nI i) + 1) (lo' := [(3, .int ((nI i) + 1)), (4, .int 1), (2, .int (p_hm σ c M w i)), (0, .ref (ad c)), (1, .int w)]) dX1_howMany_84 1 rfl rfl (by decide) rfl ?_
              refine r_goto (t := 4) dX1_howMany_87 (by decide) ?_
              have e0 : p_h1 σ c M w (nI i) = 0 := by unfold p_h1 p_hB p_hA; simp only [eq_false c1, eq_true c7, eq_false c14, eq_true c15, eq_false c16, ↓reduceIte, i10, eq_self]
              have e2 : p_hm σ c M w (i + 1) = p_hm σ c M w i := by rw [p_hm, e0]; rw [if_pos rfl]
              rw [nI_1, ← e2]
              exact ab_E.lo [0, 2, 3, 4] rfl (ih (i + 1) (by omega))
            · have c16 : (p_cab σ c (rg σ (c + 3) (nI i)) 1 M 0 0) = 0 := c16
              refine r_iinc (v := (p_hm σ c M w i) + 1) (lo' := [(2, .int ((p_hm σ c M w i) + 1)), (4, .int 1), (3, .int (nI i)), (0, .ref (ad c)), (1, .int w)]) dX1_howMany_81 2 rfl rfl (by decide) rfl ?_
              refine r_iinc (v := (nI i) + 1) (lo' := [(3, .int ((nI i) + 1)), (2, .int ((p_hm σ c M w i) + 1)), (4, .int 1), (0, .ref (ad c)), (1, .int w)]) dX1_howMany_84 2 rfl rfl (by decide) rfl ?_
              refine r_goto (t := 4) dX1_howMany_87 (by decide) ?_
              have e0 : p_h1 σ c M w (nI i) = 1 := by unfold p_h1 p_hB p_hA; simp only [eq_false c1, eq_true c7, eq_false c14, eq_true c15, eq_true c16, ↓reduceIte, i10, eq_self]
              have e2 : p_hm σ c M w (i + 1) = (p_hm σ c M w i) + 1 := by rw [p_hm, e0]; rw [if_neg (by decide)]
              rw [nI_1, ← e2]
              exact ab_E.lo [0, 1, 3, 4] rfl (ih (i + 1) (by omega))
        · have c14 : w = 1 := c14
          refine r_aload_n dX1_howMany_47 3 rfl ?_
          refine r_iload_n dX1_howMany_48 1 rfl ?_
          refine x_callV (Y := mX1_isMarked) (d' := 2) dX1_howMany_49 ml_X1_143 yv_X1_isMarked (by omega) rfl rfl (by simp [Value.category]) (sR_is hc0 rfl) (c_X1_isMarked σ hc0 (nI i)) ?_
          refine r_if_ne (t := 81) dX1_howMany_52 (by decide) (fun c17 => ?_) (fun c17 => ?_)
          · have c17 : ¬ ((p_im σ c (nI i)) = 0) := c17
            refine r_iinc (v := (p_hm σ c M w i) + 1) (lo' := [(2, .int ((p_hm σ c M w i) + 1)), (4, .int 1), (3, .int (nI i)), (0, .ref (ad c)), (1, .int w)]) dX1_howMany_81 2 rfl rfl (by decide) rfl ?_
            refine r_iinc (v := (nI i) + 1) (lo' := [(3, .int ((nI i) + 1)), (2, .int ((p_hm σ c M w i) + 1)), (4, .int 1), (0, .ref (ad c)), (1, .int w)]) dX1_howMany_84 2 rfl rfl (by decide) rfl ?_
            refine r_goto (t := 4) dX1_howMany_87 (by decide) ?_
            have e0 : p_h1 σ c M w (nI i) = 1 := by unfold p_h1 p_hB p_hA; simp only [eq_false c1, eq_true c7, eq_true c14, eq_false c17, ↓reduceIte, i10, eq_self]
            have e2 : p_hm σ c M w (i + 1) = (p_hm σ c M w i) + 1 := by rw [p_hm, e0]; rw [if_neg (by decide)]
            rw [nI_1, ← e2]
            exact ab_E.lo [0, 1, 3, 4] rfl (ih (i + 1) (by omega))
          · have c17 : (p_im σ c (nI i)) = 0 := c17
            refine r_iload_n dX1_howMany_55 4 rfl ?_
            refine r_iconst (v := 2) dX1_howMany_56 (by decide) ?_
            refine r_icmp_ne (t := 84) dX1_howMany_57 (by decide) (fun c18 => ?_) (fun c18 => ?_)
            · have c18 : ¬ (w = 2) := c18
              refine r_iinc (v := (nI i) + 1) (lo' := [(3, .int ((nI i) + 1)), (4, .int 1), (2, .int (p_hm σ c M w i)), (0, .ref (ad c)), (1, .int w)]) dX1_howMany_84 1 rfl rfl (by decide) rfl ?_
              refine r_goto (t := 4) dX1_howMany_87 (by decide) ?_
              have e0 : p_h1 σ c M w (nI i) = 0 := by unfold p_h1 p_hB p_hA; simp only [eq_false c1, eq_true c7, eq_true c14, eq_true c17, eq_false c18, ↓reduceIte, i10, eq_self]
              have e2 : p_hm σ c M w (i + 1) = p_hm σ c M w i := by rw [p_hm, e0]; rw [if_pos rfl]
              rw [nI_1, ← e2]
              exact ab_E.lo [0, 2, 3, 4] rfl (ih (i + 1) (by omega))
            · have c18 : w = 2 := c18
              refine r_iload dX1_howMany_60 0 rfl ?_
              refine r_if_eq (t := 84) dX1_howMany_62 (by decide) (fun hh => absurd hh (by decide)) (fun _ => ?_)
              refine r_aload_n dX1_howMany_65 3 rfl ?_
              refine r_aload_n dX1_howMany_66 3 rfl ?_
              refine s_getR (b := c + 3) ok_X1 dX1_howMany_67 (k := 3) (by decide) fl_X1_14 hc0 rfl (cq_s3 hc0) ?_
              refine r_iload_n dX1_howMany_70 1 rfl ?_
              refine x_callV (Y := mX7_get) (d' := 1) dX1_howMany_71 ml_X1_71 yv_X7_get (by omega) rfl rfl (by simp [Value.category]) (sR_isR (cq_3 hc0)) (c_get (cq_3 hc0) (nI i)) ?_
              refine r_iconst (v := 1) dX1_howMany_74 (by decide) ?_
              refine x_callV (Y := mX1_countAbove) (d' := 4) dX1_howMany_75 ml_X1_147 yv_X1_countAbove (by omega) rfl rfl (by simp [Value.category]) (sR_is hc0 rfl) (c_X1_countAbove σ hc0 hM hM3 (rg σ (c + 3) (nI i)) 1) ?_
              refine r_if_ne (t := 84) dX1_howMany_78 (by decide) (fun c19 => ?_) (fun c19 => ?_)
              · have c19 : ¬ ((p_cab σ c (rg σ (c + 3) (nI i)) 1 M 0 0) = 0) := c19
                refine r_iinc (v := (nI i) + 1) (lo' := [(3, .int ((nI i) + 1)), (4, .int 1), (2, .int (p_hm σ c M w i)), (0, .ref (ad c)), (1, .int w)]) dX1_howMany_84 1 rfl rfl (by decide) rfl ?_
                refine r_goto (t := 4) dX1_howMany_87 (by decide) ?_
                have e0 : p_h1 σ c M w (nI i) = 0 := by unfold p_h1 p_hB p_hA; simp only [eq_false c1, eq_true c7, eq_true c14, eq_true c17, eq_true c18, eq_false c19, ↓reduceIte, i10, eq_self]
                have e2 : p_hm σ c M w (i + 1) = p_hm σ c M w i := by rw [p_hm, e0]; rw [if_pos rfl]
                rw [nI_1, ← e2]
                exact ab_E.lo [0, 2, 3, 4] rfl (ih (i + 1) (by omega))
              · have c19 : (p_cab σ c (rg σ (c + 3) (nI i)) 1 M 0 0) = 0 := c19
                refine r_iinc (v := (p_hm σ c M w i) + 1) (lo' := [(2, .int ((p_hm σ c M w i) + 1)), (4, .int 1), (3, .int (nI i)), (0, .ref (ad c)), (1, .int w)]) dX1_howMany_81 2 rfl rfl (by decide) rfl ?_
                refine r_iinc (v := (nI i) + 1) (lo' := [(3, .int ((nI i) + 1)), (2, .int ((p_hm σ c M w i) + 1)), (4, .int 1), (0, .ref (ad c)), (1, .int w)]) dX1_howMany_84 2 rfl rfl (by decide) rfl ?_
                refine r_goto (t := 4) dX1_howMany_87 (by decide) ?_
                have e0 : p_h1 σ c M w (nI i) = 1 := by unfold p_h1 p_hB p_hA; simp only [eq_false c1, eq_true c7, eq_true c14, eq_true c17, eq_true c18, eq_true c19, ↓reduceIte, i10, eq_self]
                have e2 : p_hm σ c M w (i + 1) = (p_hm σ c M w i) + 1 := by rw [p_hm, e0]; rw [if_neg (by decide)]
                rw [nI_1, ← e2]
                exact ab_E.lo [0, 1, 3, 4] rfl (ih (i + 1) (by omega))
theorem c_X1_howMany {ad : Nat → Nat} (σ : sS) {c M : Nat} (hc0 : la c = (1, 1)) (hM : vI σ c 7 = nI M) (hM3 : M ≤ 300) (w : Int32) : ab_X (sR ad) 5 mX1_howMany [.ref (ad c), .int w] σ (some (.int (p_hm σ c M w M))) σ := by
  refine ab_X.of (by decide) (Nat.le_of_ble_eq_true rfl) ?_
  refine r_iconst (v := 0) dX1_howMany_0 (by decide) ?_
  refine r_istore_n (lo' := [(2, .int 0), (0, .ref (ad c)), (1, .int w)]) dX1_howMany_1 (by decide) rfl ?_
  refine r_iconst (v := 0) dX1_howMany_2 (by decide) ?_
  refine r_istore_n (lo' := [(3, .int 0), (2, .int 0), (0, .ref (ad c)), (1, .int w)]) dX1_howMany_3 (by decide) rfl ?_
  exact l_X1_hm hc0 hM hM3 M 0 (by omega)
def p_so (σ : sS) (c : Nat) (k : Int32) : Nat → Int32 → Int32
  | 0, s => s
  | n + 1, s => if rg σ 26 s - 1 < 0 then s else if rg σ (c + 3) (rg σ 26 s - 1) = k then s else p_so σ c k n ((s + 1) &&& 1023)
def p_sl (σ : sS) (c : Nat) (k : Int32) : Int32 := p_so σ c k 1024 (((k ^^^ (k >>> ((7 : Int32) &&& 31))) ^^^ (k >>> ((13 : Int32) &&& 31))) &&& 1023)
theorem l_X1_so {ad : Nat → Nat} {σ : sS} {c : Nat} (hc0 : la c = (1, 1)) {k : Int32} : ∀ (n i : Nat) (s : Int32), i + n = 1024 → ab_E (sR ad) mX1_slotOf 2 18 [(3, .int (nI i)), (2, .int s), (0, .ref (ad c)), (1, .int k)] [] σ (fun r σ' => r = some (.int (p_so σ c k n s)) ∧ σ' = σ) := by
  intro n
  induction n with
  | zero =>
    intro i s hi
    have hc : (1024 : Int32) ≤ nI i := nI_le (a := 1024) (by omega) (by omega)
    refine r_iload_n dX1_slotOf_18 0 rfl ?_
    refine r_sipush (v := 1024) dX1_slotOf_19 (by decide) ?_
    refine r_icmp_ge (t := 72) dX1_slotOf_22 (by decide) (fun _ => ?_) (fun hh => absurd hc hh)
    refine r_iload_n dX1_slotOf_72 1 rfl ?_
    refine r_iret rfl dX1_slotOf_73 ?_
    exact ⟨rfl, rfl⟩
  | succ n ih =>
    intro i s hi
    have hc : ¬ (1024 : Int32) ≤ nI i := nI_ge (b := 1024) (by omega) (by decide)
    refine r_iload_n dX1_slotOf_18 0 rfl ?_
    refine r_sipush (v := 1024) dX1_slotOf_19 (by decide) ?_
    refine r_icmp_ge (t := 72) dX1_slotOf_22 (by decide) (fun hh => absurd hh hc) (fun _ => ?_)
    refine r_aload_n dX1_slotOf_25 2 rfl ?_
    refine s_getR (b := 26) ok_X1 dX1_slotOf_26 (k := 2) (by decide) fl_X1_34 hc0 rfl (cq_s2 hc0) ?_
    refine r_iload_n dX1_slotOf_29 1 rfl ?_
    refine x_callV (Y := mX7_get) (d' := 1) dX1_slotOf_30 ml_X1_71 yv_X7_get (by omega) rfl rfl (by simp [Value.category]) (sR_isR rfl) (c_get rfl s) ?_
    refine r_iconst (v := 1) dX1_slotOf_33 (by decide) ?_
    refine r_isub dX1_slotOf_34 ?_
    refine r_istore (lo' := [(4, .int ((rg σ 26 s) - 1)), (3, .int (nI i)), (2, .int s), (0, .ref (ad c)), (1, .int k)]) dX1_slotOf_35 (by decide) rfl ?_
    refine r_iload dX1_slotOf_37 0 rfl ?_
    refine r_if_lt (t := 72) dX1_slotOf_39 (by decide) (fun c1 => ?_) (fun c1 => ?_)
    · have c1 : ((rg σ 26 s) - 1) < 0 := c1
      refine r_iload_n dX1_slotOf_72 2 rfl ?_
      refine r_iret rfl dX1_slotOf_73 ?_
      exact ⟨by rw [p_so]; simp only [eq_true c1, ↓reduceIte], rfl⟩
    · have c1 : ¬ (((rg σ 26 s) - 1) < 0) := c1
      refine r_aload_n dX1_slotOf_42 3 rfl ?_
      refine s_getR (b := c + 3) ok_X1 dX1_slotOf_43 (k := 3) (by decide) fl_X1_14 hc0 rfl (cq_s3 hc0) ?_
      refine r_iload dX1_slotOf_46 0 rfl ?_
      refine x_callV (Y := mX7_get) (d' := 1) dX1_slotOf_48 ml_X1_71 yv_X7_get (by omega) rfl rfl (by simp [Value.category]) (sR_isR (cq_3 hc0)) (c_get (cq_3 hc0) ((rg σ 26 s) - 1)) ?_
      refine r_iload_n dX1_slotOf_51 4 rfl ?_
      refine r_icmp_ne (t := 58) dX1_slotOf_52 (by decide) (fun c2 => ?_) (fun c2 => ?_)
      · have c2 : ¬ ((rg σ (c + 3) ((rg σ 26 s) - 1)) = k) := c2
        refine r_iload_n dX1_slotOf_58 2 rfl ?_
        refine r_iconst (v := 1) dX1_slotOf_59 (by decide) ?_
        refine r_iadd dX1_slotOf_60 ?_
        refine r_sipush (v := 1023) dX1_slotOf_61 (by decide) ?_
        refine r_iand dX1_slotOf_64 ?_
        refine r_istore_n (lo' := [(2, .int ((s + 1) &&& 1023)), (4, .int ((rg σ 26 s) - 1)), (3, .int (nI i)), (0, .ref (ad c)), (1, .int k)]) dX1_slotOf_65 (by decide) rfl ?_
        refine r_iinc (v := (nI i) + 1) (lo' := [(3, .int ((nI i) + 1)), (2, .int ((s + 1) &&& 1023)), (4, .int ((rg σ 26 s) - 1)), (0, .ref (ad c)), (1, .int k)]) dX1_slotOf_66 2 rfl rfl (by decide) rfl ?_
        refine r_goto (t := 18) dX1_slotOf_69 (by decide) ?_
        rw [nI_1, p_so]; simp only [eq_false c1, eq_false c2, ↓reduceIte]
        exact ab_E.lo [0, 1, 3, 4] rfl (ih (i + 1) ((s + 1) &&& 1023) (by omega))
      · have c2 : (rg σ (c + 3) ((rg σ 26 s) - 1)) = k := c2
        refine r_goto (t := 72) dX1_slotOf_55 (by decide) ?_
        refine r_iload_n dX1_slotOf_72 2 rfl ?_
        refine r_iret rfl dX1_slotOf_73 ?_
        exact ⟨by rw [p_so]; simp only [eq_false c1, eq_true c2, ↓reduceIte], rfl⟩
theorem c_X1_slotOf {ad : Nat → Nat} (σ : sS) {c : Nat} (hc0 : la c = (1, 1)) (k : Int32) : ab_X (sR ad) 2 mX1_slotOf [.ref (ad c), .int k] σ (some (.int (p_sl σ c k))) σ := by
  refine ab_X.of (by decide) (Nat.le_of_ble_eq_true rfl) ?_
  refine r_iload_n dX1_slotOf_0 1 rfl ?_
  refine r_iload_n dX1_slotOf_1 1 rfl ?_
  refine r_bipush (v := 7) dX1_slotOf_2 (by decide) ?_
  refine r_ishr dX1_slotOf_4 ?_
  refine r_ixor dX1_slotOf_5 ?_
  refine r_iload_n dX1_slotOf_6 1 rfl ?_
  refine r_bipush (v := 13) dX1_slotOf_7 (by decide) ?_
  refine r_ishr dX1_slotOf_9 ?_
  refine r_ixor dX1_slotOf_10 ?_
  refine r_sipush (v := 1023) dX1_slotOf_11 (by decide) ?_
  refine r_iand dX1_slotOf_14 ?_
  refine r_istore_n (lo' := [(2, .int (((k ^^^ (k >>> ((7 : Int32) &&& 31))) ^^^ (k >>> ((13 : Int32) &&& 31))) &&& 1023)), (0, .ref (ad c)), (1, .int k)]) dX1_slotOf_15 (by decide) rfl ?_
  refine r_iconst (v := 0) dX1_slotOf_16 (by decide) ?_
  refine r_istore_n (lo' := [(3, .int 0), (2, .int (((k ^^^ (k >>> ((7 : Int32) &&& 31))) ^^^ (k >>> ((13 : Int32) &&& 31))) &&& 1023)), (0, .ref (ad c)), (1, .int k)]) dX1_slotOf_17 (by decide) rfl ?_
  exact l_X1_so hc0 1024 0 _ (by decide)
def p_m1 (σ : sS) (c : Nat) (k : Int32) : sS := uI (rp σ (c + 3) (vI σ c 7) k) c 7 (vI (rp σ (c + 3) (vI σ c 7) k) c 7 + 1)
def p_m2 (σ : sS) (c : Nat) (k : Int32) : sS := rp (p_m1 σ c k) 26 (p_sl σ c k) (vI (p_m1 σ c k) c 7)
def p_mt (σ : sS) (c : Nat) (k : Int32) : sS := if rg σ 26 (p_sl σ c k) - 1 < 0 then (if vI σ c 7 < 300 then p_m2 σ c k else uI σ c 6 2) else σ
def p_ma (σ : sS) (c : Nat) (k : Int32) : Int32 := if rg σ 26 (p_sl σ c k) - 1 < 0 then (if vI σ c 7 < 300 then vI (p_m2 σ c k) c 7 - 1 else -1) else rg σ 26 (p_sl σ c k) - 1
set_option maxRecDepth 4000 in
theorem c_X1_meet {ad : Nat → Nat} (σ : sS) {c : Nat} (hc0 : la c = (1, 1)) (k : Int32)  : ab_X (sR ad) 3 mX1_meet [.ref (ad c), .int k] σ (some (.int (p_ma σ c k))) (p_mt σ c k) := by
  refine ab_X.of (by decide) (Nat.le_of_ble_eq_true rfl) ?_
  refine r_aload_n dX1_meet_0 0 rfl ?_
  refine r_iload_n dX1_meet_1 1 rfl ?_
  refine x_callV (Y := mX1_slotOf) (d' := 2) dX1_meet_2 ml_X1_137 yv_X1_slotOf (by omega) rfl rfl (by simp [Value.category]) (sR_is hc0 rfl) (c_X1_slotOf σ hc0 k) ?_
  refine r_istore_n (lo' := [(2, .int (p_sl σ c k)), (0, .ref (ad c)), (1, .int k)]) dX1_meet_5 (by decide) rfl ?_
  refine r_aload_n dX1_meet_6 1 rfl ?_
  refine s_getR (b := 26) ok_X1 dX1_meet_7 (k := 2) (by decide) fl_X1_34 hc0 rfl (cq_s2 hc0) ?_
  refine r_iload_n dX1_meet_10 0 rfl ?_
  refine x_callV (Y := mX7_get) (d' := 1) dX1_meet_11 ml_X1_71 yv_X7_get (by omega) rfl rfl (by simp [Value.category]) (sR_isR rfl) (c_get rfl (p_sl σ c k)) ?_
  refine r_iconst (v := 1) dX1_meet_14 (by decide) ?_
  refine r_isub dX1_meet_15 ?_
  refine r_istore_n (lo' := [(3, .int ((rg σ 26 (p_sl σ c k)) - 1)), (2, .int (p_sl σ c k)), (0, .ref (ad c)), (1, .int k)]) dX1_meet_16 (by decide) rfl ?_
  refine r_iload_n dX1_meet_17 0 rfl ?_
  refine r_if_lt (t := 23) dX1_meet_18 (by decide) (fun c1 => ?_) (fun c1 => ?_)
  · have c1 : ((rg σ 26 (p_sl σ c k)) - 1) < 0 := c1
    refine r_aload_n dX1_meet_23 2 rfl ?_
    refine s_getI ok_X1 dX1_meet_24 (k := 7) (by decide) fl_X1_53 hc0 rfl ?_
    refine r_sipush (v := 300) dX1_meet_27 (by decide) ?_
    refine r_icmp_lt (t := 40) dX1_meet_30 (by decide) (fun c2 => ?_) (fun c2 => ?_)
    · have c2 : (vI σ c 7) < 300 := c2
      refine r_aload_n dX1_meet_40 2 rfl ?_
      refine s_getR (b := c + 3) ok_X1 dX1_meet_41 (k := 3) (by decide) fl_X1_14 hc0 rfl (cq_s3 hc0) ?_
      refine r_aload_n dX1_meet_44 2 rfl ?_
      refine s_getI ok_X1 dX1_meet_45 (k := 7) (by decide) fl_X1_53 hc0 rfl ?_
      refine r_iload_n dX1_meet_48 3 rfl ?_
      refine x_callV0 (Y := mX7_put) (d' := 1) dX1_meet_49 ml_X1_140 yv_X7_put (by omega) rfl rfl (by simp [Value.category]) (sR_isR (cq_3 hc0)) (c_put (cq_3 hc0) (vI σ c 7) k) ?_
      refine r_aload_n dX1_meet_52 2 rfl ?_
      refine r_dup dX1_meet_53 rfl ?_
      refine s_getI ok_X1 dX1_meet_54 (k := 7) (by decide) fl_X1_53 hc0 rfl ?_
      refine r_iconst (v := 1) dX1_meet_57 (by decide) ?_
      refine r_iadd dX1_meet_58 ?_
      refine s_putI ok_X1 dX1_meet_59 (k := 7) (by decide) fl_X1_53 rfl rfl rfl hc0 rfl ?_
      refine r_aload_n dX1_meet_62 2 rfl ?_
      refine s_getR (b := 26) ok_X1 dX1_meet_63 (k := 2) (by decide) fl_X1_34 hc0 rfl (cq_s2 hc0) ?_
      refine r_iload_n dX1_meet_66 1 rfl ?_
      refine r_aload_n dX1_meet_67 2 rfl ?_
      refine s_getI ok_X1 dX1_meet_68 (k := 7) (by decide) fl_X1_53 hc0 rfl ?_
      refine x_callV0 (Y := mX7_put) (d' := 1) dX1_meet_71 ml_X1_140 yv_X7_put (by omega) rfl rfl (by simp [Value.category]) (sR_isR rfl) (c_put rfl (p_sl σ c k) (vI (uI (rp σ (c + 3) (vI σ c 7) k) c 7 ((vI (rp σ (c + 3) (vI σ c 7) k) c 7) + 1)) c 7)) ?_
      refine r_aload_n dX1_meet_74 2 rfl ?_
      refine s_getI ok_X1 dX1_meet_75 (k := 7) (by decide) fl_X1_53 hc0 rfl ?_
      refine r_iconst (v := 1) dX1_meet_78 (by decide) ?_
      refine r_isub dX1_meet_79 ?_
      refine r_iret rfl dX1_meet_80 ?_
      exact ⟨by unfold p_ma; simp only [eq_true c1, eq_true c2, ↓reduceIte]; (try rfl), by unfold p_mt; simp only [eq_true c1, eq_true c2, ↓reduceIte]; (try rfl)⟩
    · have c2 : ¬ ((vI σ c 7) < 300) := c2
      refine r_aload_n dX1_meet_33 2 rfl ?_
      refine r_iconst (v := 2) dX1_meet_34 (by decide) ?_
      refine s_putI ok_X1 dX1_meet_35 (k := 6) (by decide) fl_X1_37 rfl rfl rfl hc0 rfl ?_
      refine r_iconst (v := (-1)) dX1_meet_38 (by decide) ?_
      refine r_iret rfl dX1_meet_39 ?_
      exact ⟨by unfold p_ma; simp only [eq_true c1, eq_false c2, ↓reduceIte]; (try rfl), by unfold p_mt; simp only [eq_true c1, eq_false c2, ↓reduceIte]; (try rfl)⟩
  · have c1 : ¬ (((rg σ 26 (p_sl σ c k)) - 1) < 0) := c1
    refine r_iload_n dX1_meet_21 0 rfl ?_
    refine r_iret rfl dX1_meet_22 ?_
    exact ⟨by unfold p_ma; simp only [eq_false c1, ↓reduceIte]; (try rfl), by unfold p_mt; simp only [eq_false c1, ↓reduceIte]; (try rfl)⟩
