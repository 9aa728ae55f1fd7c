/-! Threes.meetAll -/
def h_ma (a c : Nat) : Nat → Nat → sS → sS
  | 0, _, σ => σ
  | k + 1, i, σ => h_ma a c k (i + 1) (if q_in (nI i) (vI σ a 3) = 0 then σ else h_en a c σ (h_co (nI i) 0 0))
def h_mb (a c N Lc : Nat) : Nat → Nat → sS → Bool × sS
  | 0, _, σ => (false, σ)
  | k + 1, v, σ => if vI σ 50 8 ≤ nI v then (false, σ) else if h_ans (h_o a c N (nI v) Lc 0 σ) = 0 then (true, (h_o a c N (nI v) Lc 0 σ).2) else h_mb a c N Lc k (v + 1) (h_o a c N (nI v) Lc 0 σ).2
def h_m0 (a c : Nat) (σ : sS) : sS := uI (uU (uU (uU (uU (rz (uR (uR σ 50 5 (some a)) 50 6 (some c)) 51 2400) 52 0) 53 0) 54 0) 55 0) 50 8 0
def h_m1 (a c N : Nat) (σ : sS) : sS := uI (h_ma a c N 0 (h_m0 a c σ)) 50 7 (vI (h_ma a c N 0 (h_m0 a c σ)) 50 8)
def h_all (a c N Lc : Nat) (σ : sS) : Bool × sS := h_mb a c N Lc 1000 0 (h_m1 a c N σ)
theorem h_ma_ok {a c N Lc : Nat} (ha : la a = (1, 0)) : ∀ (k i : Nat) (σ : sS), h_ok a c N Lc σ → h_ok a c N Lc (h_ma a c k i σ) := by
  intro k
  induction k with
  | zero => intro i σ h; exact h
  | succ k ih =>
    intro i σ h
    rw [h_ma]
    refine ih _ _ ?_
    split
    · exact h
    · exact h_en_ok ha h
theorem h_ok.aI {a c N Lc k : Nat} (ha : la a = (1, 0)) {σ : sS} {x : Int32} (h : h_ok a c N Lc σ) : h_ok a c N Lc (uI σ 50 k x) := by
  obtain ⟨h1, h2, h3, h4, h5, h6, h7⟩ := h
  have e : vI (uI σ 50 k x) a = vI σ a := vI_r (la_nq ha rfl (by decide))
  exact ⟨h1.aI, by rw [e]; exact h2, by rw [e]; exact h3, h4.same rfl, h5.same rfl, h6.same rfl, h7.same rfl⟩
def h_c4 (σ : sS) : Prop := vC σ 52 ≤ 270000 ∧ vC σ 53 ≤ 270000 ∧ vC σ 54 ≤ 270000 ∧ vC σ 55 ≤ 270000
theorem vU_s {σ : sS} {r : Nat} {x : Int32} : vU (uU σ r x) r = x := by
  show u1 _ _ _ _ = _
  unfold u1
  rw [if_pos rfl]
theorem vU_n {σ : sS} {r b : Nat} {x : Int32} (h : b ≠ r) : vU (uU σ r x) b = vU σ b := by
  show u1 _ _ _ _ = _
  unfold u1
  rw [if_neg h]
  rfl
theorem uok.z {σ : sS} {r : Nat} (h : vC σ r ≤ 270000) : uok (uU σ r 0) r := ⟨h, 0, Nat.zero_le _, vU_s⟩
theorem uok.zn {σ : sS} {r b : Nat} {x : Int32} (h : uok σ b) (hb : b ≠ r) : uok (uU σ r x) b := ⟨h.1, h.2.elim fun k q => ⟨k, q.1, (vU_n hb).trans q.2⟩⟩
theorem h_m0_ok {a c N Lc : Nat} (ha : la a = (1, 0)) {σ : sS} (hN : vI σ a 1 = nI N) (hG : vI σ a 2 = nI Lc) (hC : h_c4 σ) : h_ok a c N Lc (h_m0 a c σ) := by
  have h0 : h_d a c (rz (uR (uR σ 50 5 (some a)) 50 6 (some c)) 51 2400) := h_d.az (σ := uR (uR σ 50 5 (some a)) 50 6 (some c)) ⟨rfl, rfl⟩
  have e : vI (h_m0 a c σ) a = vI σ a := by
    unfold h_m0
    rw [vI_r (la_nq ha (r := 50) rfl (by decide))]
    show vI (rz (uR (uR σ 50 5 (some a)) 50 6 (some c)) 51 2400) a = _
    rw [rz_I (la_nq ha (r := 51) rfl (by decide))]
    rfl
  have c2 : vC (rz (uR (uR σ 50 5 (some a)) 50 6 (some c)) 51 2400) 52 ≤ 270000 := by rw [rz_C (by decide)]; exact hC.1
  have c3 : vC (rz (uR (uR σ 50 5 (some a)) 50 6 (some c)) 51 2400) 53 ≤ 270000 := by rw [rz_C (by decide)]; exact hC.2.1
  have c4 : vC (rz (uR (uR σ 50 5 (some a)) 50 6 (some c)) 51 2400) 54 ≤ 270000 := by rw [rz_C (by decide)]; exact hC.2.2.1
  have c5 : vC (rz (uR (uR σ 50 5 (some a)) 50 6 (some c)) 51 2400) 55 ≤ 270000 := by rw [rz_C (by decide)]; exact hC.2.2.2
  refine ⟨h0, by rw [e]; exact hN, by rw [e]; exact hG, ?_⟩
  unfold h_m0
  generalize rz (uR (uR σ 50 5 (some a)) 50 6 (some c)) 51 2400 = τ at c2 c3 c4 c5
  have q2 : uok (uU (uU (uU (uU τ 52 0) 53 0) 54 0) 55 0) 52 := (((uok.z c2).zn (by decide)).zn (by decide)).zn (by decide)
  have q3 : uok (uU (uU (uU (uU τ 52 0) 53 0) 54 0) 55 0) 53 := ((uok.z (σ := uU τ 52 0) c3).zn (by decide)).zn (by decide)
  have q4 : uok (uU (uU (uU (uU τ 52 0) 53 0) 54 0) 55 0) 54 := (uok.z (σ := uU (uU τ 52 0) 53 0) c4).zn (by decide)
  have q5 : uok (uU (uU (uU (uU τ 52 0) 53 0) 54 0) 55 0) 55 := uok.z (σ := uU (uU (uU τ 52 0) 53 0) 54 0) c5
  exact ⟨q2.same rfl, q3.same rfl, q4.same rfl, q5.same rfl⟩
theorem l_X10_ma {ad : Nat → Nat} {a c N Lc : Nat} (ha : la a = (1, 0)) (hc0 : la c = (1, 1)) (hN4 : N ≤ 4) (hL3 : Lc ≤ 3) {Q : Option Value → sS → Prop} : ∀ (k i : Nat) (σ : sS), h_ok a c N Lc σ → i + k = N → ab_E (sR ad) mX10_meetAll 6 92 [(0, .ref (ad 50)), (1, .ref (ad a)), (2, .ref (ad c))] [] (h_ma a c k i σ) Q → ab_E (sR ad) mX10_meetAll 6 59 [(3, .int (nI i)), (0, .ref (ad 50)), (1, .ref (ad a)), (2, .ref (ad c))] [] σ Q := by
  intro k
  induction k with
  | zero =>
    intro i σ h hi K
    have hc : vI σ a 1 ≤ nI i := by rw [h.2.1]; exact nI_le (by omega) (by omega)
    refine r_iload_n dX10_meetAll_59 0 rfl ?_
    refine r_aload_n dX10_meetAll_60 2 rfl ?_
    refine s_getI ok_X0 dX10_meetAll_61 (k := 1) (by decide) fl_X10_50 ha rfl ?_
    refine r_icmp_ge (t := 92) dX10_meetAll_64 (by decide) (fun _ => ?_) (fun hh => absurd hc hh)
    exact ab_E.lo [1, 2, 3] rfl K
  | succ k ih =>
    intro i σ h hi K
    have hc : ¬ vI σ a 1 ≤ nI i := by rw [h.2.1]; exact nI_ge (by omega) (by omega)
    refine r_iload_n dX10_meetAll_59 0 rfl ?_
    refine r_aload_n dX10_meetAll_60 2 rfl ?_
    refine s_getI ok_X0 dX10_meetAll_61 (k := 1) (by decide) fl_X10_50 ha rfl ?_
    refine r_icmp_ge (t := 92) dX10_meetAll_64 (by decide) (fun hh => absurd hh hc) (fun _ => ?_)
    refine r_aload_n dX10_meetAll_67 2 rfl ?_
    refine r_iload_n dX10_meetAll_68 0 rfl ?_
    refine x_callV (Y := mX0_isFirst) (d' := 2) dX10_meetAll_69 ml_X10_54 yv_X0_isFirst (by omega) rfl rfl (by simp [Value.category]) (sR_is ha rfl) (c_X0_isFirst σ ha (nI i)) ?_
    refine r_if_eq (t := 86) dX10_meetAll_72 (by decide) (fun c1 => ?_) (fun c1 => ?_)
    · have c1 : (q_in (nI i) (vI σ a 3)) = 0 := c1
      refine r_iinc (v := (nI i) + 1) (lo' := [(3, .int ((nI i) + 1)), (0, .ref (ad 50)), (1, .ref (ad a)), (2, .ref (ad c))]) dX10_meetAll_86 0 rfl rfl (by decide) rfl ?_
      refine r_goto (t := 59) dX10_meetAll_89 (by decide) ?_
      rw [h_ma, if_pos c1] at K
      rw [nI_1]
      exact ab_E.lo [0, 1, 2, 3] rfl (ih (i + 1) _ h (by omega) K)
    · have c1 : ¬ ((q_in (nI i) (vI σ a 3)) = 0) := c1
      refine r_aload_n dX10_meetAll_75 1 rfl ?_
      refine r_iload_n dX10_meetAll_76 0 rfl ?_
      refine r_iconst (v := 0) dX10_meetAll_77 (by decide) ?_
      refine r_iconst (v := 0) dX10_meetAll_78 (by decide) ?_
      refine x_callS (Y := mX10_codeOf) (d' := 1) dX10_meetAll_79 ml_X10_58 ys_X10_codeOf (by omega) rfl rfl (by simp [Value.category]) (c_X10_codeOf σ (nI i) 0 0) ?_
      refine x_callV (Y := mX10_enter) (d' := 4) dX10_meetAll_82 ml_X10_62 yv_X10_enter (by omega) rfl rfl (by simp [Value.category]) (sR_is rfl rfl) (c_X10_enter σ ha hc0 h (h_co (nI i) 0 0)) ?_
      refine r_pop dX10_meetAll_85 rfl ?_
      refine r_iinc (v := (nI i) + 1) (lo' := [(3, .int ((nI i) + 1)), (0, .ref (ad 50)), (1, .ref (ad a)), (2, .ref (ad c))]) dX10_meetAll_86 0 rfl rfl (by decide) rfl ?_
      refine r_goto (t := 59) dX10_meetAll_89 (by decide) ?_
      rw [h_ma, if_neg c1] at K
      rw [nI_1]
      exact ab_E.lo [0, 1, 2, 3] rfl (ih (i + 1) _ (h_en_ok ha h) (by omega) K)
theorem l_X10_mb {ad : Nat → Nat} {a c N Lc : Nat} (ha : la a = (1, 0)) (hc0 : la c = (1, 1)) (hN4 : N ≤ 4) (hL3 : Lc ≤ 3) : ∀ (k i : Nat) (σ : sS), h_ok a c N Lc σ → i + k = 1000 → ab_E (sR ad) mX10_meetAll 6 102 [(3, .int (nI i)), (0, .ref (ad 50)), (1, .ref (ad a)), (2, .ref (ad c))] [] σ (fun r9 σ' => r9 = some (.int (h_ans (h_mb a c N Lc k i σ))) ∧ σ' = (h_mb a c N Lc k i σ).2) := by
  intro k
  induction k with
  | zero =>
    intro i σ h hi
    have hc : (1000 : Int32) ≤ nI i := nI_le (a := 1000) (by omega) (by omega)
    refine r_iload_n dX10_meetAll_102 0 rfl ?_
    refine r_aload_n dX10_meetAll_103 1 rfl ?_
    refine s_getI ok_X10 dX10_meetAll_104 (k := 8) (by decide) fl_X10_47 rfl rfl ?_
    refine r_icmp_ge (t := 133) dX10_meetAll_107 (by decide) (fun c1 => ?_) (fun c1 => ?_)
    · have c1 : (vI σ 50 8) ≤ (nI i) := c1
      refine r_iconst (v := 1) dX10_meetAll_133 (by decide) ?_
      refine r_zret rfl (by decide) dX10_meetAll_134 ?_
      rw [h_mb]; exact ⟨rfl, rfl⟩
    · have c1 : ¬ ((vI σ 50 8) ≤ (nI i)) := c1
      refine r_iload_n dX10_meetAll_110 0 rfl ?_
      refine r_sipush (v := 1000) dX10_meetAll_111 (by decide) ?_
      refine r_icmp_ge (t := 133) dX10_meetAll_114 (by decide) (fun _ => ?_) (fun hh => absurd hc hh)
      refine r_iconst (v := 1) dX10_meetAll_133 (by decide) ?_
      refine r_zret rfl (by decide) dX10_meetAll_134 ?_
      rw [h_mb]; exact ⟨rfl, rfl⟩
  | succ k ih =>
    intro i σ h hi
    have hc : ¬ (1000 : Int32) ≤ nI i := nI_ge (b := 1000) (by omega) (by decide)
    refine r_iload_n dX10_meetAll_102 0 rfl ?_
    refine r_aload_n dX10_meetAll_103 1 rfl ?_
    refine s_getI ok_X10 dX10_meetAll_104 (k := 8) (by decide) fl_X10_47 rfl rfl ?_
    refine r_icmp_ge (t := 133) dX10_meetAll_107 (by decide) (fun c1 => ?_) (fun c1 => ?_)
    · have c1 : (vI σ 50 8) ≤ (nI i) := c1
      refine r_iconst (v := 1) dX10_meetAll_133 (by decide) ?_
      refine r_zret rfl (by decide) dX10_meetAll_134 ?_
      rw [h_mb, if_pos c1]; exact ⟨rfl, rfl⟩
    · have c1 : ¬ ((vI σ 50 8) ≤ (nI i)) := c1
      refine r_iload_n dX10_meetAll_110 0 rfl ?_
      refine r_sipush (v := 1000) dX10_meetAll_111 (by decide) ?_
      refine r_icmp_ge (t := 133) dX10_meetAll_114 (by decide) (fun hh => absurd hh hc) (fun _ => ?_)
      refine r_aload_n dX10_meetAll_117 1 rfl ?_
      refine r_iload_n dX10_meetAll_118 0 rfl ?_
      refine x_callV (Y := mX10_meetFrom) (d' := 5) dX10_meetAll_119 ml_X10_68 yv_X10_meetFrom (by omega) rfl rfl (by simp [Value.category]) (sR_is rfl rfl) (c_X10_meetFrom ha hc0 hN4 hL3 σ h (nI i)) ?_
      refine r_if_ne (t := 127) dX10_meetAll_122 (by decide) (fun c2 => ?_) (fun c2 => ?_)
      · have c2 : ¬ ((h_ans (h_o a c N (nI i) Lc 0 σ)) = 0) := c2
        refine r_iinc (v := (nI i) + 1) (lo' := [(3, .int ((nI i) + 1)), (0, .ref (ad 50)), (1, .ref (ad a)), (2, .ref (ad c))]) dX10_meetAll_127 0 rfl rfl (by decide) rfl ?_
        refine r_goto (t := 102) dX10_meetAll_130 (by decide) ?_
        rw [nI_1, h_mb, if_neg c1, if_neg c2]
        exact ab_E.lo [0, 1, 2, 3] rfl (ih (i + 1) _ (h_o_ok ha _ _ _ h) (by omega))
      · have c2 : (h_ans (h_o a c N (nI i) Lc 0 σ)) = 0 := c2
        refine r_iconst (v := 0) dX10_meetAll_125 (by decide) ?_
        refine r_zret rfl (by decide) dX10_meetAll_126 ?_
        rw [h_mb, if_neg c1, if_pos c2]; exact ⟨rfl, rfl⟩
theorem c_X10_meetAll {ad : Nat → Nat} {a c N Lc : Nat} (ha : la a = (1, 0)) (hc0 : la c = (1, 1)) (hN4 : N ≤ 4) (hL3 : Lc ≤ 3) (σ : sS) (hN : vI σ a 1 = nI N) (hG : vI σ a 2 = nI Lc) (hC : h_c4 σ) : ab_X (sR ad) 6 mX10_meetAll [.ref (ad 50), .ref (ad a), .ref (ad c)] σ (some (.int (h_ans (h_all a c N Lc σ)))) (h_all a c N Lc σ).2 := by
  refine ab_X.of (by decide) (Nat.le_of_ble_eq_true rfl) ?_
  refine r_aload_n dX10_meetAll_0 0 rfl ?_
  refine r_aload_n dX10_meetAll_1 1 rfl ?_
  refine s_putD ok_X10 dX10_meetAll_2 (k := 5) (by decide) fl_X10_32 rfl (fun _ => rfl) (fun _ => rfl) rfl rfl ?_
  refine r_aload_n dX10_meetAll_5 0 rfl ?_
  refine r_aload_n dX10_meetAll_6 2 rfl ?_
  refine s_putD ok_X10 dX10_meetAll_7 (k := 6) (by decide) fl_X10_36 rfl (fun _ => rfl) (fun _ => rfl) rfl rfl ?_
  refine r_aload_n dX10_meetAll_10 0 rfl ?_
  refine s_getR (b := 51) ok_X10 dX10_meetAll_11 (k := 0) (by decide) fl_X10_14 rfl rfl rfl ?_
  refine r_sipush (v := 2400) dX10_meetAll_14 (by decide) ?_
  refine x_callV0 (Y := mX7_wipe) (d' := 3) dX10_meetAll_17 ml_X10_40 yv_X7_wipe (by omega) rfl rfl (by simp [Value.category]) (sR_isR rfl) (c_wipe rfl 2400 (by decide)) ?_
  refine r_aload_n dX10_meetAll_20 0 rfl ?_
  refine s_getR (b := 52) ok_X10 dX10_meetAll_21 (k := 1) (by decide) fl_X10_20 rfl rfl rfl ?_
  refine r_iconst (v := 0) dX10_meetAll_24 (by decide) ?_
  refine s_putU dX10_meetAll_25 fl_X10_43 rfl ?_
  refine r_aload_n dX10_meetAll_28 0 rfl ?_
  refine s_getR (b := 53) ok_X10 dX10_meetAll_29 (k := 2) (by decide) fl_X10_23 rfl rfl rfl ?_
  refine r_iconst (v := 0) dX10_meetAll_32 (by decide) ?_
  refine s_putU dX10_meetAll_33 fl_X10_43 rfl ?_
  refine r_aload_n dX10_meetAll_36 0 rfl ?_
  refine s_getR (b := 54) ok_X10 dX10_meetAll_37 (k := 3) (by decide) fl_X10_26 rfl rfl rfl ?_
  refine r_iconst (v := 0) dX10_meetAll_40 (by decide) ?_
  refine s_putU dX10_meetAll_41 fl_X10_43 rfl ?_
  refine r_aload_n dX10_meetAll_44 0 rfl ?_
  refine s_getR (b := 55) ok_X10 dX10_meetAll_45 (k := 4) (by decide) fl_X10_29 rfl rfl rfl ?_
  refine r_iconst (v := 0) dX10_meetAll_48 (by decide) ?_
  refine s_putU dX10_meetAll_49 fl_X10_43 rfl ?_
  refine r_aload_n dX10_meetAll_52 0 rfl ?_
  refine r_iconst (v := 0) dX10_meetAll_53 (by decide) ?_
  refine s_putI ok_X10 dX10_meetAll_54 (k := 8) (by decide) fl_X10_47 rfl rfl rfl rfl rfl ?_
  refine r_iconst (v := 0) dX10_meetAll_57 (by decide) ?_
  refine r_istore_n (lo' := [(3, .int 0), (0, .ref (ad 50)), (1, .ref (ad a)), (2, .ref (ad c))]) dX10_meetAll_58 (by decide) rfl ?_
  refine ab_E.lo [0, 1, 2, 3] (lo' := [(3, .int (nI 0)), (0, .ref (ad 50)), (1, .ref (ad a)), (2, .ref (ad c))]) rfl (l_X10_ma ha hc0 hN4 hL3 N 0 (h_m0 a c σ) (h_m0_ok ha hN hG hC) (by omega) ?_)
  refine r_aload_n dX10_meetAll_92 0 rfl ?_
  refine r_aload_n dX10_meetAll_93 0 rfl ?_
  refine s_getI ok_X10 dX10_meetAll_94 (k := 8) (by decide) fl_X10_47 rfl rfl ?_
  refine s_putI ok_X10 dX10_meetAll_97 (k := 7) (by decide) fl_X10_65 rfl rfl rfl rfl rfl ?_
  refine r_iconst (v := 0) dX10_meetAll_100 (by decide) ?_
  refine r_istore_n (lo' := [(3, .int 0), (0, .ref (ad 50)), (1, .ref (ad a)), (2, .ref (ad c))]) dX10_meetAll_101 (by decide) rfl ?_
  exact ab_E.lo [0, 1, 2, 3] rfl (l_X10_mb ha hc0 hN4 hL3 1000 0 (h_m1 a c N σ) ((h_ma_ok ha N 0 _ (h_m0_ok ha hN hG hC)).aI ha) (by omega))
