/-! Threes: enter, meetFrom -/
def h_ok (a c N Lc : Nat) (σ : sS) : Prop := h_d a c σ ∧ vI σ a 1 = nI N ∧ vI σ a 2 = nI Lc ∧ uok σ 52 ∧ uok σ 53 ∧ uok σ 54 ∧ uok σ 55
def h_e1 (σ : sS) (t n x y : Int32) : sS := rqu (rqu (rqu (rqu σ 52 t) 53 n) 54 x) 55 y
def h_e2 (σ : sS) (k : Int32) : sS := rp (uI σ 50 8 (vI σ 50 8 + 1)) 51 k (vI (uI σ 50 8 (vI σ 50 8 + 1)) 50 8)
def h_x1 (c : Nat) (σ : sS) (k n : Int32) : Int32 := if k &&& 1 = 1 then (if p_im σ c n = 0 then 0 else 1) else 0
def h_y1 (a c : Nat) (σ : sS) (k t n x : Int32) : Int32 := if k &&& 1 = 1 then (if p_im σ c n = 0 then 1 else 0) else (if q_in t (vI (rqu (rqu (rqu σ 52 t) 53 n) 54 x) a 4) = 0 then 0 else 1)
def h_e3 (a c : Nat) (σ : sS) (k t n : Int32) : sS := h_e2 (h_e1 σ t n (h_x1 c σ k n) (h_y1 a c σ k t n (h_x1 c σ k n))) k
def h_en (a c : Nat) (σ : sS) (k : Int32) : sS := if vI σ 50 8 < 1000 then h_e3 a c σ k (k / 600) ((k / 2) - (k / 2) / 300 * 300) else σ
def h_er (σ : sS) : Int32 := if vI σ 50 8 < 1000 then 1 else 0
theorem la_nq {a r : Nat} {p q : Nat × Nat} (h : la a = p) (k : la r = q) (e : p ≠ q) : a ≠ r := fun x => e (by rw [← h, ← k, x])
theorem uok.e2 {σ : sS} {r : Nat} {k : Int32} (h : uok σ r) : uok (h_e2 σ k) r := by
  have q : uok (uI σ 50 8 (vI σ 50 8 + 1)) r := h.same rfl
  unfold h_e2
  exact q.same rp_2
theorem uok.e1 {σ : sS} {t n x y : Int32} (h4 : uok σ 52) (h5 : uok σ 53) (h6 : uok σ 54) (h7 : uok σ 55) : uok (h_e1 σ t n x y) 52 ∧ uok (h_e1 σ t n x y) 53 ∧ uok (h_e1 σ t n x y) 54 ∧ uok (h_e1 σ t n x y) 55 := by
  unfold h_e1
  exact ⟨(((h4.push t).other (by decide) n).other (by decide) x).other (by decide) y, (((h5.other (by decide) t).push n).other (by decide) x).other (by decide) y, (((h6.other (by decide) t).other (by decide) n).push x).other (by decide) y, (((h7.other (by decide) t).other (by decide) n).other (by decide) x).push y⟩
theorem h_e3_ok {a c N Lc : Nat} (ha : la a = (1, 0)) {σ : sS} {k t n : Int32} (h : h_ok a c N Lc σ) : h_ok a c N Lc (h_e3 a c σ k t n) := by
  obtain ⟨h1, h2, h3, h4, h5, h6, h7⟩ := h
  have e : vI (h_e3 a c σ k t n) a = vI σ a := by
    unfold h_e3 h_e2 h_e1
    rw [rp_I (la_nq ha rfl (by decide)), vI_r (la_nq ha (r := 50) rfl (by decide))]
    exact (rq_I (la_nq ha rfl (by decide))).trans ((rq_I (la_nq ha rfl (by decide))).trans ((rq_I (la_nq ha rfl (by decide))).trans (rq_I (la_nq ha rfl (by decide)))))
  exact ⟨h1.aq.aq.aq.aq.aI.ap, by rw [e]; exact h2, by rw [e]; exact h3, uok.e2 (uok.e1 h4 h5 h6 h7).1, uok.e2 (uok.e1 h4 h5 h6 h7).2.1, uok.e2 (uok.e1 h4 h5 h6 h7).2.2.1, uok.e2 (uok.e1 h4 h5 h6 h7).2.2.2⟩
theorem h_en_ok {a c N Lc : Nat} (ha : la a = (1, 0)) {σ : sS} {k : Int32} (h : h_ok a c N Lc σ) : h_ok a c N Lc (h_en a c σ k) := by
  unfold h_en
  split
  · exact h_e3_ok ha h
  · exact h
theorem c_X10_enter {ad : Nat → Nat} (σ : sS) {a c N Lc : Nat} (ha : la a = (1, 0)) (hc0 : la c = (1, 1)) (h : h_ok a c N Lc σ) (k : Int32) : ab_X (sR ad) 4 mX10_enter [.ref (ad 50), .int k] σ (some (.int (h_er σ))) (h_en a c σ k) := by
  obtain ⟨hD, hN, hG, hu52, hu53, hu54, hu55⟩ := h
  refine ab_X.of (by decide) (Nat.le_of_ble_eq_true rfl) ?_
  refine r_aload_n dX10_enter_0 0 rfl ?_
  refine s_getI ok_X10 dX10_enter_1 (k := 8) (by decide) fl_X10_47 rfl rfl ?_
  refine r_sipush (v := 1000) dX10_enter_4 (by decide) ?_
  refine r_icmp_lt (t := 12) dX10_enter_7 (by decide) (fun c1 => ?_) (fun c1 => ?_)
  · have c1 : (vI σ 50 8) < 1000 := c1
    refine r_iload_n dX10_enter_12 1 rfl ?_
    refine r_sipush (v := 600) dX10_enter_13 (by decide) ?_
    refine r_idiv dX10_enter_16 (by decide) ?_
    refine r_istore_n (lo' := [(2, .int (k / 600)), (0, .ref (ad 50)), (1, .int k)]) dX10_enter_17 (by decide) rfl ?_
    refine r_iload_n dX10_enter_18 2 rfl ?_
    refine r_iconst (v := 2) dX10_enter_19 (by decide) ?_
    refine r_idiv dX10_enter_20 (by decide) ?_
    refine r_sipush (v := 300) dX10_enter_21 (by decide) ?_
    refine r_irem dX10_enter_24 (by decide) ?_
    refine r_istore_n (lo' := [(3, .int ((k / 2) - (k / 2) / 300 * 300)), (2, .int (k / 600)), (0, .ref (ad 50)), (1, .int k)]) dX10_enter_25 (by decide) rfl ?_
    refine r_iload_n dX10_enter_26 3 rfl ?_
    refine r_iconst (v := 1) dX10_enter_27 (by decide) ?_
    refine r_iand dX10_enter_28 ?_
    refine r_iconst (v := 1) dX10_enter_29 (by decide) ?_
    refine r_icmp_ne (t := 37) dX10_enter_30 (by decide) (fun c2 => ?_) (fun c2 => ?_)
    · have c2 : ¬ ((k &&& 1) = 1) := c2
      refine r_iconst (v := 0) dX10_enter_37 (by decide) ?_
      refine r_istore (lo' := [(4, .int 0), (3, .int ((k / 2) - (k / 2) / 300 * 300)), (2, .int (k / 600)), (0, .ref (ad 50)), (1, .int k)]) dX10_enter_38 (by decide) rfl ?_
      refine r_aload_n dX10_enter_40 3 rfl ?_
      refine s_getD (b := c) ok_X10 dX10_enter_41 (k := 6) (by decide) fl_X10_36 rfl rfl hD.2 ?_
      refine r_iload_n dX10_enter_44 1 rfl ?_
      refine x_callV (Y := mX1_isMarked) (d' := 2) dX10_enter_45 ml_X10_85 yv_X1_isMarked (by omega) rfl rfl (by simp [Value.category]) (sR_is hc0 rfl) (c_X1_isMarked σ hc0 ((k / 2) - (k / 2) / 300 * 300)) ?_
      refine r_istore (lo' := [(5, .int (p_im σ c ((k / 2) - (k / 2) / 300 * 300))), (4, .int 0), (3, .int ((k / 2) - (k / 2) / 300 * 300)), (2, .int (k / 600)), (0, .ref (ad 50)), (1, .int k)]) dX10_enter_48 (by decide) rfl ?_
      refine r_aload_n dX10_enter_50 4 rfl ?_
      refine s_getR (b := 52) ok_X10 dX10_enter_51 (k := 1) (by decide) fl_X10_20 rfl rfl rfl ?_
      refine r_iload_n dX10_enter_54 3 rfl ?_
      refine x_callV0 (Y := mX7_push) (d' := 3) dX10_enter_55 ml_X10_90 yv_X7_push (by omega) rfl rfl (by simp [Value.category]) (sR_isR rfl) (c_pushU rfl hu52 (k / 600)) ?_
      refine r_aload_n dX10_enter_58 4 rfl ?_
      refine s_getR (b := 53) ok_X10 dX10_enter_59 (k := 2) (by decide) fl_X10_23 rfl rfl rfl ?_
      refine r_iload_n dX10_enter_62 2 rfl ?_
      refine x_callV0 (Y := mX7_push) (d' := 3) dX10_enter_63 ml_X10_90 yv_X7_push (by omega) rfl rfl (by simp [Value.category]) (sR_isR rfl) (c_pushU rfl (hu53.other (by decide) _) ((k / 2) - (k / 2) / 300 * 300)) ?_
      refine r_aload_n dX10_enter_66 4 rfl ?_
      refine s_getR (b := 54) ok_X10 dX10_enter_67 (k := 3) (by decide) fl_X10_26 rfl rfl rfl ?_
      refine r_iload dX10_enter_70 1 rfl ?_
      refine r_if_eq (t := 84) dX10_enter_72 (by decide) (fun _ => ?_) (fun hh => absurd (by decide) hh)
      refine r_iconst (v := 0) dX10_enter_84 (by decide) ?_
      refine x_callV0 (Y := mX7_push) (d' := 3) dX10_enter_85 ml_X10_90 yv_X7_push (by omega) rfl rfl (by simp [Value.category]) (sR_isR rfl) (c_pushU rfl ((hu54.other (by decide) _).other (by decide) _) 0) ?_
      refine r_aload_n dX10_enter_88 4 rfl ?_
      refine s_getR (b := 55) ok_X10 dX10_enter_89 (k := 4) (by decide) fl_X10_29 rfl rfl rfl ?_
      refine r_iload dX10_enter_92 1 rfl ?_
      refine r_if_eq (t := 105) dX10_enter_94 (by decide) (fun _ => ?_) (fun hh => absurd (by decide) hh)
      refine r_aload_n dX10_enter_105 4 rfl ?_
      refine s_getD (b := a) ok_X10 dX10_enter_106 (k := 5) (by decide) fl_X10_32 rfl rfl hD.aq.aq.aq.1 ?_
      refine r_iload_n dX10_enter_109 3 rfl ?_
      refine x_callV (Y := mX0_isMarked) (d' := 2) dX10_enter_110 ml_X10_93 yv_X0_isMarked (by omega) rfl rfl (by simp [Value.category]) (sR_is ha rfl) (c_X0_isMarked (rqu (rqu (rqu σ 52 (k / 600)) 53 ((k / 2) - (k / 2) / 300 * 300)) 54 0) ha (k / 600)) ?_
      refine r_if_eq (t := 120) dX10_enter_113 (by decide) (fun c3 => ?_) (fun c3 => ?_)
      · have c3 : (q_in (k / 600) (vI (rqu (rqu (rqu σ 52 (k / 600)) 53 ((k / 2) - (k / 2) / 300 * 300)) 54 0) a 4)) = 0 := c3
        refine r_iconst (v := 0) dX10_enter_120 (by decide) ?_
        refine x_callV0 (Y := mX7_push) (d' := 3) dX10_enter_121 ml_X10_90 yv_X7_push (by omega) rfl rfl (by simp [Value.category]) (sR_isR rfl) (c_pushU rfl (((hu55.other (by decide) _).other (by decide) _).other (by decide) _) 0) ?_
        refine r_aload_n dX10_enter_124 4 rfl ?_
        refine r_dup dX10_enter_125 rfl ?_
        refine s_getI ok_X10 dX10_enter_126 (k := 8) (by decide) fl_X10_47 rfl rfl ?_
        refine r_iconst (v := 1) dX10_enter_129 (by decide) ?_
        refine r_iadd dX10_enter_130 ?_
        refine s_putI ok_X10 dX10_enter_131 (k := 8) (by decide) fl_X10_47 rfl rfl rfl rfl rfl ?_
        refine r_aload_n dX10_enter_134 4 rfl ?_
        refine s_getR (b := 51) ok_X10 dX10_enter_135 (k := 0) (by decide) fl_X10_14 rfl rfl rfl ?_
        refine r_iload_n dX10_enter_138 5 rfl ?_
        refine r_aload_n dX10_enter_139 4 rfl ?_
        refine s_getI ok_X10 dX10_enter_140 (k := 8) (by decide) fl_X10_47 rfl rfl ?_
        refine x_callV0 (Y := mX7_put) (d' := 1) dX10_enter_143 ml_X10_94 yv_X7_put (by omega) rfl rfl (by simp [Value.category]) (sR_isR rfl) (c_put rfl k ((vI (rqu (rqu (rqu (rqu σ 52 (k / 600)) 53 ((k / 2) - (k / 2) / 300 * 300)) 54 0) 55 0) 50 8) + 1)) ?_
        refine r_iconst (v := 1) dX10_enter_146 (by decide) ?_
        refine r_zret rfl (by decide) dX10_enter_147 ?_
        exact ⟨by unfold h_er; rw [if_pos c1], by unfold h_en; rw [if_pos c1]; unfold h_e3 h_y1 h_x1; simp only [eq_false c2, eq_true c3, ↓reduceIte]; (try rfl)⟩
      · have c3 : ¬ ((q_in (k / 600) (vI (rqu (rqu (rqu σ 52 (k / 600)) 53 ((k / 2) - (k / 2) / 300 * 300)) 54 0) a 4)) = 0) := c3
        refine r_iconst (v := 1) dX10_enter_116 (by decide) ?_
        refine r_goto (t := 121) dX10_enter_117 (by decide) ?_
        refine x_callV0 (Y := mX7_push) (d' := 3) dX10_enter_121 ml_X10_90 yv_X7_push (by omega) rfl rfl (by simp [Value.category]) (sR_isR rfl) (c_pushU rfl (((hu55.other (by decide) _).other (by decide) _).other (by decide) _) 1) ?_
        refine r_aload_n dX10_enter_124 4 rfl ?_
        refine r_dup dX10_enter_125 rfl ?_
        refine s_getI ok_X10 dX10_enter_126 (k := 8) (by decide) fl_X10_47 rfl rfl ?_
        refine r_iconst (v := 1) dX10_enter_129 (by decide) ?_
        refine r_iadd dX10_enter_130 ?_
        refine s_putI ok_X10 dX10_enter_131 (k := 8) (by decide) fl_X10_47 rfl rfl rfl rfl rfl ?_
        refine r_aload_n dX10_enter_134 4 rfl ?_
        refine s_getR (b := 51) ok_X10 dX10_enter_135 (k := 0) (by decide) fl_X10_14 rfl rfl rfl ?_
        refine r_iload_n dX10_enter_138 5 rfl ?_
        refine r_aload_n dX10_enter_139 4 rfl ?_
        refine s_getI ok_X10 dX10_enter_140 (k := 8) (by decide) fl_X10_47 rfl rfl ?_
        refine x_callV0 (Y := mX7_put) (d' := 1) dX10_enter_143 ml_X10_94 yv_X7_put (by omega) rfl rfl (by simp [Value.category]) (sR_isR rfl) (c_put rfl k ((vI (rqu (rqu (rqu (rqu σ 52 (k / 600)) 53 ((k / 2) - (k / 2) / 300 * 300)) 54 0) 55 1) 50 8) + 1)) ?_
        refine r_iconst (v := 1) dX10_enter_146 (by decide) ?_
        refine r_zret rfl (by decide) dX10_enter_147 ?_
        exact ⟨by unfold h_er; rw [if_pos c1], by unfold h_en; rw [if_pos c1]; unfold h_e3 h_y1 h_x1; simp only [eq_false c2, eq_false c3, ↓reduceIte]; (try rfl)⟩
    · have c2 : (k &&& 1) = 1 := c2
      refine r_iconst (v := 1) dX10_enter_33 (by decide) ?_
      refine r_goto (t := 38) dX10_enter_34 (by decide) ?_
      refine r_istore (lo' := [(4, .int 1), (3, .int ((k / 2) - (k / 2) / 300 * 300)), (2, .int (k / 600)), (0, .ref (ad 50)), (1, .int k)]) dX10_enter_38 (by decide) rfl ?_
      refine r_aload_n dX10_enter_40 3 rfl ?_
      refine s_getD (b := c) ok_X10 dX10_enter_41 (k := 6) (by decide) fl_X10_36 rfl rfl hD.2 ?_
      refine r_iload_n dX10_enter_44 1 rfl ?_
      refine x_callV (Y := mX1_isMarked) (d' := 2) dX10_enter_45 ml_X10_85 yv_X1_isMarked (by omega) rfl rfl (by simp [Value.category]) (sR_is hc0 rfl) (c_X1_isMarked σ hc0 ((k / 2) - (k / 2) / 300 * 300)) ?_
      refine r_istore (lo' := [(5, .int (p_im σ c ((k / 2) - (k / 2) / 300 * 300))), (4, .int 1), (3, .int ((k / 2) - (k / 2) / 300 * 300)), (2, .int (k / 600)), (0, .ref (ad 50)), (1, .int k)]) dX10_enter_48 (by decide) rfl ?_
      refine r_aload_n dX10_enter_50 4 rfl ?_
      refine s_getR (b := 52) ok_X10 dX10_enter_51 (k := 1) (by decide) fl_X10_20 rfl rfl rfl ?_
      refine r_iload_n dX10_enter_54 3 rfl ?_
      refine x_callV0 (Y := mX7_push) (d' := 3) dX10_enter_55 ml_X10_90 yv_X7_push (by omega) rfl rfl (by simp [Value.category]) (sR_isR rfl) (c_pushU rfl hu52 (k / 600)) ?_
      refine r_aload_n dX10_enter_58 4 rfl ?_
      refine s_getR (b := 53) ok_X10 dX10_enter_59 (k := 2) (by decide) fl_X10_23 rfl rfl rfl ?_
      refine r_iload_n dX10_enter_62 2 rfl ?_
      refine x_callV0 (Y := mX7_push) (d' := 3) dX10_enter_63 ml_X10_90 yv_X7_push (by omega) rfl rfl (by simp [Value.category]) (sR_isR rfl) (c_pushU rfl (hu53.other (by decide) _) ((k / 2) - (k / 2) / 300 * 300)) ?_
      refine r_aload_n dX10_enter_66 4 rfl ?_
      refine s_getR (b := 54) ok_X10 dX10_enter_67 (k := 3) (by decide) fl_X10_26 rfl rfl rfl ?_
      refine r_iload dX10_enter_70 1 rfl ?_
      refine r_if_eq (t := 84) dX10_enter_72 (by decide) (fun hh => absurd hh (by decide)) (fun _ => ?_)
      refine r_iload dX10_enter_75 0 rfl ?_
      refine r_if_eq (t := 84) dX10_enter_77 (by decide) (fun c4 => ?_) (fun c4 => ?_)
      · have c4 : (p_im σ c ((k / 2) - (k / 2) / 300 * 300)) = 0 := c4
        refine r_iconst (v := 0) dX10_enter_84 (by decide) ?_
        refine x_callV0 (Y := mX7_push) (d' := 3) dX10_enter_85 ml_X10_90 yv_X7_push (by omega) rfl rfl (by simp [Value.category]) (sR_isR rfl) (c_pushU rfl ((hu54.other (by decide) _).other (by decide) _) 0) ?_
        refine r_aload_n dX10_enter_88 4 rfl ?_
        refine s_getR (b := 55) ok_X10 dX10_enter_89 (k := 4) (by decide) fl_X10_29 rfl rfl rfl ?_
        refine r_iload dX10_enter_92 1 rfl ?_
        refine r_if_eq (t := 105) dX10_enter_94 (by decide) (fun hh => absurd hh (by decide)) (fun _ => ?_)
        refine r_iload dX10_enter_97 0 rfl ?_
        refine r_if_ne (t := 120) dX10_enter_99 (by decide) (fun hh => absurd c4 hh) (fun _ => ?_)
        refine r_goto (t := 116) dX10_enter_102 (by decide) ?_
        refine r_iconst (v := 1) dX10_enter_116 (by decide) ?_
        refine r_goto (t := 121) dX10_enter_117 (by decide) ?_
        refine x_callV0 (Y := mX7_push) (d' := 3) dX10_enter_121 ml_X10_90 yv_X7_push (by omega) rfl rfl (by simp [Value.category]) (sR_isR rfl) (c_pushU rfl (((hu55.other (by decide) _).other (by decide) _).other (by decide) _) 1) ?_
        refine r_aload_n dX10_enter_124 4 rfl ?_
        refine r_dup dX10_enter_125 rfl ?_
        refine s_getI ok_X10 dX10_enter_126 (k := 8) (by decide) fl_X10_47 rfl rfl ?_
        refine r_iconst (v := 1) dX10_enter_129 (by decide) ?_
        refine r_iadd dX10_enter_130 ?_
        refine s_putI ok_X10 dX10_enter_131 (k := 8) (by decide) fl_X10_47 rfl rfl rfl rfl rfl ?_
        refine r_aload_n dX10_enter_134 4 rfl ?_
        refine s_getR (b := 51) ok_X10 dX10_enter_135 (k := 0) (by decide) fl_X10_14 rfl rfl rfl ?_
        refine r_iload_n dX10_enter_138 5 rfl ?_
        refine r_aload_n dX10_enter_139 4 rfl ?_
        refine s_getI ok_X10 dX10_enter_140 (k := 8) (by decide) fl_X10_47 rfl rfl ?_
        refine x_callV0 (Y := mX7_put) (d' := 1) dX10_enter_143 ml_X10_94 yv_X7_put (by omega) rfl rfl (by simp [Value.category]) (sR_isR rfl) (c_put rfl k ((vI (rqu (rqu (rqu (rqu σ 52 (k / 600)) 53 ((k / 2) - (k / 2) / 300 * 300)) 54 0) 55 1) 50 8) + 1)) ?_
        refine r_iconst (v := 1) dX10_enter_146 (by decide) ?_
        refine r_zret rfl (by decide) dX10_enter_147 ?_
        exact ⟨by unfold h_er; rw [if_pos c1], by unfold h_en; rw [if_pos c1]; unfold h_e3 h_y1 h_x1; simp only [eq_true c2, eq_true c4, ↓reduceIte]; (try rfl)⟩
      · have c4 : ¬ ((p_im σ c ((k / 2) - (k / 2) / 300 * 300)) = 0) := c4
        refine r_iconst (v := 1) dX10_enter_80 (by decide) ?_
        refine r_goto (t := 85) dX10_enter_81 (by decide) ?_
        refine x_callV0 (Y := mX7_push) (d' := 3) dX10_enter_85 ml_X10_90 yv_X7_push (by omega) rfl rfl (by simp [Value.category]) (sR_isR rfl) (c_pushU rfl ((hu54.other (by decide) _).other (by decide) _) 1) ?_
        refine r_aload_n dX10_enter_88 4 rfl ?_
        refine s_getR (b := 55) ok_X10 dX10_enter_89 (k := 4) (by decide) fl_X10_29 rfl rfl rfl ?_
        refine r_iload dX10_enter_92 1 rfl ?_
        refine r_if_eq (t := 105) dX10_enter_94 (by decide) (fun hh => absurd hh (by decide)) (fun _ => ?_)
        refine r_iload dX10_enter_97 0 rfl ?_
        refine r_if_ne (t := 120) dX10_enter_99 (by decide) (fun _ => ?_) (fun hh => absurd hh c4)
        refine r_iconst (v := 0) dX10_enter_120 (by decide) ?_
        refine x_callV0 (Y := mX7_push) (d' := 3) dX10_enter_121 ml_X10_90 yv_X7_push (by omega) rfl rfl (by simp [Value.category]) (sR_isR rfl) (c_pushU rfl (((hu55.other (by decide) _).other (by decide) _).other (by decide) _) 0) ?_
        refine r_aload_n dX10_enter_124 4 rfl ?_
        refine r_dup dX10_enter_125 rfl ?_
        refine s_getI ok_X10 dX10_enter_126 (k := 8) (by decide) fl_X10_47 rfl rfl ?_
        refine r_iconst (v := 1) dX10_enter_129 (by decide) ?_
        refine r_iadd dX10_enter_130 ?_
        refine s_putI ok_X10 dX10_enter_131 (k := 8) (by decide) fl_X10_47 rfl rfl rfl rfl rfl ?_
        refine r_aload_n dX10_enter_134 4 rfl ?_
        refine s_getR (b := 51) ok_X10 dX10_enter_135 (k := 0) (by decide) fl_X10_14 rfl rfl rfl ?_
        refine r_iload_n dX10_enter_138 5 rfl ?_
        refine r_aload_n dX10_enter_139 4 rfl ?_
        refine s_getI ok_X10 dX10_enter_140 (k := 8) (by decide) fl_X10_47 rfl rfl ?_
        refine x_callV0 (Y := mX7_put) (d' := 1) dX10_enter_143 ml_X10_94 yv_X7_put (by omega) rfl rfl (by simp [Value.category]) (sR_isR rfl) (c_put rfl k ((vI (rqu (rqu (rqu (rqu σ 52 (k / 600)) 53 ((k / 2) - (k / 2) / 300 * 300)) 54 1) 55 0) 50 8) + 1)) ?_
        refine r_iconst (v := 1) dX10_enter_146 (by decide) ?_
        refine r_zret rfl (by decide) dX10_enter_147 ?_
        exact ⟨by unfold h_er; rw [if_pos c1], by unfold h_en; rw [if_pos c1]; unfold h_e3 h_y1 h_x1; simp only [eq_true c2, eq_false c4, ↓reduceIte]; (try rfl)⟩
  · have c1 : ¬ ((vI σ 50 8) < 1000) := c1
    refine r_iconst (v := 0) dX10_enter_10 (by decide) ?_
    refine r_zret rfl (by decide) dX10_enter_11 ?_
    exact ⟨by unfold h_er; rw [if_neg c1], by unfold h_en; rw [if_neg c1]⟩
def h_i (a c N : Nat) (v s : Int32) : Nat → Nat → sS → Bool × sS
  | 0, _, σ => (false, σ)
  | k + 1, i, σ => if rg σ 51 (h_ca a c N σ v s (nI i)) = 0 then (if h_er σ = 0 then (true, h_en a c σ (h_ca a c N σ v s (nI i))) else h_i a c N v s k (i + 1) (h_en a c σ (h_ca a c N σ v s (nI i)))) else h_i a c N v s k (i + 1) σ
def h_o (a c N : Nat) (v : Int32) : Nat → Nat → sS → Bool × sS
  | 0, _, σ => (false, σ)
  | k + 1, s, σ => if (h_i a c N v (nI s) (h_fn a c σ v (nI s)).toNatClampNeg 0 σ).1 = true then h_i a c N v (nI s) (h_fn a c σ v (nI s)).toNatClampNeg 0 σ else h_o a c N v k (s + 1) (h_i a c N v (nI s) (h_fn a c σ v (nI s)).toNatClampNeg 0 σ).2
def h_ans (r : Bool × sS) : Int32 := if r.1 = true then 0 else 1
theorem h_i_ok {a c N Lc : Nat} (ha : la a = (1, 0)) {v s : Int32} : ∀ (k i : Nat) (σ : sS), h_ok a c N Lc σ → h_ok a c N Lc (h_i a c N v s k i σ).2 := by
  intro k
  induction k with
  | zero => intro i σ h; exact h
  | succ k ih =>
    intro i σ h
    rw [h_i]
    split
    · split
      · exact h_en_ok ha h
      · exact ih _ _ (h_en_ok ha h)
    · exact ih _ _ h
theorem h_o_ok {a c N Lc : Nat} (ha : la a = (1, 0)) {v : Int32} : ∀ (k s : Nat) (σ : sS), h_ok a c N Lc σ → h_ok a c N Lc (h_o a c N v k s σ).2 := by
  intro k
  induction k with
  | zero => intro s σ h; exact h
  | succ k ih =>
    intro s σ h
    rw [h_o]
    split
    · exact h_i_ok ha _ _ _ h
    · exact ih _ _ (h_i_ok ha _ _ _ h)
theorem l_X10_i {ad : Nat → Nat} {a c N Lc : Nat} (ha : la a = (1, 0)) (hc0 : la c = (1, 1)) (hN4 : N ≤ 4) (hL3 : Lc ≤ 3) {v x : Int32} {s : Nat} {Q : Option Value → sS → Prop} : ∀ (k i : Nat) (σ : sS), h_ok a c N Lc σ → i ≤ x.toNatClampNeg → k = x.toNatClampNeg - i → ((h_i a c N v (nI s) k i σ).1 = false → ab_E (sR ad) mX10_meetFrom 5 68 [(2, .int (nI s)), (0, .ref (ad 50)), (1, .int v)] [] (h_i a c N v (nI s) k i σ).2 Q) → ((h_i a c N v (nI s) k i σ).1 = true → Q (some (.int 0)) (h_i a c N v (nI s) k i σ).2) → ab_E (sR ad) mX10_meetFrom 5 23 [(4, .int (nI i)), (3, .int x), (2, .int (nI s)), (0, .ref (ad 50)), (1, .int v)] [] σ Q := by
  intro k
  induction k with
  | zero =>
    intro i σ h hi2 hi K R
    have hx := cl_lt (i := x)
    have hc : x ≤ nI i := (le_cl (by omega)).mpr (by omega)
    refine r_iload dX10_meetFrom_23 0 rfl ?_
    refine r_iload_n dX10_meetFrom_25 1 rfl ?_
    refine r_icmp_ge (t := 68) dX10_meetFrom_26 (by decide) (fun _ => ?_) (fun hh => absurd hc hh)
    exact ab_E.lo [2, 3, 4] rfl (K rfl)
  | succ k ih =>
    intro i σ h hi2 hi K R
    have hx := cl_lt (i := x)
    have hc : ¬ x ≤ nI i := fun q => absurd ((le_cl (by omega)).mp q) (by omega)
    refine r_iload dX10_meetFrom_23 0 rfl ?_
    refine r_iload_n dX10_meetFrom_25 1 rfl ?_
    refine r_icmp_ge (t := 68) dX10_meetFrom_26 (by decide) (fun hh => absurd hh hc) (fun _ => ?_)
    refine r_aload_n dX10_meetFrom_29 3 rfl ?_
    refine r_iload_n dX10_meetFrom_30 4 rfl ?_
    refine r_iload_n dX10_meetFrom_31 2 rfl ?_
    refine r_iload dX10_meetFrom_32 0 rfl ?_
    refine x_callV (Y := mX10_codeAfter) (d' := 4) dX10_meetFrom_34 ml_X10_78 yv_X10_codeAfter (by omega) rfl rfl (by simp [Value.category]) (sR_is rfl rfl) (c_X10_codeAfter σ ha hc0 hN4 h.2.1 h.1 v (nI s) (nI i)) ?_
    refine r_istore (lo' := [(5, .int (h_ca a c N σ v (nI s) (nI i))), (4, .int (nI i)), (3, .int x), (2, .int (nI s)), (0, .ref (ad 50)), (1, .int v)]) dX10_meetFrom_37 (by decide) rfl ?_
    refine r_aload_n dX10_meetFrom_39 4 rfl ?_
    refine s_getR (b := 51) ok_X10 dX10_meetFrom_40 (k := 0) (by decide) fl_X10_14 rfl rfl rfl ?_
    refine r_iload dX10_meetFrom_43 0 rfl ?_
    refine x_callV (Y := mX7_get) (d' := 1) dX10_meetFrom_45 ml_X10_81 yv_X7_get (by omega) rfl rfl (by simp [Value.category]) (sR_isR rfl) (c_get rfl (h_ca a c N σ v (nI s) (nI i))) ?_
    refine r_if_ne (t := 62) dX10_meetFrom_48 (by decide) (fun c1 => ?_) (fun c1 => ?_)
    · have c1 : ¬ ((rg σ 51 (h_ca a c N σ v (nI s) (nI i))) = 0) := c1
      refine r_iinc (v := (nI i) + 1) (lo' := [(4, .int ((nI i) + 1)), (5, .int (h_ca a c N σ v (nI s) (nI i))), (3, .int x), (2, .int (nI s)), (0, .ref (ad 50)), (1, .int v)]) dX10_meetFrom_62 1 rfl rfl (by decide) rfl ?_
      refine r_goto (t := 23) dX10_meetFrom_65 (by decide) ?_
      rw [h_i, if_neg c1] at K R
      rw [nI_1]
      exact ab_E.lo [0, 2, 3, 4, 5] rfl (ih (i + 1) _ h (by omega) (by omega) K R)
    · have c1 : (rg σ 51 (h_ca a c N σ v (nI s) (nI i))) = 0 := c1
      refine r_aload_n dX10_meetFrom_51 4 rfl ?_
      refine r_iload dX10_meetFrom_52 0 rfl ?_
      refine x_callV (Y := mX10_enter) (d' := 4) dX10_meetFrom_54 ml_X10_62 yv_X10_enter (by omega) rfl rfl (by simp [Value.category]) (sR_is rfl rfl) (c_X10_enter σ ha hc0 h (h_ca a c N σ v (nI s) (nI i))) ?_
      refine r_if_ne (t := 62) dX10_meetFrom_57 (by decide) (fun c2 => ?_) (fun c2 => ?_)
      · have c2 : ¬ ((h_er σ) = 0) := c2
        refine r_iinc (v := (nI i) + 1) (lo' := [(4, .int ((nI i) + 1)), (5, .int (h_ca a c N σ v (nI s) (nI i))), (3, .int x), (2, .int (nI s)), (0, .ref (ad 50)), (1, .int v)]) dX10_meetFrom_62 1 rfl rfl (by decide) rfl ?_
        refine r_goto (t := 23) dX10_meetFrom_65 (by decide) ?_
        rw [h_i, if_pos c1, if_neg c2] at K R
        rw [nI_1]
        exact ab_E.lo [0, 2, 3, 4, 5] rfl (ih (i + 1) _ (h_en_ok ha h) (by omega) (by omega) K R)
      · have c2 : (h_er σ) = 0 := c2
        refine r_iconst (v := 0) dX10_meetFrom_60 (by decide) ?_
        refine r_zret rfl (by decide) dX10_meetFrom_61 ?_
        rw [h_i, if_pos c1, if_pos c2] at R
        exact R rfl
theorem l_X10_o {ad : Nat → Nat} {a c N Lc : Nat} (ha : la a = (1, 0)) (hc0 : la c = (1, 1)) (hN4 : N ≤ 4) (hL3 : Lc ≤ 3) {v : Int32} : ∀ (k s : Nat) (σ : sS), h_ok a c N Lc σ → s + k = Lc → ab_E (sR ad) mX10_meetFrom 5 2 [(2, .int (nI s)), (0, .ref (ad 50)), (1, .int v)] [] σ (fun r9 σ' => r9 = some (.int (h_ans (h_o a c N v k s σ))) ∧ σ' = (h_o a c N v k s σ).2) := by
  intro k
  induction k with
  | zero =>
    intro s σ h hs
    have hc : vI σ a 2 ≤ nI s := by rw [h.2.2.1]; exact nI_le (by omega) (by omega)
    refine r_iload_n dX10_meetFrom_2 0 rfl ?_
    refine r_aload_n dX10_meetFrom_3 1 rfl ?_
    refine s_getD (b := a) ok_X10 dX10_meetFrom_4 (k := 5) (by decide) fl_X10_32 rfl rfl h.1.1 ?_
    refine s_getI ok_X0 dX10_meetFrom_7 (k := 2) (by decide) fl_X10_71 ha rfl ?_
    refine r_icmp_ge (t := 74) dX10_meetFrom_10 (by decide) (fun _ => ?_) (fun hh => absurd hc hh)
    refine r_iconst (v := 1) dX10_meetFrom_74 (by decide) ?_
    refine r_zret rfl (by decide) dX10_meetFrom_75 ?_
    exact ⟨rfl, rfl⟩
  | succ k ih =>
    intro s σ h hs
    have hc : ¬ vI σ a 2 ≤ nI s := by rw [h.2.2.1]; exact nI_ge (by omega) (by omega)
    refine r_iload_n dX10_meetFrom_2 0 rfl ?_
    refine r_aload_n dX10_meetFrom_3 1 rfl ?_
    refine s_getD (b := a) ok_X10 dX10_meetFrom_4 (k := 5) (by decide) fl_X10_32 rfl rfl h.1.1 ?_
    refine s_getI ok_X0 dX10_meetFrom_7 (k := 2) (by decide) fl_X10_71 ha rfl ?_
    refine r_icmp_ge (t := 74) dX10_meetFrom_10 (by decide) (fun hh => absurd hh hc) (fun _ => ?_)
    refine r_aload_n dX10_meetFrom_13 1 rfl ?_
    refine r_iload_n dX10_meetFrom_14 2 rfl ?_
    refine r_iload_n dX10_meetFrom_15 0 rfl ?_
    refine x_callV (Y := mX10_fan) (d' := 4) dX10_meetFrom_16 ml_X10_74 yv_X10_fan (by omega) rfl rfl (by simp [Value.category]) (sR_is rfl rfl) (c_X10_fan σ ha hc0 hN4 h.2.1 h.1 v (nI s)) ?_
    refine r_istore_n (lo' := [(3, .int (h_fn a c σ v (nI s))), (2, .int (nI s)), (0, .ref (ad 50)), (1, .int v)]) dX10_meetFrom_19 (by decide) rfl ?_
    refine r_iconst (v := 0) dX10_meetFrom_20 (by decide) ?_
    refine r_istore (lo' := [(4, .int 0), (3, .int (h_fn a c σ v (nI s))), (2, .int (nI s)), (0, .ref (ad 50)), (1, .int v)]) dX10_meetFrom_21 (by decide) rfl ?_
    refine ab_E.lo [0, 1, 2, 3, 4] (lo' := [(4, .int (nI 0)), (3, .int (h_fn a c σ v (nI s))), (2, .int (nI s)), (0, .ref (ad 50)), (1, .int v)]) rfl (l_X10_i ha hc0 hN4 hL3 (h_fn a c σ v (nI s)).toNatClampNeg 0 σ h (Nat.zero_le _) rfl (fun hq => ?_) (fun hq => ?_))
    rotate_left
    · rw [h_o, if_pos hq]; unfold h_ans; rw [if_pos hq]; exact ⟨rfl, rfl⟩
    refine r_iinc (v := (nI s) + 1) (lo' := [(2, .int ((nI s) + 1)), (0, .ref (ad 50)), (1, .int v)]) dX10_meetFrom_68 0 rfl rfl (by decide) rfl ?_
    refine r_goto (t := 2) dX10_meetFrom_71 (by decide) ?_
    rw [nI_1, h_o, if_neg (by show ¬ (h_i a c N v (nI s) (h_fn a c σ v (nI s)).toNatClampNeg 0 σ).1 = true; rw [show (h_i a c N v (nI s) (h_fn a c σ v (nI s)).toNatClampNeg 0 σ).1 = false from hq]; decide)]
    exact ab_E.lo [0, 1, 2] rfl (ih (s + 1) _ (h_i_ok ha _ _ _ h) (by omega))
theorem c_X10_meetFrom {ad : Nat → Nat} {a c N Lc : Nat} (ha : la a = (1, 0)) (hc0 : la c = (1, 1)) (hN4 : N ≤ 4) (hL3 : Lc ≤ 3) (σ : sS) (h : h_ok a c N Lc σ) (v : Int32) : ab_X (sR ad) 5 mX10_meetFrom [.ref (ad 50), .int v] σ (some (.int (h_ans (h_o a c N v Lc 0 σ)))) (h_o a c N v Lc 0 σ).2 := by
  refine ab_X.of (by decide) (Nat.le_of_ble_eq_true rfl) ?_
  refine r_iconst (v := 0) dX10_meetFrom_0 (by decide) ?_
  refine r_istore_n (lo' := [(2, .int 0), (0, .ref (ad 50)), (1, .int v)]) dX10_meetFrom_1 (by decide) rfl ?_
  exact l_X10_o ha hc0 hN4 hL3 Lc 0 σ h (by omega)
