/-! Complement: from a node on; all nodes -/
def p_ct (σ : sS) : Nat := (vI σ 15 1).toNatClampNeg
def p_gr (c : Nat) (t g : Int32) (σ : sS) : sS := p_gp c t 0 (p_ct (k_fu σ t (vI σ (c - 6) 4) g (k_lv g))) 0 (k_fu σ t (vI σ (c - 6) 4) g (k_lv g))
def p_gg (c : Nat) (t most : Int32) : Nat → Int32 → sS → sS
  | 0, _, σ => σ
  | n + 1, g, σ => if most < g then σ else p_gg c t most n (g + 2) (p_gr c t g σ)
def p_fs (σ : sS) (c : Nat) (t : Int32) : sS := p_gg c t (k_gt t (vI (rqu (p_mt σ c t) (c + 9) (p_ma σ c t)) (c - 6) 4)) 64 1 (rqu (p_mt σ c t) (c + 9) (p_ma σ c t))
def p_ab (σ : sS) (c : Nat) (k s : Int32) (N : Nat) (t : Int32) : sS := k_fu σ t (vI σ (c - 6) 4) (k_go (p_lw k)) (p_ca σ (c - 6) k s N N)
def p_fp (σ : sS) (c : Nat) (k s : Int32) (N : Nat) (t : Int32) : sS := p_gp c t (if (k >>> ((4 : Int32) &&& 31)) &&& 15 = 0 then t else a_rc (p_ab σ c k s N t) (c - 6) ((k >>> ((4 : Int32) &&& 31)) &&& 15) s N) (p_ct (p_ab σ c k s N t)) 0 (p_ab σ c k s N t)
def p_gf (σ : sS) (c : Nat) (k s : Int32) (N : Nat) : sS := if k &&& 1048576 = 0 then p_fs σ c (a_rc σ (c - 6) (k &&& 15) s N) else p_fp σ c k s N (a_rc σ (c - 6) (k &&& 15) s N)
/-- what changes only what the complement at c meets its nodes with -/
def p_ok (c : Nat) (σ τ : sS) : Prop := (∀ b, b ≠ c → b ≠ c + 3 → b ≠ 26 → b ≠ c + 9 → b ≠ 15 → b ≠ 16 → vI τ b = vI σ b) ∧ (uok σ (c + 9) → uok τ (c + 9)) ∧ (uok σ (c + 6) → uok τ (c + 6))
theorem p_ok.rf {c : Nat} {σ : sS} : p_ok c σ σ := ⟨fun _ _ _ _ _ _ _ => rfl, id, id⟩
theorem p_ok.tr {c : Nat} {σ τ υ : sS} (h1 : p_ok c σ τ) (h2 : p_ok c τ υ) : p_ok c σ υ := ⟨fun b a1 a2 a3 a4 a5 a6 => (h2.1 b a1 a2 a3 a4 a5 a6).trans (h1.1 b a1 a2 a3 a4 a5 a6), fun h => h2.2.1 (h1.2.1 h), fun h => h2.2.2 (h1.2.2 h)⟩
theorem p_ok.mt {c : Nat} {σ : sS} {k : Int32} : p_ok c σ (p_mt σ c k) := ⟨fun b a1 a2 a3 _ _ _ => p_mt_I a1 a2 a3, fun h => h.same p_mt_2, fun h => h.same p_mt_2⟩
theorem p_ok.ps {c : Nat} {σ : sS} {x : Int32} : p_ok c σ (rqu σ (c + 9) x) := ⟨fun b _ _ _ a4 _ _ => rq_I a4, fun h => h.push x, fun h => h.other (by omega) x⟩
theorem p_ok.fu {c : Nat} {σ : sS} {t f g a : Int32} : p_ok c σ (k_fu σ t f g a) := ⟨fun b _ _ _ _ a5 a6 => k_fu_I a5 a6, fun h => h.same k_fu_2, fun h => h.same k_fu_2⟩
theorem p_ok.gp {c : Nat} {t mo : Int32} : ∀ (n i : Nat) (σ : sS), p_ok c σ (p_gp c t mo n i σ) := by
  intro n
  induction n with
  | zero => intro i σ; exact p_ok.rf
  | succ n ih =>
    intro i σ
    rw [p_gp]
    by_cases h : vI σ c 6 = 2
    · rw [if_pos h]; exact p_ok.rf
    · rw [if_neg h]; exact (p_ok.mt.tr p_ok.ps).tr (ih (i + 1) _)
theorem p_ok.gg {c : Nat} {t m : Int32} : ∀ (n : Nat) (g : Int32) (σ : sS), p_ok c σ (p_gg c t m n g σ) := by
  intro n
  induction n with
  | zero => intro i σ; exact p_ok.rf
  | succ n ih =>
    intro g σ
    rw [p_gg]
    by_cases h : m < g
    · rw [if_pos h]; exact p_ok.rf
    · rw [if_neg h]; exact (p_ok.fu.tr (p_ok.gp _ _ _)).tr (ih (g + 2) _)
theorem p_ok.gf {c : Nat} {σ : sS} {k s : Int32} {N : Nat} : p_ok c σ (p_gf σ c k s N) := by
  unfold p_gf
  by_cases h : k &&& 1048576 = 0
  · rw [if_pos h]; exact (p_ok.mt.tr p_ok.ps).tr (p_ok.gg _ _ _)
  · rw [if_neg h]; exact p_ok.fu.tr (p_ok.gp _ _ _)
theorem k_gt_lt (t f : Int32) {j : Nat} (h1 : 127 ≤ j) (h2 : j < 2 ^ 31) : k_gt t f < nI j := by
  obtain ⟨b, hb, e⟩ := pk_andE (bc5 (bc4 (bc3 (bc2 (bc1 (t &&& (f ^^^ (-1)))))))) (m := 63) 6 (by decide)
  have e1 : k_gt t f = nI 2 * nI b - 1 := by
    unfold k_gt bc
    rw [e]
    rfl
  rw [e1, pk_mul]
  cases b with
  | zero => exact Int32.lt_of_lt_of_le (by decide : nI (2 * 0) - 1 < nI 127) (nI_le h1 h2)
  | succ b =>
    rw [show 2 * (b + 1) = (2 * b + 1) + 1 by omega, nI_pred]
    exact nI_lt (by omega) h2
theorem p_ct_eq {σ : sS} {m : Nat} (h : vI σ 15 1 = nI m) (hm : m ≤ 4096) : p_ct σ = m := by unfold p_ct; rw [h, nI_clamp (by omega)]
theorem c_gp {ad : Nat → Nat} (σ : sS) {c : Nat} (hc0 : la c = (1, 1)) (hu : uok σ (c + 9)) (t f g a mo : Int32) : ab_X (sR ad) 4 mX1_goToPairs [.ref (ad c), .int t, .int mo] (k_fu σ t f g a) none (p_gp c t mo (p_ct (k_fu σ t f g a)) 0 (k_fu σ t f g a)) := by
  obtain ⟨m, e, l⟩ := k_fu_c σ t f g a
  rw [p_ct_eq e l]
  exact c_X1_goToPairs _ hc0 e (by omega) (hu.same k_fu_2) t mo
theorem l_X1_gg {ad : Nat → Nat} {c : Nat} (hc0 : la c = (1, 1)) {t most k s : Int32} (hmost : ∀ j : Nat, 127 ≤ j → j < 2 ^ 31 → most < nI j) : ∀ (n j : Nat) (σ : sS), uok σ (c + 9) → 127 ≤ j + 2 * n → j + 2 * n ≤ 200 → ab_E (sR ad) mX1_goFrom 8 48 [(5, .int (nI j)), (4, .int most), (3, .int t), (0, .ref (ad c)), (1, .int k), (2, .int s)] [] σ (fun r σ' => r = none ∧ σ' = p_gg c t most n (nI j) σ) := by
  intro n
  induction n with
  | zero =>
    intro j σ hu h1 h2
    have hc : most < nI j := hmost j (by omega) (by omega)
    refine r_iload dX1_goFrom_48 0 rfl ?_
    refine r_iload dX1_goFrom_50 1 rfl ?_
    refine r_icmp_gt (t := 89) dX1_goFrom_52 (by decide) (fun _ => ?_) (fun hh => absurd hc hh)
    refine r_goto (t := 164) dX1_goFrom_89 (by decide) ?_
    refine r_vret rfl dX1_goFrom_164 ?_
    exact ⟨rfl, rfl⟩
  | succ n ih =>
    intro j σ hu h1 h2
    refine r_iload dX1_goFrom_48 0 rfl ?_
    refine r_iload dX1_goFrom_50 1 rfl ?_
    refine r_icmp_gt (t := 89) dX1_goFrom_52 (by decide) (fun c1 => ?_) (fun c1 => ?_)
    · have c1 : most < (nI j) := c1
      refine r_goto (t := 164) dX1_goFrom_89 (by decide) ?_
      refine r_vret rfl dX1_goFrom_164 ?_
      exact ⟨rfl, by rw [p_gg, if_pos c1]⟩
    · have c1 : ¬ (most < (nI j)) := c1
      refine r_aload_n dX1_goFrom_55 3 rfl ?_
      refine s_getR (b := 15) ok_X1 dX1_goFrom_56 (k := 1) (by decide) fl_X1_30 hc0 rfl (cq_s1 hc0) ?_
      refine r_iload_n dX1_goFrom_59 2 rfl ?_
      refine r_aload_n dX1_goFrom_60 3 rfl ?_
      refine s_getR (b := c - 6) ok_X1 dX1_goFrom_61 (k := 0) (by decide) fl_X1_26 hc0 rfl (cq_s0 hc0) ?_
      refine s_getI ok_X0 dX1_goFrom_64 (k := 4) (by decide) fl_X1_83 (cq_m hc0) rfl ?_
      refine r_iload dX1_goFrom_67 0 rfl ?_
      refine r_iload dX1_goFrom_69 0 rfl ?_
      refine x_callS (Y := mX4_level) (d' := 2) dX1_goFrom_71 ml_X1_91 ys_X4_level (by omega) rfl rfl (by simp [Value.category]) (c_X4_level σ (nI j)) ?_
      refine x_callV0 (Y := mX4_findUnder) (d' := 7) dX1_goFrom_74 ml_X1_94 yv_X4_findUnder (by omega) rfl rfl (by simp [Value.category]) (sR_is rfl rfl) (c_X4_findUnder σ t (vI σ (c - 6) 4) (nI j) (k_lv (nI j))) ?_
      refine r_aload_n dX1_goFrom_77 3 rfl ?_
      refine r_iload_n dX1_goFrom_78 2 rfl ?_
      refine r_iconst (v := 0) dX1_goFrom_79 (by decide) ?_
      refine x_callV0 (Y := mX1_goToPairs) (d' := 4) dX1_goFrom_80 ml_X1_98 yv_X1_goToPairs (by omega) rfl rfl (by simp [Value.category]) (sR_is hc0 rfl) (c_gp σ hc0 hu _ _ _ _ 0) ?_
      refine r_iinc (v := (nI j) + 2) (lo' := [(5, .int ((nI j) + 2)), (4, .int most), (3, .int t), (0, .ref (ad c)), (1, .int k), (2, .int s)]) dX1_goFrom_83 0 rfl rfl (by decide) rfl ?_
      refine r_goto (t := 48) dX1_goFrom_86 (by decide) ?_
      have e2 : nI j + 2 = nI (j + 2) := nI_add j 2
      rw [e2, p_gg, if_neg c1, e2]
      exact ab_E.lo [0, 1, 2, 3, 4, 5] rfl (ih (j + 2) (p_gr c t (nI j) σ) ((p_ok.fu.tr (p_ok.gp _ _ _)).2.1 hu) (by omega) (by omega))
set_option maxRecDepth 4000 in
theorem c_X1_goFrom {ad : Nat → Nat} (σ : sS) {c N : Nat} (hc0 : la c = (1, 1)) (hN : vI σ (c - 6) 1 = nI N) (hN4 : N ≤ 4) (hu : uok σ (c + 9)) (k s : Int32) : ab_X (sR ad) 8 mX1_goFrom [.ref (ad c), .int k, .int s] σ none (p_gf σ c k s N) := by
  refine ab_X.of (by decide) (Nat.le_of_ble_eq_true rfl) ?_
  refine r_aload_n dX1_goFrom_0 0 rfl ?_
  refine s_getR (b := c - 6) ok_X1 dX1_goFrom_1 (k := 0) (by decide) fl_X1_26 hc0 rfl (cq_s0 hc0) ?_
  refine r_iload_n dX1_goFrom_4 1 rfl ?_
  refine r_bipush (v := 15) dX1_goFrom_5 (by decide) ?_
  refine r_iand dX1_goFrom_7 ?_
  refine r_iload_n dX1_goFrom_8 2 rfl ?_
  refine x_callV (Y := mX0_reach) (d' := 3) dX1_goFrom_9 ml_X1_78 yv_X0_reach (by omega) rfl rfl (by simp [Value.category]) (sR_is (cq_m hc0) rfl) (c_X0_reach σ (cq_m hc0) hN hN4 (k &&& 15) s) ?_
  refine r_istore_n (lo' := [(3, .int (a_rc σ (c - 6) (k &&& 15) s N)), (0, .ref (ad c)), (1, .int k), (2, .int s)]) dX1_goFrom_12 (by decide) rfl ?_
  refine r_iload_n dX1_goFrom_13 2 rfl ?_
  refine r_ldc (v := 1048576) dX1_goFrom_14 co_X1_82 ?_
  refine r_iand dX1_goFrom_16 ?_
  refine r_if_ne (t := 92) dX1_goFrom_17 (by decide) (fun c1 => ?_) (fun c1 => ?_)
  · have c1 : ¬ ((k &&& 1048576) = 0) := c1
    refine r_aload_n dX1_goFrom_92 1 rfl ?_
    refine r_iload_n dX1_goFrom_93 2 rfl ?_
    refine r_iload_n dX1_goFrom_94 3 rfl ?_
    refine x_callV (Y := mX1_capsAfter) (d' := 4) dX1_goFrom_95 ml_X1_101 yv_X1_capsAfter (by omega) rfl rfl (by simp [Value.category]) (sR_is hc0 rfl) (c_X1_capsAfter σ hc0 hN hN4 k s) ?_
    refine r_istore (lo' := [(4, .int (p_ca σ (c - 6) k s N N)), (3, .int (a_rc σ (c - 6) (k &&& 15) s N)), (0, .ref (ad c)), (1, .int k), (2, .int s)]) dX1_goFrom_98 (by decide) rfl ?_
    refine r_iload_n dX1_goFrom_100 3 rfl ?_
    refine r_bipush (v := 8) dX1_goFrom_101 (by decide) ?_
    refine r_ishr dX1_goFrom_103 ?_
    refine r_sipush (v := 4095) dX1_goFrom_104 (by decide) ?_
    refine r_iand dX1_goFrom_107 ?_
    refine x_callS (Y := mX4_greatestOf) (d' := 2) dX1_goFrom_108 ml_X1_104 ys_X4_greatestOf (by omega) rfl rfl (by simp [Value.category]) (c_X4_greatestOf σ (p_lw k)) ?_
    refine r_istore (lo' := [(5, .int (k_go (p_lw k))), (4, .int (p_ca σ (c - 6) k s N N)), (3, .int (a_rc σ (c - 6) (k &&& 15) s N)), (0, .ref (ad c)), (1, .int k), (2, .int s)]) dX1_goFrom_111 (by decide) rfl ?_
    refine r_aload_n dX1_goFrom_113 3 rfl ?_
    refine s_getR (b := 15) ok_X1 dX1_goFrom_114 (k := 1) (by decide) fl_X1_30 hc0 rfl (cq_s1 hc0) ?_
    refine r_iload_n dX1_goFrom_117 2 rfl ?_
    refine r_aload_n dX1_goFrom_118 3 rfl ?_
    refine s_getR (b := c - 6) ok_X1 dX1_goFrom_119 (k := 0) (by decide) fl_X1_26 hc0 rfl (cq_s0 hc0) ?_
    refine s_getI ok_X0 dX1_goFrom_122 (k := 4) (by decide) fl_X1_83 (cq_m hc0) rfl ?_
    refine r_iload dX1_goFrom_125 0 rfl ?_
    refine r_iload dX1_goFrom_127 1 rfl ?_
    refine x_callV0 (Y := mX4_findUnder) (d' := 7) dX1_goFrom_129 ml_X1_94 yv_X4_findUnder (by omega) rfl rfl (by simp [Value.category]) (sR_is rfl rfl) (c_X4_findUnder σ (a_rc σ (c - 6) (k &&& 15) s N) (vI σ (c - 6) 4) (k_go (p_lw k)) (p_ca σ (c - 6) k s N N)) ?_
    refine r_iload_n dX1_goFrom_132 4 rfl ?_
    refine r_iconst (v := 4) dX1_goFrom_133 (by decide) ?_
    refine r_ishr dX1_goFrom_134 ?_
    refine r_bipush (v := 15) dX1_goFrom_135 (by decide) ?_
    refine r_iand dX1_goFrom_137 ?_
    refine r_istore (lo' := [(6, .int ((k >>> ((4 : Int32) &&& 31)) &&& 15)), (5, .int (k_go (p_lw k))), (4, .int (p_ca σ (c - 6) k s N N)), (3, .int (a_rc σ (c - 6) (k &&& 15) s N)), (0, .ref (ad c)), (1, .int k), (2, .int s)]) dX1_goFrom_138 (by decide) rfl ?_
    refine r_aload_n dX1_goFrom_140 4 rfl ?_
    refine r_iload_n dX1_goFrom_141 3 rfl ?_
    refine r_iload dX1_goFrom_142 0 rfl ?_
    refine r_if_ne (t := 151) dX1_goFrom_144 (by decide) (fun c2 => ?_) (fun c2 => ?_)
    · have c2 : ¬ (((k >>> ((4 : Int32) &&& 31)) &&& 15) = 0) := c2
      refine r_aload_n dX1_goFrom_151 4 rfl ?_
      refine s_getR (b := c - 6) ok_X1 dX1_goFrom_152 (k := 0) (by decide) fl_X1_26 hc0 rfl (cq_s0 hc0) ?_
      refine r_iload dX1_goFrom_155 0 rfl ?_
      refine r_iload_n dX1_goFrom_157 6 rfl ?_
      refine x_callV (Y := mX0_reach) (d' := 3) dX1_goFrom_158 ml_X1_78 yv_X0_reach (by omega) rfl rfl (by simp [Value.category]) (sR_is (cq_m hc0) rfl) (c_X0_reach (k_fu σ (a_rc σ (c - 6) (k &&& 15) s N) (vI σ (c - 6) 4) (k_go (p_lw k)) (p_ca σ (c - 6) k s N N)) (cq_m hc0) (show vI (k_fu σ (a_rc σ (c - 6) (k &&& 15) s N) (vI σ (c - 6) 4) (k_go (p_lw k)) (p_ca σ (c - 6) k s N N)) (c - 6) 1 = nI N by rw [k_fu_I (by rcases cq_is hc0 with rfl | rfl | rfl <;> decide) (by rcases cq_is hc0 with rfl | rfl | rfl <;> decide)]; exact hN) hN4 ((k >>> ((4 : Int32) &&& 31)) &&& 15) s) ?_
      refine x_callV0 (Y := mX1_goToPairs) (d' := 4) dX1_goFrom_161 ml_X1_98 yv_X1_goToPairs (by omega) rfl rfl (by simp [Value.category]) (sR_is hc0 rfl) (c_gp σ hc0 hu _ _ _ _ (a_rc (k_fu σ (a_rc σ (c - 6) (k &&& 15) s N) (vI σ (c - 6) 4) (k_go (p_lw k)) (p_ca σ (c - 6) k s N N)) (c - 6) ((k >>> ((4 : Int32) &&& 31)) &&& 15) s N)) ?_
      refine r_vret rfl dX1_goFrom_164 ?_
      refine ⟨rfl, ?_⟩
      unfold p_gf p_fp
      rw [if_neg c1]
      simp only [eq_false c1, eq_false c2, ↓reduceIte]
      (try rfl)
    · have c2 : ((k >>> ((4 : Int32) &&& 31)) &&& 15) = 0 := c2
      refine r_iload_n dX1_goFrom_147 3 rfl ?_
      refine r_goto (t := 161) dX1_goFrom_148 (by decide) ?_
      refine x_callV0 (Y := mX1_goToPairs) (d' := 4) dX1_goFrom_161 ml_X1_98 yv_X1_goToPairs (by omega) rfl rfl (by simp [Value.category]) (sR_is hc0 rfl) (c_gp σ hc0 hu _ _ _ _ (a_rc σ (c - 6) (k &&& 15) s N)) ?_
      refine r_vret rfl dX1_goFrom_164 ?_
      refine ⟨rfl, ?_⟩
      unfold p_gf p_fp
      rw [if_neg c1]
      simp only [eq_false c1, eq_true c2, ↓reduceIte]
      (try rfl)
  · have c1 : (k &&& 1048576) = 0 := c1
    refine r_aload_n dX1_goFrom_20 1 rfl ?_
    refine s_getR (b := c + 9) ok_X1 dX1_goFrom_21 (k := 5) (by decide) fl_X1_23 hc0 rfl (cq_s5 hc0) ?_
    refine r_aload_n dX1_goFrom_24 1 rfl ?_
    refine r_iload_n dX1_goFrom_25 0 rfl ?_
    refine x_callV (Y := mX1_meet) (d' := 3) dX1_goFrom_26 ml_X1_61 yv_X1_meet (by omega) rfl rfl (by simp [Value.category]) (sR_is hc0 rfl) (c_X1_meet σ hc0 (a_rc σ (c - 6) (k &&& 15) s N)) ?_
    refine x_callV0 (Y := mX7_push) (d' := 3) dX1_goFrom_29 ml_X1_68 yv_X7_push (by omega) rfl rfl (by simp [Value.category]) (sR_isR (cq_9 hc0)) (c_pushU (cq_9 hc0) (hu.same p_mt_2) (p_ma σ c (a_rc σ (c - 6) (k &&& 15) s N))) ?_
    refine r_iload_n dX1_goFrom_32 0 rfl ?_
    refine r_aload_n dX1_goFrom_33 1 rfl ?_
    refine s_getR (b := c - 6) ok_X1 dX1_goFrom_34 (k := 0) (by decide) fl_X1_26 hc0 rfl (cq_s0 hc0) ?_
    refine s_getI ok_X0 dX1_goFrom_37 (k := 4) (by decide) fl_X1_83 (cq_m hc0) rfl ?_
    refine x_callS (Y := mX4_greatestTight) (d' := 2) dX1_goFrom_40 ml_X1_86 ys_X4_greatestTight (by omega) rfl rfl (by simp [Value.category]) (c_X4_greatestTight (rqu (p_mt σ c (a_rc σ (c - 6) (k &&& 15) s N)) (c + 9) (p_ma σ c (a_rc σ (c - 6) (k &&& 15) s N))) (a_rc σ (c - 6) (k &&& 15) s N) (vI (rqu (p_mt σ c (a_rc σ (c - 6) (k &&& 15) s N)) (c + 9) (p_ma σ c (a_rc σ (c - 6) (k &&& 15) s N))) (c - 6) 4)) ?_
    refine r_istore (lo' := [(4, .int (k_gt (a_rc σ (c - 6) (k &&& 15) s N) (vI (rqu (p_mt σ c (a_rc σ (c - 6) (k &&& 15) s N)) (c + 9) (p_ma σ c (a_rc σ (c - 6) (k &&& 15) s N))) (c - 6) 4))), (3, .int (a_rc σ (c - 6) (k &&& 15) s N)), (0, .ref (ad c)), (1, .int k), (2, .int s)]) dX1_goFrom_43 (by decide) rfl ?_
    refine r_iconst (v := 1) dX1_goFrom_45 (by decide) ?_
    refine r_istore (lo' := [(5, .int 1), (4, .int (k_gt (a_rc σ (c - 6) (k &&& 15) s N) (vI (rqu (p_mt σ c (a_rc σ (c - 6) (k &&& 15) s N)) (c + 9) (p_ma σ c (a_rc σ (c - 6) (k &&& 15) s N))) (c - 6) 4))), (3, .int (a_rc σ (c - 6) (k &&& 15) s N)), (0, .ref (ad c)), (1, .int k), (2, .int s)]) dX1_goFrom_46 (by decide) rfl ?_
    have hh := l_X1_gg (ad := ad) hc0 (t := a_rc σ (c - 6) (k &&& 15) s N) (most := k_gt (a_rc σ (c - 6) (k &&& 15) s N) (vI (rqu (p_mt σ c (a_rc σ (c - 6) (k &&& 15) s N)) (c + 9) (p_ma σ c (a_rc σ (c - 6) (k &&& 15) s N))) (c - 6) 4)) (k := k) (s := s) (fun j h1 h2 => k_gt_lt _ _ h1 h2) 64 1 (rqu (p_mt σ c (a_rc σ (c - 6) (k &&& 15) s N)) (c + 9) (p_ma σ c (a_rc σ (c - 6) (k &&& 15) s N))) ((p_ok.mt.tr p_ok.ps).2.1 hu) (by decide) (by decide)
    refine ab_E.lo [0, 1, 2, 3, 4, 5] rfl (ab_E.mono hh (fun r τ q => ⟨q.1, ?_⟩))
    rw [q.2]; unfold p_gf; rw [if_pos c1]; rfl
