/-! Complement.told, Automaton.reachAlong -/
def p_tk (σ : sS) (c : Nat) (v k w : Int32) (M : Nat) : Int32 := if w = 0 then k &&& 15 else if w = 1 then (if k &&& 1048576 = 0 then -2 else k_go ((k >>> (8 &&& 31)) &&& 4095)) else if w = 2 then (k >>> (4 &&& 31)) &&& 15 else if w = 3 then (if p_im σ c v = 0 then 0 else 1) else if w = 4 then rg σ (c + 6) ((v + 1) * vI σ (c - 6) 2) - rg σ (c + 6) (v * vI σ (c - 6) 2) else p_cab σ c k 300 M 0 0
def p_td (σ : sS) (c : Nat) (v w : Int32) (M : Nat) : Int32 := p_tk σ c v (rg σ (c + 3) v) w M
theorem tb_out {w : Int32} (w0 : ¬ w = 0) (w1 : ¬ w = 1) (w2 : ¬ w = 2) (w3 : ¬ w = 3) (w4 : ¬ w = 4) : w.toInt < 0 ∨ 4 < w.toInt := by
  have e0 : ¬ w.toInt = 0 := fun e => w0 (Int32.toInt_inj.mp (e.trans (by decide)))
  have e1 : ¬ w.toInt = 1 := fun e => w1 (Int32.toInt_inj.mp (e.trans (by decide)))
  have e2 : ¬ w.toInt = 2 := fun e => w2 (Int32.toInt_inj.mp (e.trans (by decide)))
  have e3 : ¬ w.toInt = 3 := fun e => w3 (Int32.toInt_inj.mp (e.trans (by decide)))
  have e4 : ¬ w.toInt = 4 := fun e => w4 (Int32.toInt_inj.mp (e.trans (by decide)))
  omega
set_option maxRecDepth 4000 in
theorem c_X1_told {ad : Nat → Nat} (σ : sS) {c : Nat} (hc0 : la c = (1, 1)) {M : Nat} (hM : vI σ c 7 = nI M) (hM3 : M ≤ 300) (v w : Int32)  : ab_X (sR ad) 5 mX1_told [.ref (ad c), .int v, .int w] σ (some (.int (p_td σ c v w M))) σ := by
  refine ab_X.of (by decide) (Nat.le_of_ble_eq_true rfl) ?_
  refine r_aload_n dX1_told_0 0 rfl ?_
  refine s_getR (b := c + 3) ok_X1 dX1_told_1 (k := 3) (by decide) fl_X1_14 hc0 rfl (cq_s3 hc0) ?_
  refine r_iload_n dX1_told_4 1 rfl ?_
  refine x_callV (Y := mX7_get) (d' := 1) dX1_told_5 ml_X1_71 yv_X7_get (by omega) rfl rfl (by simp [Value.category]) (sR_isR (cq_3 hc0)) (c_get (cq_3 hc0) v) ?_
  refine r_istore_n (lo' := [(3, .int (rg σ (c + 3) v)), (0, .ref (ad c)), (1, .int v), (2, .int w)]) dX1_told_8 (by decide) rfl ?_
  refine r_iload_n dX1_told_9 0 rfl ?_
  refine r_ldc (v := 1048576) dX1_told_10 co_X1_82 ?_
  refine r_iand dX1_told_12 ?_
  refine r_if_eq (t := 20) dX1_told_13 (by decide) (fun c1 => ?_) (fun c1 => ?_)
  · have c1 : ((rg σ (c + 3) v) &&& 1048576) = 0 := c1
    refine r_iconst (v := 0) dX1_told_20 (by decide) ?_
    refine r_istore (lo' := [(4, .int 0), (3, .int (rg σ (c + 3) v)), (0, .ref (ad c)), (1, .int v), (2, .int w)]) dX1_told_21 (by decide) rfl ?_
    refine r_iload_n dX1_told_23 4 rfl ?_
    by_cases w0 : w = 0
    · refine r_tableIn (t := 60) (off := 36) dX1_told_24 (by rw [w0]; decide) (by rw [w0]; decide) (by rw [w0]; rfl) (by decide) ?_
      refine r_iload_n dX1_told_60 1 rfl ?_
      refine r_bipush (v := 15) dX1_told_61 (by decide) ?_
      refine r_iand dX1_told_63 ?_
      refine r_iret rfl dX1_told_64 ?_
      exact ⟨by unfold p_td p_tk; rw [if_pos w0], rfl⟩
    by_cases w1 : w = 1
    · refine r_tableIn (t := 65) (off := 41) dX1_told_24 (by rw [w1]; decide) (by rw [w1]; decide) (by rw [w1]; rfl) (by decide) ?_
      refine r_iload dX1_told_65 0 rfl ?_
      refine r_if_eq (t := 84) dX1_told_67 (by decide) (fun _ => ?_) (fun hh => absurd (by decide) hh)
      refine r_bipush (v := (-2)) dX1_told_84 (by decide) ?_
      refine r_iret rfl dX1_told_86 ?_
      exact ⟨by unfold p_td p_tk; rw [if_neg w0, if_pos w1]; simp only [eq_true c1, ↓reduceIte], rfl⟩
    by_cases w2 : w = 2
    · refine r_tableIn (t := 87) (off := 63) dX1_told_24 (by rw [w2]; decide) (by rw [w2]; decide) (by rw [w2]; rfl) (by decide) ?_
      refine r_iload_n dX1_told_87 1 rfl ?_
      refine r_iconst (v := 4) dX1_told_88 (by decide) ?_
      refine r_ishr dX1_told_89 ?_
      refine r_bipush (v := 15) dX1_told_90 (by decide) ?_
      refine r_iand dX1_told_92 ?_
      refine r_iret rfl dX1_told_93 ?_
      exact ⟨by unfold p_td p_tk; rw [if_neg w0, if_neg w1, if_pos w2], rfl⟩
    by_cases w3 : w = 3
    · refine r_tableIn (t := 94) (off := 70) dX1_told_24 (by rw [w3]; decide) (by rw [w3]; decide) (by rw [w3]; rfl) (by decide) ?_
      refine r_aload_n dX1_told_94 2 rfl ?_
      refine r_iload_n dX1_told_95 3 rfl ?_
      refine x_callV (Y := mX1_isMarked) (d' := 2) dX1_told_96 ml_X1_143 yv_X1_isMarked (by omega) rfl rfl (by simp [Value.category]) (sR_is hc0 rfl) (c_X1_isMarked σ hc0 v) ?_
      refine r_if_eq (t := 106) dX1_told_99 (by decide) (fun c2 => ?_) (fun c2 => ?_)
      · have c2 : (p_im σ c v) = 0 := c2
        refine r_iconst (v := 0) dX1_told_106 (by decide) ?_
        refine r_iret rfl dX1_told_107 ?_
        exact ⟨by unfold p_td p_tk; rw [if_neg w0, if_neg w1, if_neg w2, if_pos w3]; simp only [eq_true c1, eq_true c2, ↓reduceIte], rfl⟩
      · have c2 : ¬ ((p_im σ c v) = 0) := c2
        refine r_iconst (v := 1) dX1_told_102 (by decide) ?_
        refine r_goto (t := 107) dX1_told_103 (by decide) ?_
        refine r_iret rfl dX1_told_107 ?_
        exact ⟨by unfold p_td p_tk; rw [if_neg w0, if_neg w1, if_neg w2, if_pos w3]; simp only [eq_true c1, eq_false c2, ↓reduceIte], rfl⟩
    by_cases w4 : w = 4
    · refine r_tableIn (t := 108) (off := 84) dX1_told_24 (by rw [w4]; decide) (by rw [w4]; decide) (by rw [w4]; rfl) (by decide) ?_
      refine r_aload_n dX1_told_108 2 rfl ?_
      refine s_getR (b := c + 6) ok_X1 dX1_told_109 (k := 4) (by decide) fl_X1_20 hc0 rfl (cq_s4 hc0) ?_
      refine r_iload_n dX1_told_112 3 rfl ?_
      refine r_iconst (v := 1) dX1_told_113 (by decide) ?_
      refine r_iadd dX1_told_114 ?_
      refine r_aload_n dX1_told_115 2 rfl ?_
      refine s_getR (b := c - 6) ok_X1 dX1_told_116 (k := 0) (by decide) fl_X1_26 hc0 rfl (cq_s0 hc0) ?_
      refine s_getI ok_X0 dX1_told_119 (k := 2) (by decide) fl_X1_65 (cq_m hc0) rfl ?_
      refine r_imul dX1_told_122 ?_
      refine x_callV (Y := mX7_get) (d' := 1) dX1_told_123 ml_X1_71 yv_X7_get (by omega) rfl rfl (by simp [Value.category]) (sR_isR (cq_6 hc0)) (c_get (cq_6 hc0) ((v + 1) * (vI σ (c - 6) 2))) ?_
      refine r_aload_n dX1_told_126 2 rfl ?_
      refine s_getR (b := c + 6) ok_X1 dX1_told_127 (k := 4) (by decide) fl_X1_20 hc0 rfl (cq_s4 hc0) ?_
      refine r_iload_n dX1_told_130 3 rfl ?_
      refine r_aload_n dX1_told_131 2 rfl ?_
      refine s_getR (b := c - 6) ok_X1 dX1_told_132 (k := 0) (by decide) fl_X1_26 hc0 rfl (cq_s0 hc0) ?_
      refine s_getI ok_X0 dX1_told_135 (k := 2) (by decide) fl_X1_65 (cq_m hc0) rfl ?_
      refine r_imul dX1_told_138 ?_
      refine x_callV (Y := mX7_get) (d' := 1) dX1_told_139 ml_X1_71 yv_X7_get (by omega) rfl rfl (by simp [Value.category]) (sR_isR (cq_6 hc0)) (c_get (cq_6 hc0) (v * (vI σ (c - 6) 2))) ?_
      refine r_isub dX1_told_142 ?_
      refine r_iret rfl dX1_told_143 ?_
      exact ⟨by unfold p_td p_tk; rw [if_neg w0, if_neg w1, if_neg w2, if_neg w3, if_pos w4], rfl⟩
    refine r_tableOut (t := 144) dX1_told_24 (tb_out w0 w1 w2 w3 w4) (by decide) ?_
    refine r_aload_n dX1_told_144 2 rfl ?_
    refine r_iload_n dX1_told_145 1 rfl ?_
    refine r_sipush (v := 300) dX1_told_146 (by decide) ?_
    refine x_callV (Y := mX1_countAbove) (d' := 4) dX1_told_149 ml_X1_147 yv_X1_countAbove (by omega) rfl rfl (by simp [Value.category]) (sR_is hc0 rfl) (c_X1_countAbove σ hc0 hM hM3 (rg σ (c + 3) v) 300) ?_
    refine r_iret rfl dX1_told_152 ?_
    exact ⟨by unfold p_td p_tk; rw [if_neg w0, if_neg w1, if_neg w2, if_neg w3, if_neg w4], rfl⟩
  · have c1 : ¬ (((rg σ (c + 3) v) &&& 1048576) = 0) := c1
    refine r_iconst (v := 1) dX1_told_16 (by decide) ?_
    refine r_goto (t := 21) dX1_told_17 (by decide) ?_
    refine r_istore (lo' := [(4, .int 1), (3, .int (rg σ (c + 3) v)), (0, .ref (ad c)), (1, .int v), (2, .int w)]) dX1_told_21 (by decide) rfl ?_
    refine r_iload_n dX1_told_23 4 rfl ?_
    by_cases w0 : w = 0
    · refine r_tableIn (t := 60) (off := 36) dX1_told_24 (by rw [w0]; decide) (by rw [w0]; decide) (by rw [w0]; rfl) (by decide) ?_
      refine r_iload_n dX1_told_60 1 rfl ?_
      refine r_bipush (v := 15) dX1_told_61 (by decide) ?_
      refine r_iand dX1_told_63 ?_
      refine r_iret rfl dX1_told_64 ?_
      exact ⟨by unfold p_td p_tk; rw [if_pos w0], rfl⟩
    by_cases w1 : w = 1
    · refine r_tableIn (t := 65) (off := 41) dX1_told_24 (by rw [w1]; decide) (by rw [w1]; decide) (by rw [w1]; rfl) (by decide) ?_
      refine r_iload dX1_told_65 0 rfl ?_
      refine r_if_eq (t := 84) dX1_told_67 (by decide) (fun hh => absurd hh (by decide)) (fun _ => ?_)
      refine r_iload_n dX1_told_70 1 rfl ?_
      refine r_bipush (v := 8) dX1_told_71 (by decide) ?_
      refine r_ishr dX1_told_73 ?_
      refine r_sipush (v := 4095) dX1_told_74 (by decide) ?_
      refine r_iand dX1_told_77 ?_
      refine x_callS (Y := mX4_greatestOf) (d' := 2) dX1_told_78 ml_X1_104 ys_X4_greatestOf (by omega) rfl rfl (by simp [Value.category]) (c_X4_greatestOf σ (((rg σ (c + 3) v) >>> ((8 : Int32) &&& 31)) &&& 4095)) ?_
      refine r_goto (t := 86) dX1_told_81 (by decide) ?_
      refine r_iret rfl dX1_told_86 ?_
      exact ⟨by unfold p_td p_tk; rw [if_neg w0, if_pos w1]; simp only [eq_false c1, ↓reduceIte], rfl⟩
    by_cases w2 : w = 2
    · refine r_tableIn (t := 87) (off := 63) dX1_told_24 (by rw [w2]; decide) (by rw [w2]; decide) (by rw [w2]; rfl) (by decide) ?_
      refine r_iload_n dX1_told_87 1 rfl ?_
      refine r_iconst (v := 4) dX1_told_88 (by decide) ?_
      refine r_ishr dX1_told_89 ?_
      refine r_bipush (v := 15) dX1_told_90 (by decide) ?_
      refine r_iand dX1_told_92 ?_
      refine r_iret rfl dX1_told_93 ?_
      exact ⟨by unfold p_td p_tk; rw [if_neg w0, if_neg w1, if_pos w2], rfl⟩
    by_cases w3 : w = 3
    · refine r_tableIn (t := 94) (off := 70) dX1_told_24 (by rw [w3]; decide) (by rw [w3]; decide) (by rw [w3]; rfl) (by decide) ?_
      refine r_aload_n dX1_told_94 2 rfl ?_
      refine r_iload_n dX1_told_95 3 rfl ?_
      refine x_callV (Y := mX1_isMarked) (d' := 2) dX1_told_96 ml_X1_143 yv_X1_isMarked (by omega) rfl rfl (by simp [Value.category]) (sR_is hc0 rfl) (c_X1_isMarked σ hc0 v) ?_
      refine r_if_eq (t := 106) dX1_told_99 (by decide) (fun c3 => ?_) (fun c3 => ?_)
      · have c3 : (p_im σ c v) = 0 := c3
        refine r_iconst (v := 0) dX1_told_106 (by decide) ?_
        refine r_iret rfl dX1_told_107 ?_
        exact ⟨by unfold p_td p_tk; rw [if_neg w0, if_neg w1, if_neg w2, if_pos w3]; simp only [eq_false c1, eq_true c3, ↓reduceIte], rfl⟩
      · have c3 : ¬ ((p_im σ c v) = 0) := c3
        refine r_iconst (v := 1) dX1_told_102 (by decide) ?_
        refine r_goto (t := 107) dX1_told_103 (by decide) ?_
        refine r_iret rfl dX1_told_107 ?_
        exact ⟨by unfold p_td p_tk; rw [if_neg w0, if_neg w1, if_neg w2, if_pos w3]; simp only [eq_false c1, eq_false c3, ↓reduceIte], rfl⟩
    by_cases w4 : w = 4
    · refine r_tableIn (t := 108) (off := 84) dX1_told_24 (by rw [w4]; decide) (by rw [w4]; decide) (by rw [w4]; rfl) (by decide) ?_
      refine r_aload_n dX1_told_108 2 rfl ?_
      refine s_getR (b := c + 6) ok_X1 dX1_told_109 (k := 4) (by decide) fl_X1_20 hc0 rfl (cq_s4 hc0) ?_
      refine r_iload_n dX1_told_112 3 rfl ?_
      refine r_iconst (v := 1) dX1_told_113 (by decide) ?_
      refine r_iadd dX1_told_114 ?_
      refine r_aload_n dX1_told_115 2 rfl ?_
      refine s_getR (b := c - 6) ok_X1 dX1_told_116 (k := 0) (by decide) fl_X1_26 hc0 rfl (cq_s0 hc0) ?_
      refine s_getI ok_X0 dX1_told_119 (k := 2) (by decide) fl_X1_65 (cq_m hc0) rfl ?_
      refine r_imul dX1_told_122 ?_
      refine x_callV (Y := mX7_get) (d' := 1) dX1_told_123 ml_X1_71 yv_X7_get (by omega) rfl rfl (by simp [Value.category]) (sR_isR (cq_6 hc0)) (c_get (cq_6 hc0) ((v + 1) * (vI σ (c - 6) 2))) ?_
      refine r_aload_n dX1_told_126 2 rfl ?_
      refine s_getR (b := c + 6) ok_X1 dX1_told_127 (k := 4) (by decide) fl_X1_20 hc0 rfl (cq_s4 hc0) ?_
      refine r_iload_n dX1_told_130 3 rfl ?_
      refine r_aload_n dX1_told_131 2 rfl ?_
      refine s_getR (b := c - 6) ok_X1 dX1_told_132 (k := 0) (by decide) fl_X1_26 hc0 rfl (cq_s0 hc0) ?_
      refine s_getI ok_X0 dX1_told_135 (k := 2) (by decide) fl_X1_65 (cq_m hc0) rfl ?_
      refine r_imul dX1_told_138 ?_
      refine x_callV (Y := mX7_get) (d' := 1) dX1_told_139 ml_X1_71 yv_X7_get (by omega) rfl rfl (by simp [Value.category]) (sR_isR (cq_6 hc0)) (c_get (cq_6 hc0) (v * (vI σ (c - 6) 2))) ?_
      refine r_isub dX1_told_142 ?_
      refine r_iret rfl dX1_told_143 ?_
      exact ⟨by unfold p_td p_tk; rw [if_neg w0, if_neg w1, if_neg w2, if_neg w3, if_pos w4], rfl⟩
    refine r_tableOut (t := 144) dX1_told_24 (tb_out w0 w1 w2 w3 w4) (by decide) ?_
    refine r_aload_n dX1_told_144 2 rfl ?_
    refine r_iload_n dX1_told_145 1 rfl ?_
    refine r_sipush (v := 300) dX1_told_146 (by decide) ?_
    refine x_callV (Y := mX1_countAbove) (d' := 4) dX1_told_149 ml_X1_147 yv_X1_countAbove (by omega) rfl rfl (by simp [Value.category]) (sR_is hc0 rfl) (c_X1_countAbove σ hc0 hM hM3 (rg σ (c + 3) v) 300) ?_
    refine r_iret rfl dX1_told_152 ?_
    exact ⟨by unfold p_td p_tk; rw [if_neg w0, if_neg w1, if_neg w2, if_neg w3, if_neg w4], rfl⟩
def a_al (σ : sS) (a S N : Nat) : Nat → Nat → Int32 → Int32
  | 0, _, t => t
  | k + 1, i, t => a_al σ a S N k (i + 1) (a_rc σ a t (rg σ S (nI i)) N)
theorem l_X0_al {ad : Nat → Nat} {σ : sS} {a S N m : Nat} (ha : la a = (1, 0)) (hS7 : la S = (7, 0)) (hN : vI σ a 1 = nI N) (hN4 : N ≤ 4) (hm : vU σ S = nI m) (hm2 : m ≤ 100000) {t0 : Int32} : ∀ (k i : Nat) (t : Int32), i + k = m → ab_E (sR ad) mX0_reachAlong 4 5 [(4, .int (nI i)), (3, .int t), (0, .ref (ad a)), (1, .int t0), (2, .ref (ad S))] [] σ (fun r9 σ' => r9 = some (.int (a_al σ a S N k i t)) ∧ σ' = σ) := by
  intro k
  induction k with
  | zero =>
    intro i t hi
    have hc : vU σ S ≤ nI i := by rw [hm]; exact nI_le (by omega) (by omega)
    refine r_iload dX0_reachAlong_5 0 rfl ?_
    refine r_aload_n dX0_reachAlong_7 4 rfl ?_
    refine s_getU dX0_reachAlong_8 fl_X0_64 hS7 ?_
    refine r_icmp_ge (t := 32) dX0_reachAlong_11 (by decide) (fun _ => ?_) (fun hh => absurd hc hh)
    refine r_iload_n dX0_reachAlong_32 1 rfl ?_
    refine r_iret rfl dX0_reachAlong_33 ?_
    exact ⟨rfl, rfl⟩
  | succ k ih =>
    intro i t hi
    have hc : ¬ vU σ S ≤ nI i := by rw [hm]; exact nI_ge (by omega) (by omega)
    refine r_iload dX0_reachAlong_5 0 rfl ?_
    refine r_aload_n dX0_reachAlong_7 4 rfl ?_
    refine s_getU dX0_reachAlong_8 fl_X0_64 hS7 ?_
    refine r_icmp_ge (t := 32) dX0_reachAlong_11 (by decide) (fun hh => absurd hh hc) (fun _ => ?_)
    refine r_aload_n dX0_reachAlong_14 2 rfl ?_
    refine r_iload_n dX0_reachAlong_15 1 rfl ?_
    refine r_aload_n dX0_reachAlong_16 4 rfl ?_
    refine r_iload dX0_reachAlong_17 0 rfl ?_
    refine x_callV (Y := mX7_get) (d' := 1) dX0_reachAlong_19 ml_X0_36 yv_X7_get (by omega) rfl rfl (by simp [Value.category]) (sR_isR hS7) (c_get hS7 (nI i)) ?_
    refine x_callV (Y := mX0_reach) (d' := 3) dX0_reachAlong_22 ml_X0_67 yv_X0_reach (by omega) rfl rfl (by simp [Value.category]) (sR_is ha rfl) (c_X0_reach σ ha hN hN4 t (rg σ S (nI i))) ?_
    refine r_istore_n (lo' := [(3, .int (a_rc σ a t (rg σ S (nI i)) N)), (4, .int (nI i)), (0, .ref (ad a)), (1, .int t0), (2, .ref (ad S))]) dX0_reachAlong_25 (by decide) rfl ?_
    refine r_iinc (v := (nI i) + 1) (lo' := [(4, .int ((nI i) + 1)), (3, .int (a_rc σ a t (rg σ S (nI i)) N)), (0, .ref (ad a)), (1, .int t0), (2, .ref (ad S))]) dX0_reachAlong_26 1 rfl rfl (by decide) rfl ?_
    refine r_goto (t := 5) dX0_reachAlong_29 (by decide) ?_
    rw [nI_1, a_al]
    exact ab_E.lo [0, 1, 2, 3, 4] rfl (ih (i + 1) _ (by omega))
theorem c_X0_reachAlong {ad : Nat → Nat} (σ : sS) {a S N m : Nat} (ha : la a = (1, 0)) (hS7 : la S = (7, 0)) (hN : vI σ a 1 = nI N) (hN4 : N ≤ 4) (hm : vU σ S = nI m) (hm2 : m ≤ 100000) (t : Int32) : ab_X (sR ad) 4 mX0_reachAlong [.ref (ad a), .int t, .ref (ad S)] σ (some (.int (a_al σ a S N m 0 t))) σ := by
  refine ab_X.of (by decide) (Nat.le_of_ble_eq_true rfl) ?_
  refine r_iload_n dX0_reachAlong_0 1 rfl ?_
  refine r_istore_n (lo' := [(3, .int t), (0, .ref (ad a)), (1, .int t), (2, .ref (ad S))]) dX0_reachAlong_1 (by decide) rfl ?_
  refine r_iconst (v := 0) dX0_reachAlong_2 (by decide) ?_
  refine r_istore (lo' := [(4, .int 0), (3, .int t), (0, .ref (ad a)), (1, .int t), (2, .ref (ad S))]) dX0_reachAlong_3 (by decide) rfl ?_
  exact ab_E.lo [0, 1, 2, 3, 4] rfl (l_X0_al ha hS7 hN hN4 hm hm2 m 0 t (by omega))
