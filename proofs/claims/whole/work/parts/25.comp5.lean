/-! Complement: all nodes; stands; told -/
theorem rz_I {σ : sS} {r m b : Nat} (hb : b ≠ r) : vI (rz σ r m) b = vI σ b := by
  funext j
  show (if b = r ∧ j < m then 0 else (rx σ r m).1 b j) = _
  rw [if_neg (fun q => hb q.1)]
  show vI (rx σ r m) b j = _
  rw [rx_I]
theorem rz_C {σ : sS} {r m b : Nat} (hb : b ≠ r) : vC (rz σ r m) b = vC σ b := by
  show vC (rx σ r m) b = _
  exact rx_Cn hb
def p_i1 (σ : sS) (c : Nat) (v s : Int32) (N : Nat) : sS := p_gf (rqu σ (c + 6) (vU σ (c + 9))) c (rg (rqu σ (c + 6) (vU σ (c + 9))) (c + 3) v) s N
def p_in (c : Nat) (v : Int32) (N : Nat) : Nat → Nat → sS → sS
  | 0, _, σ => σ
  | n + 1, s, σ => if vI (p_i1 σ c v (nI s) N) c 6 = 2 then p_i1 σ c v (nI s) N else p_in c v N n (s + 1) (p_i1 σ c v (nI s) N)
def p_ie (c : Nat) (v : Int32) (N : Nat) : Nat → Nat → sS → Bool
  | 0, _, _ => false
  | n + 1, s, σ => if vI (p_i1 σ c v (nI s) N) c 6 = 2 then true else p_ie c v N n (s + 1) (p_i1 σ c v (nI s) N)
def p_fin (σ : sS) (c : Nat) : sS := rqu σ (c + 6) (vU σ (c + 9))
def p_out (c N G : Nat) : Nat → Nat → sS → sS
  | 0, _, σ => p_fin σ c
  | n + 1, v, σ => if vI σ c 7 ≤ nI v then p_fin σ c else if p_ie c (nI v) N G 0 σ = true then p_in c (nI v) N G 0 σ else p_out c N G n (v + 1) (p_in c (nI v) N G 0 σ)
def p_a0 (σ : sS) (c : Nat) : sS := uI (uU (uU (rx (rz σ 26 1024) (c + 3) 300) (c + 6) 0) (c + 9) 0) c 7 0
def p_a1 (σ : sS) (c : Nat) : sS := p_mt (p_a0 σ c) c (vI (p_a0 σ c) (c - 6) 3)
def p_all (σ : sS) (c N G : Nat) : sS := p_out c N G 300 0 (p_a1 σ c)
/-- what holds while nodes are met -/
def pI (c N G : Nat) (σ : sS) : Prop := vI σ (c - 6) 1 = nI N ∧ vI σ (c - 6) 2 = nI G ∧ uok σ (c + 6) ∧ uok σ (c + 9)
theorem pI.ok {c N G : Nat} {σ τ : sS} (hc0 : la c = (1, 1)) (h : pI c N G σ) (k : p_ok c σ τ) : pI c N G τ := by
  obtain ⟨h1, h2, h3, h4⟩ := h
  have e : vI τ (c - 6) = vI σ (c - 6) := by rcases cq_is hc0 with rfl | rfl | rfl <;> exact k.1 _ (by decide) (by decide) (by decide) (by decide) (by decide) (by decide)
  exact ⟨by rw [e]; exact h1, by rw [e]; exact h2, k.2.2 h3, k.2.1 h4⟩
theorem pI.ps {c N G : Nat} {σ : sS} {x : Int32} (hc0 : la c = (1, 1)) (h : pI c N G σ) : pI c N G (rqu σ (c + 6) x) := by
  obtain ⟨h1, h2, h3, h4⟩ := h
  have e : vI (rqu σ (c + 6) x) (c - 6) = vI σ (c - 6) := rq_I (by omega)
  exact ⟨by rw [e]; exact h1, by rw [e]; exact h2, h3.push x, h4.other (by omega) x⟩
theorem pI.i1 {c N G : Nat} {σ : sS} {v s : Int32} (hc0 : la c = (1, 1)) (h : pI c N G σ) : pI c N G (p_i1 σ c v s N) := (h.ps hc0).ok hc0 p_ok.gf
theorem pI.in {c N G : Nat} (hc0 : la c = (1, 1)) {v : Int32} : ∀ (n s : Nat) (σ : sS), pI c N G σ → pI c N G (p_in c v N n s σ) := by
  intro n
  induction n with
  | zero => intro s σ h; exact h
  | succ n ih =>
    intro s σ h
    rw [p_in]
    by_cases q : vI (p_i1 σ c v (nI s) N) c 6 = 2
    · rw [if_pos q]; exact h.i1 hc0
    · rw [if_neg q]; exact ih (s + 1) _ (h.i1 hc0)
theorem l_X1_in {ad : Nat → Nat} {c N G : Nat} (hc0 : la c = (1, 1)) (hN4 : N ≤ 4) (hG3 : G ≤ 3) {v : Nat} {Q : Option Value → sS → Prop} : ∀ (n s : Nat) (σ : sS), pI c N G σ → s + n = G → (p_ie c (nI v) N n s σ = false → ab_E (sR ad) mX1_meetAll 9 125 [(2, .int (nI G)), (1, .int (nI v)), (0, .ref (ad c))] [] (p_in c (nI v) N n s σ) Q) → (p_ie c (nI v) N n s σ = true → Q none (p_in c (nI v) N n s σ)) → ab_E (sR ad) mX1_meetAll 9 72 [(2, .int (nI s)), (1, .int (nI v)), (0, .ref (ad c))] [] σ Q := by
  intro n
  induction n with
  | zero =>
    intro s σ hI hs K E
    have hs : s = G := by omega
    subst hs
    have hc : vI σ (c - 6) 2 ≤ nI s := by rw [hI.2.1]; exact nI_le (Nat.le_refl _) (by omega)
    refine r_iload_n dX1_meetAll_72 0 rfl ?_
    refine r_aload_n dX1_meetAll_73 2 rfl ?_
    refine s_getR (b := c - 6) ok_X1 dX1_meetAll_74 (k := 0) (by decide) fl_X1_26 hc0 rfl (cq_s0 hc0) ?_
    refine s_getI ok_X0 dX1_meetAll_77 (k := 2) (by decide) fl_X1_65 (cq_m hc0) rfl ?_
    refine r_icmp_ge (t := 125) dX1_meetAll_80 (by decide) (fun _ => ?_) (fun hh => absurd hc hh)
    exact K rfl
  | succ n ih =>
    intro s σ hI hs K E
    have hc : ¬ vI σ (c - 6) 2 ≤ nI s := by rw [hI.2.1]; exact nI_ge (by omega) (by omega)
    refine r_iload_n dX1_meetAll_72 0 rfl ?_
    refine r_aload_n dX1_meetAll_73 2 rfl ?_
    refine s_getR (b := c - 6) ok_X1 dX1_meetAll_74 (k := 0) (by decide) fl_X1_26 hc0 rfl (cq_s0 hc0) ?_
    refine s_getI ok_X0 dX1_meetAll_77 (k := 2) (by decide) fl_X1_65 (cq_m hc0) rfl ?_
    refine r_icmp_ge (t := 125) dX1_meetAll_80 (by decide) (fun hh => absurd hh hc) (fun _ => ?_)
    refine r_aload_n dX1_meetAll_83 2 rfl ?_
    refine s_getR (b := c + 6) ok_X1 dX1_meetAll_84 (k := 4) (by decide) fl_X1_20 hc0 rfl (cq_s4 hc0) ?_
    refine r_aload_n dX1_meetAll_87 2 rfl ?_
    refine s_getR (b := c + 9) ok_X1 dX1_meetAll_88 (k := 5) (by decide) fl_X1_23 hc0 rfl (cq_s5 hc0) ?_
    refine s_getU dX1_meetAll_91 fl_X1_50 (cq_9 hc0) ?_
    refine x_callV0 (Y := mX7_push) (d' := 3) dX1_meetAll_94 ml_X1_68 yv_X7_push (by omega) rfl rfl (by simp [Value.category]) (sR_isR (cq_6 hc0)) (c_pushU (cq_6 hc0) hI.2.2.1 (vU σ (c + 9))) ?_
    refine r_aload_n dX1_meetAll_97 2 rfl ?_
    refine r_aload_n dX1_meetAll_98 2 rfl ?_
    refine s_getR (b := c + 3) ok_X1 dX1_meetAll_99 (k := 3) (by decide) fl_X1_14 hc0 rfl (cq_s3 hc0) ?_
    refine r_iload_n dX1_meetAll_102 1 rfl ?_
    refine x_callV (Y := mX7_get) (d' := 1) dX1_meetAll_103 ml_X1_71 yv_X7_get (by omega) rfl rfl (by simp [Value.category]) (sR_isR (cq_3 hc0)) (c_get (cq_3 hc0) (nI v)) ?_
    refine r_iload_n dX1_meetAll_106 0 rfl ?_
    refine x_callV0 (Y := mX1_goFrom) (d' := 8) dX1_meetAll_107 ml_X1_74 yv_X1_goFrom (by omega) rfl rfl (by simp [Value.category]) (sR_is hc0 rfl) (c_X1_goFrom (rqu σ (c + 6) (vU σ (c + 9))) hc0 (hI.ps hc0).1 hN4 (hI.ps hc0).2.2.2 (rg (rqu σ (c + 6) (vU σ (c + 9))) (c + 3) (nI v)) (nI s)) ?_
    refine r_aload_n dX1_meetAll_110 2 rfl ?_
    refine s_getI ok_X1 dX1_meetAll_111 (k := 6) (by decide) fl_X1_37 hc0 rfl ?_
    refine r_iconst (v := 2) dX1_meetAll_114 (by decide) ?_
    refine r_icmp_ne (t := 119) dX1_meetAll_115 (by decide) (fun c1 => ?_) (fun c1 => ?_)
    · have c1 : ¬ ((vI (p_gf (rqu σ (c + 6) (vU σ (c + 9))) c (rg (rqu σ (c + 6) (vU σ (c + 9))) (c + 3) (nI v)) (nI s) N) c 6) = 2) := c1
      refine r_iinc (v := (nI s) + 1) (lo' := [(2, .int ((nI s) + 1)), (1, .int (nI v)), (0, .ref (ad c))]) dX1_meetAll_119 0 rfl rfl (by decide) rfl ?_
      refine r_goto (t := 72) dX1_meetAll_122 (by decide) ?_
      have c1 : ¬ vI (p_i1 σ c (nI v) (nI s) N) c 6 = 2 := c1
      rw [nI_1]
      rw [p_in, p_ie, if_neg c1, if_neg c1] at K
      rw [p_in, p_ie, if_neg c1, if_neg c1] at E
      exact ab_E.lo [0, 1, 2] rfl (ih (s + 1) (p_i1 σ c (nI v) (nI s) N) (hI.i1 hc0) (by omega) K E)
    · have c1 : (vI (p_gf (rqu σ (c + 6) (vU σ (c + 9))) c (rg (rqu σ (c + 6) (vU σ (c + 9))) (c + 3) (nI v)) (nI s) N) c 6) = 2 := c1
      refine r_vret rfl dX1_meetAll_118 ?_
      have c1 : vI (p_i1 σ c (nI v) (nI s) N) c 6 = 2 := c1
      rw [p_in, p_ie, if_pos c1, if_pos c1] at E
      exact E rfl
theorem l_X1_out {ad : Nat → Nat} {c N G : Nat} (hc0 : la c = (1, 1)) (hN4 : N ≤ 4) (hG3 : G ≤ 3) : ∀ (n v : Nat) (σ : sS), pI c N G σ → v + n = 300 → ab_E (sR ad) mX1_meetAll 9 55 [(1, .int (nI v)), (0, .ref (ad c))] [] σ (fun r σ' => r = none ∧ σ' = p_out c N G n v σ) := by
  intro n
  induction n with
  | zero =>
    intro v σ hI hv
    have h3 : (300 : Int32) ≤ nI v := nI_le (a := 300) (by omega) (by omega)
    refine r_iload_n dX1_meetAll_55 0 rfl ?_
    refine r_aload_n dX1_meetAll_56 1 rfl ?_
    refine s_getI ok_X1 dX1_meetAll_57 (k := 7) (by decide) fl_X1_53 hc0 rfl ?_
    refine r_icmp_ge (t := 131) dX1_meetAll_60 (by decide) (fun c1 => ?_) (fun c1 => ?_)
    · have c1 : (vI σ c 7) ≤ (nI v) := c1
      refine r_aload_n dX1_meetAll_131 1 rfl ?_
      refine s_getR (b := c + 6) ok_X1 dX1_meetAll_132 (k := 4) (by decide) fl_X1_20 hc0 rfl (cq_s4 hc0) ?_
      refine r_aload_n dX1_meetAll_135 1 rfl ?_
      refine s_getR (b := c + 9) ok_X1 dX1_meetAll_136 (k := 5) (by decide) fl_X1_23 hc0 rfl (cq_s5 hc0) ?_
      refine s_getU dX1_meetAll_139 fl_X1_50 (cq_9 hc0) ?_
      refine x_callV0 (Y := mX7_push) (d' := 3) dX1_meetAll_142 ml_X1_68 yv_X7_push (by omega) rfl rfl (by simp [Value.category]) (sR_isR (cq_6 hc0)) (c_pushU (cq_6 hc0) hI.2.2.1 (vU σ (c + 9))) ?_
      refine r_vret rfl dX1_meetAll_145 ?_
      exact ⟨rfl, rfl⟩
    · have c1 : ¬ ((vI σ c 7) ≤ (nI v)) := c1
      refine r_iload_n dX1_meetAll_63 0 rfl ?_
      refine r_sipush (v := 300) dX1_meetAll_64 (by decide) ?_
      refine r_icmp_ge (t := 131) dX1_meetAll_67 (by decide) (fun _ => ?_) (fun hh => absurd h3 hh)
      refine r_aload_n dX1_meetAll_131 1 rfl ?_
      refine s_getR (b := c + 6) ok_X1 dX1_meetAll_132 (k := 4) (by decide) fl_X1_20 hc0 rfl (cq_s4 hc0) ?_
      refine r_aload_n dX1_meetAll_135 1 rfl ?_
      refine s_getR (b := c + 9) ok_X1 dX1_meetAll_136 (k := 5) (by decide) fl_X1_23 hc0 rfl (cq_s5 hc0) ?_
      refine s_getU dX1_meetAll_139 fl_X1_50 (cq_9 hc0) ?_
      refine x_callV0 (Y := mX7_push) (d' := 3) dX1_meetAll_142 ml_X1_68 yv_X7_push (by omega) rfl rfl (by simp [Value.category]) (sR_isR (cq_6 hc0)) (c_pushU (cq_6 hc0) hI.2.2.1 (vU σ (c + 9))) ?_
      refine r_vret rfl dX1_meetAll_145 ?_
      exact ⟨rfl, rfl⟩
  | succ n ih =>
    intro v σ hI hv
    have h3 : ¬ (300 : Int32) ≤ nI v := nI_ge (b := 300) (by omega) (by decide)
    refine r_iload_n dX1_meetAll_55 0 rfl ?_
    refine r_aload_n dX1_meetAll_56 1 rfl ?_
    refine s_getI ok_X1 dX1_meetAll_57 (k := 7) (by decide) fl_X1_53 hc0 rfl ?_
    refine r_icmp_ge (t := 131) dX1_meetAll_60 (by decide) (fun c1 => ?_) (fun c1 => ?_)
    · have c1 : (vI σ c 7) ≤ (nI v) := c1
      refine r_aload_n dX1_meetAll_131 1 rfl ?_
      refine s_getR (b := c + 6) ok_X1 dX1_meetAll_132 (k := 4) (by decide) fl_X1_20 hc0 rfl (cq_s4 hc0) ?_
      refine r_aload_n dX1_meetAll_135 1 rfl ?_
      refine s_getR (b := c + 9) ok_X1 dX1_meetAll_136 (k := 5) (by decide) fl_X1_23 hc0 rfl (cq_s5 hc0) ?_
      refine s_getU dX1_meetAll_139 fl_X1_50 (cq_9 hc0) ?_
      refine x_callV0 (Y := mX7_push) (d' := 3) dX1_meetAll_142 ml_X1_68 yv_X7_push (by omega) rfl rfl (by simp [Value.category]) (sR_isR (cq_6 hc0)) (c_pushU (cq_6 hc0) hI.2.2.1 (vU σ (c + 9))) ?_
      refine r_vret rfl dX1_meetAll_145 ?_
      exact ⟨rfl, by rw [p_out, if_pos c1]; rfl⟩
    · have c1 : ¬ ((vI σ c 7) ≤ (nI v)) := c1
      refine r_iload_n dX1_meetAll_63 0 rfl ?_
      refine r_sipush (v := 300) dX1_meetAll_64 (by decide) ?_
      refine r_icmp_ge (t := 131) dX1_meetAll_67 (by decide) (fun hh => absurd hh h3) (fun _ => ?_)
      refine r_iconst (v := 0) dX1_meetAll_70 (by decide) ?_
      refine r_istore_n (lo' := [(2, .int 0), (1, .int (nI v)), (0, .ref (ad c))]) dX1_meetAll_71 (by decide) rfl ?_
      refine ab_E.lo [0, 1, 2] (lo' := [(2, .int (nI 0)), (1, .int (nI v)), (0, .ref (ad c))]) rfl ?_
      refine l_X1_in hc0 hN4 hG3 G 0 σ hI (by omega) (fun hq => ?_) (fun hq => ⟨rfl, by rw [p_out, if_neg c1, if_pos hq]⟩)
      refine r_iinc (v := (nI v) + 1) (lo' := [(1, .int ((nI v) + 1)), (2, .int (nI G)), (0, .ref (ad c))]) dX1_meetAll_125 1 rfl rfl (by decide) rfl ?_
      refine r_goto (t := 55) dX1_meetAll_128 (by decide) ?_
      rw [nI_1, p_out, if_neg c1, if_neg (by rw [hq]; decide)]
      exact ab_E.lo [0, 2] rfl (ih (v + 1) _ (hI.in hc0 G 0 σ) (by omega))
theorem pI.a1 {c N G : Nat} {σ : sS} (hc0 : la c = (1, 1)) (hN : vI σ (c - 6) 1 = nI N) (hG : vI σ (c - 6) 2 = nI G) (h6 : vC σ (c + 6) ≤ 270000) (h9 : vC σ (c + 9) ≤ 270000) : pI c N G (p_a1 σ c) := by
  refine pI.ok hc0 ?_ (p_ok.mt (σ := p_a0 σ c))
  have e : vI (p_a0 σ c) (c - 6) = vI σ (c - 6) := by
    unfold p_a0
    rw [vI_r (by rcases cq_is hc0 with rfl | rfl | rfl <;> decide)]
    show vI (rx (rz σ 26 1024) (c + 3) 300) (c - 6) = _
    rw [rx_I, rz_I (by rcases cq_is hc0 with rfl | rfl | rfl <;> decide)]
  refine ⟨by rw [e]; exact hN, by rw [e]; exact hG, ⟨?_, 0, by omega, ?_⟩, ⟨?_, 0, by omega, ?_⟩⟩
  · show vC (rx (rz σ 26 1024) (c + 3) 300) (c + 6) ≤ 270000
    rw [rx_Cn (by omega), rz_C (by rcases cq_is hc0 with rfl | rfl | rfl <;> decide)]
    exact h6
  · show u1 (u1 (rx (rz σ 26 1024) (c + 3) 300).2.2.2.1 (c + 6) 0) (c + 9) 0 (c + 6) = nI 0
    simp [u1]
    rfl
  · show vC (rx (rz σ 26 1024) (c + 3) 300) (c + 9) ≤ 270000
    rw [rx_Cn (by omega), rz_C (by rcases cq_is hc0 with rfl | rfl | rfl <;> decide)]
    exact h9
  · show u1 (u1 (rx (rz σ 26 1024) (c + 3) 300).2.2.2.1 (c + 6) 0) (c + 9) 0 (c + 9) = nI 0
    simp [u1]
    rfl
theorem c_X1_meetAll {ad : Nat → Nat} (σ : sS) {c N G : Nat} (hc0 : la c = (1, 1)) (hN4 : N ≤ 4) (hG3 : G ≤ 3) (hN : vI σ (c - 6) 1 = nI N) (hG : vI σ (c - 6) 2 = nI G) : ab_X (sR ad) 9 mX1_meetAll [.ref (ad c)] σ none (p_all σ c N G) := by
  refine ab_C.kn (P := vC σ (c + 6) ≤ 270000 ∧ vC σ (c + 9) ≤ 270000) (fun g hg => ?_) (fun hcap => ?_)
  · obtain ⟨ar, hg⟩ := hg
    obtain ⟨f, -, -, -, f4⟩ := hg.2.1 (c + 6) (by rw [cq_6 hc0])
    obtain ⟨f', -, -, -, f4'⟩ := hg.2.1 (c + 9) (by rw [cq_9 hc0])
    exact ⟨f4, f4'⟩
  refine ab_X.of (by decide) (Nat.le_of_ble_eq_true rfl) ?_
  refine r_aload_n dX1_meetAll_0 0 rfl ?_
  refine s_getR (b := 26) ok_X1 dX1_meetAll_1 (k := 2) (by decide) fl_X1_34 hc0 rfl (cq_s2 hc0) ?_
  refine r_sipush (v := 1024) dX1_meetAll_4 (by decide) ?_
  refine x_callV0 (Y := mX7_wipe) (d' := 3) dX1_meetAll_7 ml_X1_44 yv_X7_wipe (by omega) rfl rfl (by simp [Value.category]) (sR_isR rfl) (c_wipe rfl 1024 (by decide)) ?_
  refine r_aload_n dX1_meetAll_10 0 rfl ?_
  refine s_getR (b := c + 3) ok_X1 dX1_meetAll_11 (k := 3) (by decide) fl_X1_14 hc0 rfl (cq_s3 hc0) ?_
  refine r_sipush (v := 300) dX1_meetAll_14 (by decide) ?_
  refine x_callV0 (Y := mX7_stretch) (d' := 2) dX1_meetAll_17 ml_X1_47 yv_X7_stretch (by omega) rfl rfl (by simp [Value.category]) (sR_isR (cq_3 hc0)) (c_stretch (cq_3 hc0) 300 (by decide)) ?_
  refine r_aload_n dX1_meetAll_20 0 rfl ?_
  refine s_getR (b := c + 6) ok_X1 dX1_meetAll_21 (k := 4) (by decide) fl_X1_20 hc0 rfl (cq_s4 hc0) ?_
  refine r_iconst (v := 0) dX1_meetAll_24 (by decide) ?_
  refine s_putU dX1_meetAll_25 fl_X1_50 (cq_6 hc0) ?_
  refine r_aload_n dX1_meetAll_28 0 rfl ?_
  refine s_getR (b := c + 9) ok_X1 dX1_meetAll_29 (k := 5) (by decide) fl_X1_23 hc0 rfl (cq_s5 hc0) ?_
  refine r_iconst (v := 0) dX1_meetAll_32 (by decide) ?_
  refine s_putU dX1_meetAll_33 fl_X1_50 (cq_9 hc0) ?_
  refine r_aload_n dX1_meetAll_36 0 rfl ?_
  refine r_iconst (v := 0) dX1_meetAll_37 (by decide) ?_
  refine s_putI ok_X1 dX1_meetAll_38 (k := 7) (by decide) fl_X1_53 rfl rfl rfl hc0 rfl ?_
  refine r_aload_n dX1_meetAll_41 0 rfl ?_
  refine r_aload_n dX1_meetAll_42 0 rfl ?_
  refine s_getR (b := c - 6) ok_X1 dX1_meetAll_43 (k := 0) (by decide) fl_X1_26 hc0 rfl (cq_s0 hc0) ?_
  refine s_getI ok_X0 dX1_meetAll_46 (k := 3) (by decide) fl_X1_56 (cq_m hc0) rfl ?_
  refine x_callV (Y := mX1_meet) (d' := 3) dX1_meetAll_49 ml_X1_61 yv_X1_meet (by omega) rfl rfl (by simp [Value.category]) (sR_is hc0 rfl) (c_X1_meet (uI (uU (uU (rx (rz σ 26 1024) (c + 3) 300) (c + 6) 0) (c + 9) 0) c 7 0) hc0 (vI (uI (uU (uU (rx (rz σ 26 1024) (c + 3) 300) (c + 6) 0) (c + 9) 0) c 7 0) (c - 6) 3)) ?_
  refine r_pop dX1_meetAll_52 rfl ?_
  refine r_iconst (v := 0) dX1_meetAll_53 (by decide) ?_
  refine r_istore_n (lo' := [(1, .int 0), (0, .ref (ad c))]) dX1_meetAll_54 (by decide) rfl ?_
  exact l_X1_out hc0 hN4 hG3 300 0 (p_a1 σ c) (pI.a1 hc0 hN hG hcap.1 hcap.2) (by decide)
def p_st (σ : sS) (c N G : Nat) : sS := if vI σ c 6 = 0 then p_all (uI σ c 6 1) c N G else σ
def p_sd (σ : sS) (c N G : Nat) : Int32 := if vI (p_st σ c N G) c 6 = 1 then 1 else 0
theorem c_X1_stands {ad : Nat → Nat} (σ : sS) {c N G : Nat} (hc0 : la c = (1, 1)) (hN4 : N ≤ 4) (hG3 : G ≤ 3) (hN : vI σ (c - 6) 1 = nI N) (hG : vI σ (c - 6) 2 = nI G) : ab_X (sR ad) 10 mX1_stands [.ref (ad c)] σ (some (.int (p_sd σ c N G))) (p_st σ c N G) := by
  refine ab_X.of (by decide) (Nat.le_of_ble_eq_true rfl) ?_
  refine r_aload_n dX1_stands_0 0 rfl ?_
  refine s_getI ok_X1 dX1_stands_1 (k := 6) (by decide) fl_X1_37 hc0 rfl ?_
  refine r_if_ne (t := 16) dX1_stands_4 (by decide) (fun c1 => ?_) (fun c1 => ?_)
  · have c1 : ¬ ((vI σ c 6) = 0) := c1
    refine r_aload_n dX1_stands_16 0 rfl ?_
    refine s_getI ok_X1 dX1_stands_17 (k := 6) (by decide) fl_X1_37 hc0 rfl ?_
    refine r_iconst (v := 1) dX1_stands_20 (by decide) ?_
    refine r_icmp_ne (t := 28) dX1_stands_21 (by decide) (fun c2 => ?_) (fun c2 => ?_)
    · have c2 : ¬ ((vI σ c 6) = 1) := c2
      refine r_iconst (v := 0) dX1_stands_28 (by decide) ?_
      refine r_zret rfl (by decide) dX1_stands_29 ?_
      have e0 : p_st σ c N G = σ := by unfold p_st; rw [if_neg c1]
      exact ⟨by unfold p_sd; rw [e0, if_neg c2], e0.symm⟩
    · have c2 : (vI σ c 6) = 1 := c2
      refine r_iconst (v := 1) dX1_stands_24 (by decide) ?_
      refine r_goto (t := 29) dX1_stands_25 (by decide) ?_
      refine r_zret rfl (by decide) dX1_stands_29 ?_
      have e0 : p_st σ c N G = σ := by unfold p_st; rw [if_neg c1]
      exact ⟨by unfold p_sd; rw [e0, if_pos c2], e0.symm⟩
  · have c1 : (vI σ c 6) = 0 := c1
    refine r_aload_n dX1_stands_7 0 rfl ?_
    refine r_iconst (v := 1) dX1_stands_8 (by decide) ?_
    refine s_putI ok_X1 dX1_stands_9 (k := 6) (by decide) fl_X1_37 rfl rfl rfl hc0 rfl ?_
    refine r_aload_n dX1_stands_12 0 rfl ?_
    refine x_callV0 (Y := mX1_meetAll) (d' := 9) dX1_stands_13 ml_X1_41 yv_X1_meetAll (by omega) rfl rfl (by simp [Value.category]) (sR_is hc0 rfl) (c_X1_meetAll (uI σ c 6 1) hc0 hN4 hG3 (by rw [vI_r (by rcases cq_is hc0 with rfl | rfl | rfl <;> decide)]; exact hN) (by rw [vI_r (by rcases cq_is hc0 with rfl | rfl | rfl <;> decide)]; exact hG)) ?_
    refine r_aload_n dX1_stands_16 0 rfl ?_
    refine s_getI ok_X1 dX1_stands_17 (k := 6) (by decide) fl_X1_37 hc0 rfl ?_
    refine r_iconst (v := 1) dX1_stands_20 (by decide) ?_
    refine r_icmp_ne (t := 28) dX1_stands_21 (by decide) (fun c3 => ?_) (fun c3 => ?_)
    · have c3 : ¬ ((vI (p_all (uI σ c 6 1) c N G) c 6) = 1) := c3
      refine r_iconst (v := 0) dX1_stands_28 (by decide) ?_
      refine r_zret rfl (by decide) dX1_stands_29 ?_
      have e0 : p_st σ c N G = p_all (uI σ c 6 1) c N G := by unfold p_st; rw [if_pos c1]
      exact ⟨by unfold p_sd; rw [e0, if_neg c3], e0.symm⟩
    · have c3 : (vI (p_all (uI σ c 6 1) c N G) c 6) = 1 := c3
      refine r_iconst (v := 1) dX1_stands_24 (by decide) ?_
      refine r_goto (t := 29) dX1_stands_25 (by decide) ?_
      refine r_zret rfl (by decide) dX1_stands_29 ?_
      have e0 : p_st σ c N G = p_all (uI σ c 6 1) c N G := by unfold p_st; rw [if_pos c1]
      exact ⟨by unfold p_sd; rw [e0, if_pos c3], e0.symm⟩
