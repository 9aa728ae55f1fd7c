/-! Complement: its nodes met -/
/-- what a push can go on from -/
def uok (σ : sS) (r : Nat) : Prop := vC σ r ≤ 270000 ∧ ∃ k, k ≤ 270000 ∧ vU σ r = nI k
def rqu (σ : sS) (r : Nat) (x : Int32) : sS := rq σ r (vU σ r).toNatClampNeg x
theorem uok.same {σ τ : sS} {r : Nat} (h : uok σ r) (e : τ.2 = σ.2) : uok τ r := by
  unfold uok vC vU at *
  rw [e]
  exact h
theorem c_pushU {ad : Nat → Nat} {σ : sS} {r : Nat} (hr : la r = (7, 0)) (h : uok σ r) (x : Int32) : ab_X (sR ad) 3 mX7_push [.ref (ad r), .int x] σ none (rqu σ r x) := by
  obtain ⟨-, k, hk, hu⟩ := h
  unfold rqu
  rw [hu, nI_clamp (by omega)]
  exact c_push hr hu (by omega) x
theorem uok.push {σ : sS} {r : Nat} (h : uok σ r) (x : Int32) : uok (rqu σ r x) r := by
  obtain ⟨hc, k, hk, hu⟩ := h
  have hcap : vC (rx σ r (k + 1)) r ≤ 270000 := by rw [rx_C]; exact (rw_cap_le hc).1
  unfold rqu
  rw [hu, nI_clamp (by omega)]
  unfold rq
  by_cases c : k < vC (rx σ r (k + 1)) r
  · rw [if_pos c]
    exact ⟨hcap, k + 1, by omega, by simp [vU, uU, u1]⟩
  · rw [if_neg c]
    exact ⟨hcap, k, hk, by rw [rx_U]; exact hu⟩
theorem rq_U {σ : sS} {r k b : Nat} {x : Int32} (hb : b ≠ r) : vU (rq σ r k x) b = vU σ b := by
  unfold rq
  by_cases c : k < vC (rx σ r (k + 1)) r
  · rw [if_pos c]
    show u1 _ _ _ _ = _
    unfold u1
    rw [if_neg hb]
    exact rx_U
  · rw [if_neg c]; exact rx_U
theorem rq_C {σ : sS} {r k b : Nat} {x : Int32} (hb : b ≠ r) : vC (rq σ r k x) b = vC σ b := by
  unfold rq
  by_cases c : k < vC (rx σ r (k + 1)) r
  · rw [if_pos c]; exact rx_Cn hb
  · rw [if_neg c]; exact rx_Cn hb
theorem uok.other {σ : sS} {r b : Nat} (h : uok σ b) (hb : b ≠ r) (x : Int32) : uok (rqu σ r x) b := by
  unfold uok rqu
  rw [rq_U hb, rq_C hb]
  exact h
theorem vI_s {σ : sS} {a k : Nat} {x : Int32} : vI (uI σ a k x) a k = x := u2_s _ _ _ _
theorem vI_r {σ : sS} {a b k : Nat} {x : Int32} (h : b ≠ a) : vI (uI σ a k x) b = vI σ b := u2_r h
theorem vI_n {σ : sS} {a b j k : Nat} {x : Int32} (h : b ≠ a ∨ j ≠ k) : vI (uI σ a k x) b j = vI σ b j := u2_n h
theorem rp_2 {σ : sS} {r : Nat} {i x : Int32} : (rp σ r i x).2 = σ.2 := by
  unfold rp
  by_cases c : i < 0 ∨ vC σ r ≤ i.toNatClampNeg
  · rw [if_pos c]
  · rw [if_neg c]; rfl
theorem rp_I {σ : sS} {r b : Nat} {i x : Int32} (hb : b ≠ r) : vI (rp σ r i x) b = vI σ b := by
  unfold rp
  by_cases c : i < 0 ∨ vC σ r ≤ i.toNatClampNeg
  · rw [if_pos c]
  · rw [if_neg c]; exact u2_r hb
theorem rq_I {σ : sS} {r k b : Nat} {x : Int32} (hb : b ≠ r) : vI (rq σ r k x) b = vI σ b := by
  unfold rq
  by_cases c : k < vC (rx σ r (k + 1)) r
  · rw [if_pos c]
    show u2 _ _ _ _ b = _
    rw [u2_r hb]
    show vI (rx σ r (k + 1)) b = _
    rw [rx_I]
  · rw [if_neg c, rx_I]
theorem p_mt_2 {σ : sS} {c : Nat} {k : Int32} : (p_mt σ c k).2 = σ.2 := by
  unfold p_mt p_m2 p_m1
  by_cases h1 : rg σ 26 (p_sl σ c k) - 1 < 0
  · rw [if_pos h1]
    by_cases h2 : vI σ c 7 < 300
    · rw [if_pos h2, rp_2]
      show (rp σ (c + 3) (vI σ c 7) k).2 = σ.2
      rw [rp_2]
    · rw [if_neg h2]; rfl
  · rw [if_neg h1]
theorem p_mt_I {σ : sS} {c b : Nat} {k : Int32} (h0 : b ≠ c) (h3 : b ≠ c + 3) (h6 : b ≠ 26) : vI (p_mt σ c k) b = vI σ b := by
  unfold p_mt p_m2 p_m1
  by_cases h1 : rg σ 26 (p_sl σ c k) - 1 < 0
  · rw [if_pos h1]
    by_cases h2 : vI σ c 7 < 300
    · rw [if_pos h2, rp_I h6]
      show u2 _ _ _ _ b = _
      rw [u2_r h0]
      show vI (rp σ (c + 3) (vI σ c 7) k) b = _
      rw [rp_I h3]
    · rw [if_neg h2]; exact u2_r h0
  · rw [if_neg h1]
theorem k_lp_2 {F : sS → Int32 → sS} {step cap : Int32} (hF : ∀ τ r, (F τ r).2 = τ.2) : ∀ (k : Nat) (r : Int32) (σ : sS), (k_lp F step cap k r σ).2 = σ.2 := by
  intro k
  induction k with
  | zero => intro r σ; rfl
  | succ k ih =>
    intro r σ
    rw [k_lp]
    by_cases h : cap < r
    · rw [if_pos h]
    · rw [if_neg h, ih, hF]
theorem k_rf_2 : ∀ (n : Nat) (σ : sS) (s rk ms : Int32), (k_rf n σ s rk ms).2 = σ.2 := by
  intro n
  induction n with
  | zero =>
    intro σ s rk ms
    rw [k_rf]
    split
    · show (rp σ 16 (vI σ 15 1) rk).2 = σ.2
      rw [rp_2]
    · rfl
  | succ n ih =>
    intro σ s rk ms
    rw [k_rf]
    split
    · split
      · exact ih _ _ _ _
      · exact k_lp_2 (fun τ r => ih _ _ _ _) _ _ _
    · rfl
theorem k_lp_I {F : sS → Int32 → sS} {step cap : Int32} {b : Nat} (hF : ∀ τ r, vI (F τ r) b = vI τ b) : ∀ (k : Nat) (r : Int32) (σ : sS), vI (k_lp F step cap k r σ) b = vI σ b := by
  intro k
  induction k with
  | zero => intro r σ; rfl
  | succ k ih =>
    intro r σ
    rw [k_lp]
    by_cases h : cap < r
    · rw [if_pos h]
    · rw [if_neg h, ih, hF]
theorem k_rf_I {b : Nat} (h1 : b ≠ 15) (h2 : b ≠ 16) : ∀ (n : Nat) (σ : sS) (s rk ms : Int32), vI (k_rf n σ s rk ms) b = vI σ b := by
  intro n
  induction n with
  | zero =>
    intro σ s rk ms
    rw [k_rf]
    split
    · show u2 _ _ _ _ b = _
      rw [u2_r h1]
      show vI (rp σ 16 (vI σ 15 1) rk) b = _
      rw [rp_I h2]
    · rfl
  | succ n ih =>
    intro σ s rk ms
    rw [k_rf]
    split
    · split
      · exact ih _ _ _ _
      · exact k_lp_I (fun τ r => ih _ _ _ _) _ _ _
    · rfl
/-- how many rankings are found: counted from F on -/
theorem k_lp_c {F : sS → Int32 → sS} {step cap : Int32} {q : Nat} (hF : ∀ τ r m, vI τ 15 1 = nI m → ∃ m', vI (F τ r) 15 1 = nI m' ∧ m' ≤ m + q) : ∀ (k : Nat) (r : Int32) (σ : sS) (m : Nat), vI σ 15 1 = nI m → ∃ m', vI (k_lp F step cap k r σ) 15 1 = nI m' ∧ m' ≤ m + k * q := by
  intro k
  induction k with
  | zero => intro r σ m hm; exact ⟨m, hm, by omega⟩
  | succ k ih =>
    intro r σ m hm
    rw [k_lp]
    by_cases h : cap < r
    · rw [if_pos h]; exact ⟨m, hm, by omega⟩
    · rw [if_neg h]
      obtain ⟨m1, e1, l1⟩ := hF σ r m hm
      obtain ⟨m2, e2, l2⟩ := ih (r + step) (F σ r) m1 e1
      refine ⟨m2, e2, ?_⟩
      rw [Nat.succ_mul]
      omega
theorem k_rf_c : ∀ (n : Nat) (σ : sS) (s rk ms : Int32) (m : Nat), vI σ 15 1 = nI m → ∃ m', vI (k_rf n σ s rk ms) 15 1 = nI m' ∧ m' ≤ m + 8 ^ n := by
  intro n
  induction n with
  | zero =>
    intro σ s rk ms m hm
    rw [k_rf]
    split
    · refine ⟨m + 1, ?_, by omega⟩
      rw [vI_s, rp_I (by decide), hm, nI_1]
    · exact ⟨m, hm, by omega⟩
  | succ n ih =>
    intro σ s rk ms m hm
    rw [k_rf]
    split
    · split
      · obtain ⟨m1, e1, l1⟩ := ih σ (s + 1) rk ms m hm
        refine ⟨m1, e1, ?_⟩
        rw [Nat.pow_succ]
        omega
      · obtain ⟨m1, e1, l1⟩ := k_lp_c (q := 8 ^ n) (fun τ r m h => ih τ _ _ _ m h) 8 0 σ m hm
        refine ⟨m1, e1, ?_⟩
        rw [Nat.pow_succ]
        omega
    · exact ⟨m, hm, Nat.le_add_right _ _⟩
theorem k_fu_c (σ : sS) (t f g a : Int32) : ∃ m, vI (k_fu σ t f g a) 15 1 = nI m ∧ m ≤ 4096 := by
  obtain ⟨m, e, l⟩ := k_rf_c 4 (uI (uI (uI (uI σ 15 1 0) 15 2 t) 15 3 f) 15 4 a) 0 0 ((170 : Int32) &&& (((1 : Int32) <<< ((g + 1) &&& 31)) - 1)) 0 rfl
  exact ⟨m, e, by omega⟩
theorem k_fu_2 {σ : sS} {t f g a : Int32} : (k_fu σ t f g a).2 = σ.2 := by
  unfold k_fu
  rw [k_rf_2]
  rfl
theorem k_fu_I {σ : sS} {t f g a : Int32} {b : Nat} (h1 : b ≠ 15) (h2 : b ≠ 16) : vI (k_fu σ t f g a) b = vI σ b := by
  unfold k_fu
  rw [k_rf_I h1 h2]
  show u2 (u2 (u2 (u2 σ.1 15 1 0) 15 2 t) 15 3 f) 15 4 a b = _
  rw [u2_r h1, u2_r h1, u2_r h1, u2_r h1]
  rfl
def p_ky (t rk ow : Int32) : Int32 := (((1048576 : Int32) ||| (rk <<< ((8 : Int32) &&& 31))) ||| (ow <<< ((4 : Int32) &&& 31))) ||| t
def p_g1 (σ : sS) (c : Nat) (t mo i : Int32) : sS := rqu (p_mt σ c (p_ky t (rg σ 16 i) (mo &&& p_ev t (rg σ 16 i) 4))) (c + 9) (p_ma σ c (p_ky t (rg σ 16 i) (mo &&& p_ev t (rg σ 16 i) 4)))
def p_gp (c : Nat) (t mo : Int32) : Nat → Nat → sS → sS
  | 0, _, σ => σ
  | n + 1, i, σ => if vI σ c 6 = 2 then σ else p_gp c t mo n (i + 1) (p_g1 σ c t mo (nI i))
theorem p_g1_I {σ : sS} {c b : Nat} {t mo i : Int32} (h0 : b ≠ c) (h3 : b ≠ c + 3) (h6 : b ≠ 26) (h9 : b ≠ c + 9) : vI (p_g1 σ c t mo i) b = vI σ b := by
  unfold p_g1 rqu
  rw [rq_I h9, p_mt_I h0 h3 h6]
theorem p_g1_u {σ : sS} {c : Nat} {t mo i : Int32} (h : uok σ (c + 9)) : uok (p_g1 σ c t mo i) (c + 9) := (h.same p_mt_2).push _
theorem l_X1_gp {ad : Nat → Nat} {c F : Nat} (hc0 : la c = (1, 1)) (hF2 : F ≤ 5000) {t mo : Int32} : ∀ (n i : Nat) (σ : sS), vI σ 15 1 = nI F → uok σ (c + 9) → i + n = F → ab_E (sR ad) mX1_goToPairs 4 2 [(3, .int (nI i)), (0, .ref (ad c)), (1, .int t), (2, .int mo)] [] σ (fun r σ' => r = none ∧ σ' = p_gp c t mo n i σ) := by
  have hd0 : (15 : Nat) ≠ c := by rcases cq_is hc0 with rfl | rfl | rfl <;> decide
  have hd3 : (15 : Nat) ≠ c + 3 := by rcases cq_is hc0 with rfl | rfl | rfl <;> decide
  have hd9 : (15 : Nat) ≠ c + 9 := by rcases cq_is hc0 with rfl | rfl | rfl <;> decide
  intro n
  induction n with
  | zero =>
    intro i σ hF hu hi
    have hc : vI σ 15 1 ≤ nI i := by rw [hF]; exact nI_le (by omega) (by omega)
    refine r_iload_n dX1_goToPairs_2 0 rfl ?_
    refine r_aload_n dX1_goToPairs_3 1 rfl ?_
    refine s_getR (b := 15) ok_X1 dX1_goToPairs_4 (k := 1) (by decide) fl_X1_30 hc0 rfl (cq_s1 hc0) ?_
    refine s_getI ok_X4 dX1_goToPairs_7 (k := 1) (by decide) fl_X1_107 rfl rfl ?_
    refine r_icmp_ge (t := 73) dX1_goToPairs_10 (by decide) (fun _ => ?_) (fun hh => absurd hc hh)
    refine r_vret rfl dX1_goToPairs_73 ?_
    exact ⟨rfl, rfl⟩
  | succ n ih =>
    intro i σ hF hu hi
    have hc : ¬ vI σ 15 1 ≤ nI i := by rw [hF]; exact nI_ge (by omega) (by omega)
    refine r_iload_n dX1_goToPairs_2 0 rfl ?_
    refine r_aload_n dX1_goToPairs_3 1 rfl ?_
    refine s_getR (b := 15) ok_X1 dX1_goToPairs_4 (k := 1) (by decide) fl_X1_30 hc0 rfl (cq_s1 hc0) ?_
    refine s_getI ok_X4 dX1_goToPairs_7 (k := 1) (by decide) fl_X1_107 rfl rfl ?_
    refine r_icmp_ge (t := 73) dX1_goToPairs_10 (by decide) (fun hh => absurd hh hc) (fun _ => ?_)
    refine r_aload_n dX1_goToPairs_13 1 rfl ?_
    refine s_getI ok_X1 dX1_goToPairs_14 (k := 6) (by decide) fl_X1_37 hc0 rfl ?_
    refine r_iconst (v := 2) dX1_goToPairs_17 (by decide) ?_
    refine r_icmp_eq (t := 73) dX1_goToPairs_18 (by decide) (fun c1 => ?_) (fun c1 => ?_)
    · have c1 : (vI σ c 6) = 2 := c1
      refine r_vret rfl dX1_goToPairs_73 ?_
      exact ⟨rfl, by rw [p_gp, if_pos c1]⟩
    · have c1 : ¬ ((vI σ c 6) = 2) := c1
      refine r_aload_n dX1_goToPairs_21 1 rfl ?_
      refine s_getR (b := 15) ok_X1 dX1_goToPairs_22 (k := 1) (by decide) fl_X1_30 hc0 rfl (cq_s1 hc0) ?_
      refine r_iload_n dX1_goToPairs_25 0 rfl ?_
      refine x_callV (Y := mX4_foundAt) (d' := 2) dX1_goToPairs_26 ml_X1_108 yv_X4_foundAt (by omega) rfl rfl (by simp [Value.category]) (sR_is rfl rfl) (c_X4_foundAt σ (nI i)) ?_
      refine r_istore (lo' := [(4, .int (rg σ 16 (nI i))), (3, .int (nI i)), (0, .ref (ad c)), (1, .int t), (2, .int mo)]) dX1_goToPairs_29 (by decide) rfl ?_
      refine r_iload_n dX1_goToPairs_31 4 rfl ?_
      refine r_iload_n dX1_goToPairs_32 3 rfl ?_
      refine r_iload dX1_goToPairs_33 0 rfl ?_
      refine x_callS (Y := mX1_evenOnes) (d' := 2) dX1_goToPairs_35 ml_X1_111 ys_X1_evenOnes (by omega) rfl rfl (by simp [Value.category]) (c_X1_evenOnes σ t (rg σ 16 (nI i))) ?_
      refine r_iand dX1_goToPairs_38 ?_
      refine r_istore (lo' := [(5, .int (mo &&& (p_ev t (rg σ 16 (nI i)) 4))), (4, .int (rg σ 16 (nI i))), (3, .int (nI i)), (0, .ref (ad c)), (1, .int t), (2, .int mo)]) dX1_goToPairs_39 (by decide) rfl ?_
      refine r_aload_n dX1_goToPairs_41 3 rfl ?_
      refine s_getR (b := c + 9) ok_X1 dX1_goToPairs_42 (k := 5) (by decide) fl_X1_23 hc0 rfl (cq_s5 hc0) ?_
      refine r_aload_n dX1_goToPairs_45 3 rfl ?_
      refine r_ldc (v := 1048576) dX1_goToPairs_46 co_X1_82 ?_
      refine r_iload dX1_goToPairs_48 1 rfl ?_
      refine r_bipush (v := 8) dX1_goToPairs_50 (by decide) ?_
      refine r_ishl dX1_goToPairs_52 ?_
      refine r_ior dX1_goToPairs_53 ?_
      refine r_iload dX1_goToPairs_54 0 rfl ?_
      refine r_iconst (v := 4) dX1_goToPairs_56 (by decide) ?_
      refine r_ishl dX1_goToPairs_57 ?_
      refine r_ior dX1_goToPairs_58 ?_
      refine r_iload_n dX1_goToPairs_59 4 rfl ?_
      refine r_ior dX1_goToPairs_60 ?_
      refine x_callV (Y := mX1_meet) (d' := 3) dX1_goToPairs_61 ml_X1_61 yv_X1_meet (by omega) rfl rfl (by simp [Value.category]) (sR_is hc0 rfl) (c_X1_meet σ hc0 ((((1048576 : Int32) ||| ((rg σ 16 (nI i)) <<< ((8 : Int32) &&& 31))) ||| ((mo &&& (p_ev t (rg σ 16 (nI i)) 4)) <<< ((4 : Int32) &&& 31))) ||| t)) ?_
      refine x_callV0 (Y := mX7_push) (d' := 3) dX1_goToPairs_64 ml_X1_68 yv_X7_push (by omega) rfl rfl (by simp [Value.category]) (sR_isR (cq_9 hc0)) (c_pushU (cq_9 hc0) (hu.same p_mt_2) (p_ma σ c ((((1048576 : Int32) ||| ((rg σ 16 (nI i)) <<< ((8 : Int32) &&& 31))) ||| ((mo &&& (p_ev t (rg σ 16 (nI i)) 4)) <<< ((4 : Int32) &&& 31))) ||| t))) ?_
      refine r_iinc (v := (nI i) + 1) (lo' := [(3, .int ((nI i) + 1)), (5, .int (mo &&& (p_ev t (rg σ 16 (nI i)) 4))), (4, .int (rg σ 16 (nI i))), (0, .ref (ad c)), (1, .int t), (2, .int mo)]) dX1_goToPairs_67 2 rfl rfl (by decide) rfl ?_
      refine r_goto (t := 2) dX1_goToPairs_70 (by decide) ?_
      rw [nI_1, p_gp, if_neg c1]
      exact ab_E.lo [0, 3, 4, 5] rfl (ih (i + 1) (p_g1 σ c t mo (nI i)) (by rw [p_g1_I hd0 hd3 (by decide) hd9]; exact hF) (p_g1_u hu) (by omega))
theorem c_X1_goToPairs {ad : Nat → Nat} (σ : sS) {c F : Nat} (hc0 : la c = (1, 1)) (hF : vI σ 15 1 = nI F) (hF2 : F ≤ 5000) (hu : uok σ (c + 9)) (t mo : Int32) : ab_X (sR ad) 4 mX1_goToPairs [.ref (ad c), .int t, .int mo] σ none (p_gp c t mo F 0 σ) := by
  refine ab_X.of (by decide) (Nat.le_of_ble_eq_true rfl) ?_
  refine r_iconst (v := 0) dX1_goToPairs_0 (by decide) ?_
  refine r_istore_n (lo' := [(3, .int 0), (0, .ref (ad c)), (1, .int t), (2, .int mo)]) dX1_goToPairs_1 (by decide) rfl ?_
  exact l_X1_gp hc0 hF2 F 0 σ hF hu (by omega)
