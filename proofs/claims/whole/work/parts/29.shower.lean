/-! Shower -/
def srel (σ τ : sS) : Prop := (∀ b, (b < 56 ∨ 61 < b) → vI τ b = vI σ b ∧ vU τ b = vU σ b ∧ vC τ b = vC σ b) ∧ τ.2.1 = σ.2.1 ∧ τ.2.2.1 = σ.2.2.1
theorem srel.rf {σ : sS} : srel σ σ := ⟨fun _ _ => ⟨rfl, rfl, rfl⟩, rfl, rfl⟩
theorem srel.tr {σ τ υ : sS} (h : srel σ τ) (k : srel τ υ) : srel σ υ := ⟨fun b hb => ⟨(k.1 b hb).1.trans (h.1 b hb).1, (k.1 b hb).2.1.trans (h.1 b hb).2.1, (k.1 b hb).2.2.trans (h.1 b hb).2.2⟩, k.2.1.trans h.2.1, k.2.2.trans h.2.2⟩
theorem srel.rp {σ : sS} {r : Nat} {i x : Int32} (h1 : 56 ≤ r) (h2 : r ≤ 61) : srel σ (rp σ r i x) := ⟨fun b hb => ⟨rp_I (by omega), by unfold vU; rw [rp_2], by unfold vC; rw [rp_2]⟩, by rw [rp_2], by rw [rp_2]⟩
theorem rx_L {σ : sS} {r m : Nat} : (rx σ r m).2.1 = σ.2.1 ∧ (rx σ r m).2.2.1 = σ.2.2.1 := by
  unfold rx
  split <;> exact ⟨rfl, rfl⟩
theorem srel.rx {σ : sS} {r m : Nat} (h1 : 56 ≤ r) (h2 : r ≤ 61) : srel σ (rx σ r m) := ⟨fun b hb => ⟨by rw [rx_I], rx_U, rx_Cn (by omega)⟩, rx_L.1, rx_L.2⟩
theorem srel.uU {σ : sS} {r : Nat} {x : Int32} (h1 : 56 ≤ r) (h2 : r ≤ 61) : srel σ (uU σ r x) := ⟨fun b hb => ⟨rfl, by show u1 _ _ _ _ = _; unfold u1; rw [if_neg (by omega)]; rfl, rfl⟩, rfl, rfl⟩
theorem srel.uI {σ : sS} {k : Nat} {x : Int32} : srel σ (uI σ 56 k x) := ⟨fun b hb => ⟨vI_r (by omega), rfl, rfl⟩, rfl, rfl⟩
theorem srel.rz {σ : sS} {r m : Nat} (h1 : 56 ≤ r) (h2 : r ≤ 61) : srel σ (rz σ r m) := ⟨fun b hb => ⟨rz_I (by omega), by show u1 _ _ _ _ = _; unfold u1; rw [if_neg (by omega)]; exact rx_U, by show vC (_root_.Jvm.Pilot.@@N@@.rx σ r m) b = _; exact rx_Cn (by omega)⟩, rx_L.1, rx_L.2⟩
theorem rq_L {σ : sS} {r k : Nat} {x : Int32} : (rq σ r k x).2.1 = σ.2.1 ∧ (rq σ r k x).2.2.1 = σ.2.2.1 := by
  unfold rq
  split <;> exact ⟨rx_L.1, rx_L.2⟩
theorem srel.rq {σ : sS} {r : Nat} {x : Int32} (h1 : 56 ≤ r) (h2 : r ≤ 61) : srel σ (rqu σ r x) := ⟨fun b hb => ⟨rq_I (by omega), rq_U (by omega), rq_C (by omega)⟩, rq_L.1, rq_L.2⟩
def w_so (fM : sS → List Int32 → Int32) (σ : sS) (v : Int32) : Int32 := if fM σ [v] = 0 then 0 else if l_hs σ v 4 = 0 then 0 else 1
theorem c_X8_isSought {ad : Nat → Nat} (σ : sS) {d' G : Nat} {J : sS → Prop} {fM : sS → List Int32 → Int32} (hd : 3 ≤ d') (hM : gr_m ad G J ⟨"OddRanks$Graph", "isMarked", "(I)Z"⟩ 1 d' fM) (hJ : J σ) (v : Int32) : ab_X (sR ad) (d' + 1) mX8_isSought [.ref (ad 56), .ref (ad G), .int v] σ (some (.int (w_so fM σ v))) σ := by
  refine ab_X.of (by decide) (Nat.le_of_ble_eq_true rfl) ?_
  refine r_aload_n dX8_isSought_0 1 rfl ?_
  refine r_iload_n dX8_isSought_1 2 rfl ?_
  refine x_callG [v] hM dX8_isSought_2 ml_X8_106 (by omega) hJ rfl rfl (by simp [Value.category]) ?_
  refine r_if_eq (t := 23) dX8_isSought_5 (by decide) (fun c1 => ?_) (fun c1 => ?_)
  · have c1 : (fM σ [v]) = 0 := c1
    refine r_iconst (v := 0) dX8_isSought_23 (by decide) ?_
    refine r_zret rfl (by decide) dX8_isSought_24 ?_
    exact ⟨by unfold w_so; simp only [eq_true c1, ↓reduceIte], rfl⟩
  · have c1 : ¬ ((fM σ [v]) = 0) := c1
    refine r_aload_n dX8_isSought_8 0 rfl ?_
    refine s_getR (b := 19) ok_X8 dX8_isSought_9 (k := 0) (by decide) fl_X8_32 rfl rfl rfl ?_
    refine r_iload_n dX8_isSought_12 2 rfl ?_
    refine x_callV (Y := mX3_isOnLoop) (d' := 3) dX8_isSought_13 ml_X8_109 yv_X3_isOnLoop (by omega) rfl rfl (by simp [Value.category]) (sR_is rfl rfl) (c_X3_isOnLoop σ v) ?_
    refine r_if_eq (t := 23) dX8_isSought_16 (by decide) (fun c2 => ?_) (fun c2 => ?_)
    · have c2 : (l_hs σ v 4) = 0 := c2
      refine r_iconst (v := 0) dX8_isSought_23 (by decide) ?_
      refine r_zret rfl (by decide) dX8_isSought_24 ?_
      exact ⟨by unfold w_so; simp only [eq_false c1, eq_true c2, ↓reduceIte], rfl⟩
    · have c2 : ¬ ((l_hs σ v 4) = 0) := c2
      refine r_iconst (v := 1) dX8_isSought_19 (by decide) ?_
      refine r_goto (t := 24) dX8_isSought_20 (by decide) ?_
      refine r_zret rfl (by decide) dX8_isSought_24 ?_
      exact ⟨by unfold w_so; simp only [eq_false c1, eq_false c2, ↓reduceIte], rfl⟩
def w_s1 (σ : sS) (v s t : Int32) : sS := rp (rp (rp (rqu σ 57 t) 58 t v) 59 t s) 60 t (rg (rp (rp (rqu σ 57 t) 58 t v) 59 t s) 60 v + 1)
def w_ht (fM : sS → List Int32 → Int32) (σ : sS) (h t : Int32) : Int32 := if t = h then 1 else if h = -1 then w_so fM σ t else 0
def w_i (fE fM : sS → List Int32 → Int32) (v s h : Int32) : Nat → Nat → sS → Bool × Int32 × sS
  | 0, _, σ => (false, 0, σ)
  | n + 1, i, σ => if (rg σ 60 (fE σ [v, s, nI i]) = 0 ∨ fE σ [v, s, nI i] = h) then
      (if w_ht fM (w_s1 σ v s (fE σ [v, s, nI i])) h (fE σ [v, s, nI i]) = 0 then w_i fE fM v s h n (i + 1) (w_s1 σ v s (fE σ [v, s, nI i])) else (true, fE σ [v, s, nI i], w_s1 σ v s (fE σ [v, s, nI i])))
      else w_i fE fM v s h n (i + 1) σ
def w_o (fN fE fM : sS → List Int32 → Int32) (v h : Int32) : Nat → Nat → sS → Bool × Int32 × sS
  | 0, _, σ => (false, 0, σ)
  | n + 1, s, σ => if (w_i fE fM v (nI s) h (g_F fN σ v (nI s)) 0 σ).1 = true then w_i fE fM v (nI s) h (g_F fN σ v (nI s)) 0 σ else w_o fN fE fM v h n (s + 1) (w_i fE fM v (nI s) h (g_F fN σ v (nI s)) 0 σ).2.2
def w_sf (fN fE fM : sS → List Int32 → Int32) (Lc : Nat) (σ : sS) (v h : Int32) : Bool × Int32 × sS := w_o fN fE fM v h Lc 0 σ
theorem w_s1_ok {σ : sS} {v s t : Int32} : srel σ (w_s1 σ v s t) ∧ (uok σ 57 → uok (w_s1 σ v s t) 57) :=
  ⟨(((srel.rq (by decide) (by decide)).tr (srel.rp (by decide) (by decide))).tr (srel.rp (by decide) (by decide))).tr (srel.rp (by decide) (by decide)), fun h => (((h.push t).same rp_2).same rp_2).same rp_2⟩
theorem w_i_ok {fE fM : sS → List Int32 → Int32} {v s h : Int32} : ∀ (n i : Nat) (σ : sS), srel σ (w_i fE fM v s h n i σ).2.2 ∧ (uok σ 57 → uok (w_i fE fM v s h n i σ).2.2 57) := by
  intro n
  induction n with
  | zero => intro i σ; exact ⟨srel.rf, id⟩
  | succ n ih =>
    intro i σ
    rw [w_i]
    split
    · have k := w_s1_ok (σ := σ) (v := v) (s := s) (t := fE σ [v, s, nI i])
      split
      · have k2 := ih (i + 1) (w_s1 σ v s (fE σ [v, s, nI i]))
        exact ⟨k.1.tr k2.1, fun h => k2.2 (k.2 h)⟩
      · exact k
    · exact ih (i + 1) σ
theorem w_o_ok {fN fE fM : sS → List Int32 → Int32} {v h : Int32} : ∀ (n s : Nat) (σ : sS), srel σ (w_o fN fE fM v h n s σ).2.2 ∧ (uok σ 57 → uok (w_o fN fE fM v h n s σ).2.2 57) := by
  intro n
  induction n with
  | zero => intro i σ; exact ⟨srel.rf, id⟩
  | succ n ih =>
    intro s σ
    rw [w_o]
    have k := w_i_ok (fE := fE) (fM := fM) (v := v) (s := nI s) (h := h) (g_F fN σ v (nI s)) 0 σ
    split
    · exact k
    · have k2 := ih (s + 1) (w_i fE fM v (nI s) h (g_F fN σ v (nI s)) 0 σ).2.2
      exact ⟨k.1.tr k2.1, fun h => k2.2 (k.2 h)⟩
set_option maxHeartbeats 800000 in
theorem l_X8_i {ad : Nat → Nat} {d' G : Nat} {J : sS → Prop} {fV fF fL fN fE fM : sS → List Int32 → Int32} (hd : 3 ≤ d') (hV : gr_m ad G J ⟨"OddRanks$Graph", "vertices", "()I"⟩ 0 d' fV) (hF : gr_m ad G J ⟨"OddRanks$Graph", "isFirst", "(I)Z"⟩ 1 d' fF) (hL : gr_m ad G J ⟨"OddRanks$Graph", "letterCount", "()I"⟩ 0 d' fL) (hN : gr_m ad G J ⟨"OddRanks$Graph", "fan", "(II)I"⟩ 2 d' fN) (hE : gr_m ad G J ⟨"OddRanks$Graph", "goal", "(III)I"⟩ 3 d' fE) (hM : gr_m ad G J ⟨"OddRanks$Graph", "isMarked", "(I)Z"⟩ 1 d' fM) (hst : ∀ σ τ, srel σ τ → J σ → J τ) {v x h : Int32} {s : Nat} {Q : Option Value → sS → Prop} : ∀ (n i : Nat) (σ : sS), J σ → uok σ 57 → i ≤ x.toNatClampNeg → n = x.toNatClampNeg - i → ((w_i fE fM v (nI s) h n i σ).1 = false → ab_E (sR ad) mX8_searchFrom (d' + 2) 139 [(6, .int (nI (i + n))), (5, .int x), (4, .int (nI s)), (0, .ref (ad 56)), (1, .ref (ad G)), (2, .int v), (3, .int h)] [] (w_i fE fM v (nI s) h n i σ).2.2 Q) → ((w_i fE fM v (nI s) h n i σ).1 = true → Q (some (.int (w_i fE fM v (nI s) h n i σ).2.1)) (w_i fE fM v (nI s) h n i σ).2.2) → ab_E (sR ad) mX8_searchFrom (d' + 2) 24 [(6, .int (nI i)), (5, .int x), (4, .int (nI s)), (0, .ref (ad 56)), (1, .ref (ad G)), (2, .int v), (3, .int h)] [] σ Q := by
  intro n
  induction n with
  | zero =>
    intro i σ hJ hu hi2 hi K R
    have hx := cl_lt (i := x)
    have hc : x ≤ nI i := (le_cl (by omega)).mpr (by omega)
    refine r_iload dX8_searchFrom_24 0 rfl ?_
    refine r_iload dX8_searchFrom_26 1 rfl ?_
    refine r_icmp_ge (t := 139) dX8_searchFrom_28 (by decide) (fun _ => ?_) (fun hh => absurd hc hh)
    exact K rfl
  | succ n ih =>
    intro i σ hJ hu hi2 hi K R
    have hx := cl_lt (i := x)
    have hc : ¬ x ≤ nI i := fun q => absurd ((le_cl (by omega)).mp q) (by omega)
    rw [show i + (n + 1) = i + 1 + n by omega] at K
    refine r_iload dX8_searchFrom_24 0 rfl ?_
    refine r_iload dX8_searchFrom_26 1 rfl ?_
    refine r_icmp_ge (t := 139) dX8_searchFrom_28 (by decide) (fun hh => absurd hh hc) (fun _ => ?_)
    refine r_aload_n dX8_searchFrom_31 4 rfl ?_
    refine r_iload_n dX8_searchFrom_32 5 rfl ?_
    refine r_iload dX8_searchFrom_33 2 rfl ?_
    refine r_iload dX8_searchFrom_35 0 rfl ?_
    refine x_callG [v, nI s, nI i] hE dX8_searchFrom_37 ml_X8_102 (by omega) hJ rfl rfl (by simp [Value.category]) ?_
    refine r_istore (lo' := [(7, .int (fE σ [v, nI s, nI i])), (6, .int (nI i)), (5, .int x), (4, .int (nI s)), (0, .ref (ad 56)), (1, .ref (ad G)), (2, .int v), (3, .int h)]) dX8_searchFrom_40 (by decide) rfl ?_
    refine r_aload_n dX8_searchFrom_42 4 rfl ?_
    refine s_getR (b := 60) ok_X8 dX8_searchFrom_43 (k := 4) (by decide) fl_X8_26 rfl rfl rfl ?_
    refine r_iload dX8_searchFrom_46 0 rfl ?_
    refine x_callV (Y := mX7_get) (d' := 1) dX8_searchFrom_48 ml_X8_88 yv_X7_get (by omega) rfl rfl (by simp [Value.category]) (sR_isR rfl) (c_get rfl (fE σ [v, nI s, nI i])) ?_
    refine r_if_eq (t := 60) dX8_searchFrom_51 (by decide) (fun c1 => ?_) (fun c1 => ?_)
    · have c1 : (rg σ 60 (fE σ [v, nI s, nI i])) = 0 := c1
      refine r_aload_n dX8_searchFrom_60 4 rfl ?_
      refine s_getR (b := 57) ok_X8 dX8_searchFrom_61 (k := 1) (by decide) fl_X8_14 rfl rfl rfl ?_
      refine r_iload dX8_searchFrom_64 0 rfl ?_
      refine x_callV0 (Y := mX7_push) (d' := 3) dX8_searchFrom_66 ml_X8_77 yv_X7_push (by omega) rfl rfl (by simp [Value.category]) (sR_isR rfl) (c_pushU rfl hu (fE σ [v, nI s, nI i])) ?_
      refine r_aload_n dX8_searchFrom_69 4 rfl ?_
      refine s_getR (b := 58) ok_X8 dX8_searchFrom_70 (k := 2) (by decide) fl_X8_20 rfl rfl rfl ?_
      refine r_iload dX8_searchFrom_73 0 rfl ?_
      refine r_iload_n dX8_searchFrom_75 6 rfl ?_
      refine x_callV0 (Y := mX7_put) (d' := 1) dX8_searchFrom_76 ml_X8_80 yv_X7_put (by omega) rfl rfl (by simp [Value.category]) (sR_isR rfl) (c_put rfl (fE σ [v, nI s, nI i]) v) ?_
      refine r_aload_n dX8_searchFrom_79 4 rfl ?_
      refine s_getR (b := 59) ok_X8 dX8_searchFrom_80 (k := 3) (by decide) fl_X8_23 rfl rfl rfl ?_
      refine r_iload dX8_searchFrom_83 0 rfl ?_
      refine r_iload dX8_searchFrom_85 3 rfl ?_
      refine x_callV0 (Y := mX7_put) (d' := 1) dX8_searchFrom_87 ml_X8_80 yv_X7_put (by omega) rfl rfl (by simp [Value.category]) (sR_isR rfl) (c_put rfl (fE σ [v, nI s, nI i]) (nI s)) ?_
      refine r_aload_n dX8_searchFrom_90 4 rfl ?_
      refine s_getR (b := 60) ok_X8 dX8_searchFrom_91 (k := 4) (by decide) fl_X8_26 rfl rfl rfl ?_
      refine r_iload dX8_searchFrom_94 0 rfl ?_
      refine r_aload_n dX8_searchFrom_96 4 rfl ?_
      refine s_getR (b := 60) ok_X8 dX8_searchFrom_97 (k := 4) (by decide) fl_X8_26 rfl rfl rfl ?_
      refine r_iload_n dX8_searchFrom_100 6 rfl ?_
      refine x_callV (Y := mX7_get) (d' := 1) dX8_searchFrom_101 ml_X8_88 yv_X7_get (by omega) rfl rfl (by simp [Value.category]) (sR_isR rfl) (c_get rfl v) ?_
      refine r_iconst (v := 1) dX8_searchFrom_104 (by decide) ?_
      refine r_iadd dX8_searchFrom_105 ?_
      refine x_callV0 (Y := mX7_put) (d' := 1) dX8_searchFrom_106 ml_X8_80 yv_X7_put (by omega) rfl rfl (by simp [Value.category]) (sR_isR rfl) (c_put rfl (fE σ [v, nI s, nI i]) ((rg (rp (rp (rqu σ 57 (fE σ [v, nI s, nI i])) 58 (fE σ [v, nI s, nI i]) v) 59 (fE σ [v, nI s, nI i]) (nI s)) 60 v) + 1)) ?_
      refine r_iload dX8_searchFrom_109 0 rfl ?_
      refine r_iload_n dX8_searchFrom_111 7 rfl ?_
      refine r_icmp_eq (t := 130) dX8_searchFrom_112 (by decide) (fun c2 => ?_) (fun c2 => ?_)
      · have c2 : (fE σ [v, nI s, nI i]) = h := c2
        refine r_iload dX8_searchFrom_130 0 rfl ?_
        refine r_iret rfl dX8_searchFrom_132 ?_
        have e0 : ¬ w_ht fM (w_s1 σ v (nI s) (fE σ [v, nI s, nI i])) h (fE σ [v, nI s, nI i]) = 0 := by unfold w_ht; rw [if_pos c2]; decide
        rw [w_i, if_pos (Or.inl c1), if_neg e0] at R
        exact R rfl
      · have c2 : ¬ ((fE σ [v, nI s, nI i]) = h) := c2
        refine r_iload_n dX8_searchFrom_115 7 rfl ?_
        refine r_iconst (v := (-1)) dX8_searchFrom_116 (by decide) ?_
        refine r_icmp_ne (t := 133) dX8_searchFrom_117 (by decide) (fun c3 => ?_) (fun c3 => ?_)
        · have c3 : ¬ (h = ((-1))) := c3
          refine r_iinc (v := (nI i) + 1) (lo' := [(6, .int ((nI i) + 1)), (7, .int (fE σ [v, nI s, nI i])), (5, .int x), (4, .int (nI s)), (0, .ref (ad 56)), (1, .ref (ad G)), (2, .int v), (3, .int h)]) dX8_searchFrom_133 1 rfl rfl (by decide) rfl ?_
          refine r_goto (t := 24) dX8_searchFrom_136 (by decide) ?_
          have e0 : w_ht fM (w_s1 σ v (nI s) (fE σ [v, nI s, nI i])) h (fE σ [v, nI s, nI i]) = 0 := by unfold w_ht; simp only [eq_false c2, eq_false c3, ↓reduceIte]
          rw [w_i, if_pos (Or.inl c1), if_pos e0] at K R
          rw [nI_1]
          exact ab_E.lo [0, 2, 3, 4, 5, 6, 7] rfl (ih (i + 1) (w_s1 σ v (nI s) (fE σ [v, nI s, nI i])) (hst _ _ w_s1_ok.1 hJ) (w_s1_ok.2 hu) (by omega) (by omega) K R)
        · have c3 : h = ((-1)) := c3
          refine r_aload_n dX8_searchFrom_120 4 rfl ?_
          refine r_aload_n dX8_searchFrom_121 5 rfl ?_
          refine r_iload dX8_searchFrom_122 0 rfl ?_
          refine x_callV (Y := mX8_isSought) (d' := d' + 1) dX8_searchFrom_124 ml_X8_84 yv_X8_isSought (by omega) rfl rfl (by simp [Value.category]) (sR_is rfl rfl) (c_X8_isSought (rp (rp (rp (rqu σ 57 (fE σ [v, nI s, nI i])) 58 (fE σ [v, nI s, nI i]) v) 59 (fE σ [v, nI s, nI i]) (nI s)) 60 (fE σ [v, nI s, nI i]) ((rg (rp (rp (rqu σ 57 (fE σ [v, nI s, nI i])) 58 (fE σ [v, nI s, nI i]) v) 59 (fE σ [v, nI s, nI i]) (nI s)) 60 v) + 1)) hd hM (hst _ _ w_s1_ok.1 hJ) (fE σ [v, nI s, nI i])) ?_
          refine r_if_eq (t := 133) dX8_searchFrom_127 (by decide) (fun c4 => ?_) (fun c4 => ?_)
          · have c4 : (w_so fM (rp (rp (rp (rqu σ 57 (fE σ [v, nI s, nI i])) 58 (fE σ [v, nI s, nI i]) v) 59 (fE σ [v, nI s, nI i]) (nI s)) 60 (fE σ [v, nI s, nI i]) ((rg (rp (rp (rqu σ 57 (fE σ [v, nI s, nI i])) 58 (fE σ [v, nI s, nI i]) v) 59 (fE σ [v, nI s, nI i]) (nI s)) 60 v) + 1)) (fE σ [v, nI s, nI i])) = 0 := c4
            refine r_iinc (v := (nI i) + 1) (lo' := [(6, .int ((nI i) + 1)), (7, .int (fE σ [v, nI s, nI i])), (5, .int x), (4, .int (nI s)), (0, .ref (ad 56)), (1, .ref (ad G)), (2, .int v), (3, .int h)]) dX8_searchFrom_133 1 rfl rfl (by decide) rfl ?_
            refine r_goto (t := 24) dX8_searchFrom_136 (by decide) ?_
            have e0 : w_ht fM (w_s1 σ v (nI s) (fE σ [v, nI s, nI i])) h (fE σ [v, nI s, nI i]) = 0 := by unfold w_ht; simp only [eq_false c2, eq_true c3, ↓reduceIte]; exact c4
            rw [w_i, if_pos (Or.inl c1), if_pos e0] at K R
            rw [nI_1]
            exact ab_E.lo [0, 2, 3, 4, 5, 6, 7] rfl (ih (i + 1) (w_s1 σ v (nI s) (fE σ [v, nI s, nI i])) (hst _ _ w_s1_ok.1 hJ) (w_s1_ok.2 hu) (by omega) (by omega) K R)
          · have c4 : ¬ ((w_so fM (rp (rp (rp (rqu σ 57 (fE σ [v, nI s, nI i])) 58 (fE σ [v, nI s, nI i]) v) 59 (fE σ [v, nI s, nI i]) (nI s)) 60 (fE σ [v, nI s, nI i]) ((rg (rp (rp (rqu σ 57 (fE σ [v, nI s, nI i])) 58 (fE σ [v, nI s, nI i]) v) 59 (fE σ [v, nI s, nI i]) (nI s)) 60 v) + 1)) (fE σ [v, nI s, nI i])) = 0) := c4
            refine r_iload dX8_searchFrom_130 0 rfl ?_
            refine r_iret rfl dX8_searchFrom_132 ?_
            have e0 : ¬ w_ht fM (w_s1 σ v (nI s) (fE σ [v, nI s, nI i])) h (fE σ [v, nI s, nI i]) = 0 := by unfold w_ht; simp only [eq_false c2, eq_true c3, ↓reduceIte]; exact c4
            rw [w_i, if_pos (Or.inl c1), if_neg e0] at R
            exact R rfl
    · have c1 : ¬ ((rg σ 60 (fE σ [v, nI s, nI i])) = 0) := c1
      refine r_iload dX8_searchFrom_54 0 rfl ?_
      refine r_iload_n dX8_searchFrom_56 7 rfl ?_
      refine r_icmp_ne (t := 133) dX8_searchFrom_57 (by decide) (fun c5 => ?_) (fun c5 => ?_)
      · have c5 : ¬ ((fE σ [v, nI s, nI i]) = h) := c5
        refine r_iinc (v := (nI i) + 1) (lo' := [(6, .int ((nI i) + 1)), (7, .int (fE σ [v, nI s, nI i])), (5, .int x), (4, .int (nI s)), (0, .ref (ad 56)), (1, .ref (ad G)), (2, .int v), (3, .int h)]) dX8_searchFrom_133 1 rfl rfl (by decide) rfl ?_
        refine r_goto (t := 24) dX8_searchFrom_136 (by decide) ?_
        rw [w_i, if_neg (not_or.mpr ⟨c1, c5⟩)] at K R
        rw [nI_1]
        exact ab_E.lo [0, 2, 3, 4, 5, 6, 7] rfl (ih (i + 1) σ hJ hu (by omega) (by omega) K R)
      · have c5 : (fE σ [v, nI s, nI i]) = h := c5
        refine r_aload_n dX8_searchFrom_60 4 rfl ?_
        refine s_getR (b := 57) ok_X8 dX8_searchFrom_61 (k := 1) (by decide) fl_X8_14 rfl rfl rfl ?_
        refine r_iload dX8_searchFrom_64 0 rfl ?_
        refine x_callV0 (Y := mX7_push) (d' := 3) dX8_searchFrom_66 ml_X8_77 yv_X7_push (by omega) rfl rfl (by simp [Value.category]) (sR_isR rfl) (c_pushU rfl hu (fE σ [v, nI s, nI i])) ?_
        refine r_aload_n dX8_searchFrom_69 4 rfl ?_
        refine s_getR (b := 58) ok_X8 dX8_searchFrom_70 (k := 2) (by decide) fl_X8_20 rfl rfl rfl ?_
        refine r_iload dX8_searchFrom_73 0 rfl ?_
        refine r_iload_n dX8_searchFrom_75 6 rfl ?_
        refine x_callV0 (Y := mX7_put) (d' := 1) dX8_searchFrom_76 ml_X8_80 yv_X7_put (by omega) rfl rfl (by simp [Value.category]) (sR_isR rfl) (c_put rfl (fE σ [v, nI s, nI i]) v) ?_
        refine r_aload_n dX8_searchFrom_79 4 rfl ?_
        refine s_getR (b := 59) ok_X8 dX8_searchFrom_80 (k := 3) (by decide) fl_X8_23 rfl rfl rfl ?_
        refine r_iload dX8_searchFrom_83 0 rfl ?_
        refine r_iload dX8_searchFrom_85 3 rfl ?_
        refine x_callV0 (Y := mX7_put) (d' := 1) dX8_searchFrom_87 ml_X8_80 yv_X7_put (by omega) rfl rfl (by simp [Value.category]) (sR_isR rfl) (c_put rfl (fE σ [v, nI s, nI i]) (nI s)) ?_
        refine r_aload_n dX8_searchFrom_90 4 rfl ?_
        refine s_getR (b := 60) ok_X8 dX8_searchFrom_91 (k := 4) (by decide) fl_X8_26 rfl rfl rfl ?_
        refine r_iload dX8_searchFrom_94 0 rfl ?_
        refine r_aload_n dX8_searchFrom_96 4 rfl ?_
        refine s_getR (b := 60) ok_X8 dX8_searchFrom_97 (k := 4) (by decide) fl_X8_26 rfl rfl rfl ?_
        refine r_iload_n dX8_searchFrom_100 6 rfl ?_
        refine x_callV (Y := mX7_get) (d' := 1) dX8_searchFrom_101 ml_X8_88 yv_X7_get (by omega) rfl rfl (by simp [Value.category]) (sR_isR rfl) (c_get rfl v) ?_
        refine r_iconst (v := 1) dX8_searchFrom_104 (by decide) ?_
        refine r_iadd dX8_searchFrom_105 ?_
        refine x_callV0 (Y := mX7_put) (d' := 1) dX8_searchFrom_106 ml_X8_80 yv_X7_put (by omega) rfl rfl (by simp [Value.category]) (sR_isR rfl) (c_put rfl (fE σ [v, nI s, nI i]) ((rg (rp (rp (rqu σ 57 (fE σ [v, nI s, nI i])) 58 (fE σ [v, nI s, nI i]) v) 59 (fE σ [v, nI s, nI i]) (nI s)) 60 v) + 1)) ?_
        refine r_iload dX8_searchFrom_109 0 rfl ?_
        refine r_iload_n dX8_searchFrom_111 7 rfl ?_
        refine r_icmp_eq (t := 130) dX8_searchFrom_112 (by decide) (fun c6 => ?_) (fun c6 => ?_)
        · have c6 : (fE σ [v, nI s, nI i]) = h := c6
          refine r_iload dX8_searchFrom_130 0 rfl ?_
          refine r_iret rfl dX8_searchFrom_132 ?_
          have e0 : ¬ w_ht fM (w_s1 σ v (nI s) (fE σ [v, nI s, nI i])) h (fE σ [v, nI s, nI i]) = 0 := by unfold w_ht; rw [if_pos c6]; decide
          rw [w_i, if_pos (Or.inr c5), if_neg e0] at R
          exact R rfl
        · have c6 : ¬ ((fE σ [v, nI s, nI i]) = h) := c6
          refine r_iload_n dX8_searchFrom_115 7 rfl ?_
          refine r_iconst (v := (-1)) dX8_searchFrom_116 (by decide) ?_
          refine r_icmp_ne (t := 133) dX8_searchFrom_117 (by decide) (fun c7 => ?_) (fun c7 => ?_)
          · have c7 : ¬ (h = ((-1))) := c7
            refine r_iinc (v := (nI i) + 1) (lo' := [(6, .int ((nI i) + 1)), (7, .int (fE σ [v, nI s, nI i])), (5, .int x), (4, .int (nI s)), (0, .ref (ad 56)), (1, .ref (ad G)), (2, .int v), (3, .int h)]) dX8_searchFrom_133 1 rfl rfl (by decide) rfl ?_
            refine r_goto (t := 24) dX8_searchFrom_136 (by decide) ?_
            have e0 : w_ht fM (w_s1 σ v (nI s) (fE σ [v, nI s, nI i])) h (fE σ [v, nI s, nI i]) = 0 := by unfold w_ht; simp only [eq_false c6, eq_false c7, ↓reduceIte]
            rw [w_i, if_pos (Or.inr c5), if_pos e0] at K R
            rw [nI_1]
            exact ab_E.lo [0, 2, 3, 4, 5, 6, 7] rfl (ih (i + 1) (w_s1 σ v (nI s) (fE σ [v, nI s, nI i])) (hst _ _ w_s1_ok.1 hJ) (w_s1_ok.2 hu) (by omega) (by omega) K R)
          · have c7 : h = ((-1)) := c7
            refine r_aload_n dX8_searchFrom_120 4 rfl ?_
            refine r_aload_n dX8_searchFrom_121 5 rfl ?_
            refine r_iload dX8_searchFrom_122 0 rfl ?_
            refine x_callV (Y := mX8_isSought) (d' := d' + 1) dX8_searchFrom_124 ml_X8_84 yv_X8_isSought (by omega) rfl rfl (by simp [Value.category]) (sR_is rfl rfl) (c_X8_isSought (rp (rp (rp (rqu σ 57 (fE σ [v, nI s, nI i])) 58 (fE σ [v, nI s, nI i]) v) 59 (fE σ [v, nI s, nI i]) (nI s)) 60 (fE σ [v, nI s, nI i]) ((rg (rp (rp (rqu σ 57 (fE σ [v, nI s, nI i])) 58 (fE σ [v, nI s, nI i]) v) 59 (fE σ [v, nI s, nI i]) (nI s)) 60 v) + 1)) hd hM (hst _ _ w_s1_ok.1 hJ) (fE σ [v, nI s, nI i])) ?_
            refine r_if_eq (t := 133) dX8_searchFrom_127 (by decide) (fun c8 => ?_) (fun c8 => ?_)
            · have c8 : (w_so fM (rp (rp (rp (rqu σ 57 (fE σ [v, nI s, nI i])) 58 (fE σ [v, nI s, nI i]) v) 59 (fE σ [v, nI s, nI i]) (nI s)) 60 (fE σ [v, nI s, nI i]) ((rg (rp (rp (rqu σ 57 (fE σ [v, nI s, nI i])) 58 (fE σ [v, nI s, nI i]) v) 59 (fE σ [v, nI s, nI i]) (nI s)) 60 v) + 1)) (fE σ [v, nI s, nI i])) = 0 := c8
              refine r_iinc (v := (nI i) + 1) (lo' := [(6, .int ((nI i) + 1)), (7, .int (fE σ [v, nI s, nI i])), (5, .int x), (4, .int (nI s)), (0, .ref (ad 56)), (1, .ref (ad G)), (2, .int v), (3, .int h)]) dX8_searchFrom_133 1 rfl rfl (by decide) rfl ?_
              refine r_goto (t := 24) dX8_searchFrom_136 (by decide) ?_
              have e0 : w_ht fM (w_s1 σ v (nI s) (fE σ [v, nI s, nI i])) h (fE σ [v, nI s, nI i]) = 0 := by unfold w_ht; simp only [eq_false c6, eq_true c7, ↓reduceIte]; exact c8
              rw [w_i, if_pos (Or.inr c5), if_pos e0] at K R
              rw [nI_1]
              exact ab_E.lo [0, 2, 3, 4, 5, 6, 7] rfl (ih (i + 1) (w_s1 σ v (nI s) (fE σ [v, nI s, nI i])) (hst _ _ w_s1_ok.1 hJ) (w_s1_ok.2 hu) (by omega) (by omega) K R)
            · have c8 : ¬ ((w_so fM (rp (rp (rp (rqu σ 57 (fE σ [v, nI s, nI i])) 58 (fE σ [v, nI s, nI i]) v) 59 (fE σ [v, nI s, nI i]) (nI s)) 60 (fE σ [v, nI s, nI i]) ((rg (rp (rp (rqu σ 57 (fE σ [v, nI s, nI i])) 58 (fE σ [v, nI s, nI i]) v) 59 (fE σ [v, nI s, nI i]) (nI s)) 60 v) + 1)) (fE σ [v, nI s, nI i])) = 0) := c8
              refine r_iload dX8_searchFrom_130 0 rfl ?_
              refine r_iret rfl dX8_searchFrom_132 ?_
              have e0 : ¬ w_ht fM (w_s1 σ v (nI s) (fE σ [v, nI s, nI i])) h (fE σ [v, nI s, nI i]) = 0 := by unfold w_ht; simp only [eq_false c6, eq_true c7, ↓reduceIte]; exact c8
              rw [w_i, if_pos (Or.inr c5), if_neg e0] at R
              exact R rfl
theorem l_X8_o {ad : Nat → Nat} {d' G : Nat} {J : sS → Prop} {fV fF fL fN fE fM : sS → List Int32 → Int32} (hd : 3 ≤ d') (hV : gr_m ad G J ⟨"OddRanks$Graph", "vertices", "()I"⟩ 0 d' fV) (hF : gr_m ad G J ⟨"OddRanks$Graph", "isFirst", "(I)Z"⟩ 1 d' fF) (hL : gr_m ad G J ⟨"OddRanks$Graph", "letterCount", "()I"⟩ 0 d' fL) (hN : gr_m ad G J ⟨"OddRanks$Graph", "fan", "(II)I"⟩ 2 d' fN) (hE : gr_m ad G J ⟨"OddRanks$Graph", "goal", "(III)I"⟩ 3 d' fE) (hM : gr_m ad G J ⟨"OddRanks$Graph", "isMarked", "(I)Z"⟩ 1 d' fM) (hst : ∀ σ τ, srel σ τ → J σ → J τ) {Lc : Nat} (hLc : ∀ σ, J σ → fL σ [] = nI Lc) (hL3 : Lc ≤ 3) {v h : Int32} : ∀ (n s : Nat) (σ : sS), J σ → uok σ 57 → s + n = Lc → ab_E (sR ad) mX8_searchFrom (d' + 2) 3 [(4, .int (nI s)), (0, .ref (ad 56)), (1, .ref (ad G)), (2, .int v), (3, .int h)] [] σ (fun r σ' => r = some (.int (if (w_o fN fE fM v h n s σ).1 = true then (w_o fN fE fM v h n s σ).2.1 else -1)) ∧ σ' = (w_o fN fE fM v h n s σ).2.2) := by
  intro n
  induction n with
  | zero =>
    intro s σ hJ hu hs
    have hc : fL σ [] ≤ nI s := by rw [hLc σ hJ]; exact nI_le (by omega) (by omega)
    refine r_iload dX8_searchFrom_3 0 rfl ?_
    refine r_aload_n dX8_searchFrom_5 2 rfl ?_
    refine x_callG [] hL dX8_searchFrom_6 ml_X8_96 (by omega) hJ rfl rfl (by simp [Value.category]) ?_
    refine r_icmp_ge (t := 145) dX8_searchFrom_9 (by decide) (fun _ => ?_) (fun hh => absurd hc hh)
    refine r_iconst (v := (-1)) dX8_searchFrom_145 (by decide) ?_
    refine r_iret rfl dX8_searchFrom_146 ?_
    exact ⟨rfl, rfl⟩
  | succ n ih =>
    intro s σ hJ hu hs
    have hc : ¬ fL σ [] ≤ nI s := by rw [hLc σ hJ]; exact nI_ge (by omega) (by omega)
    refine r_iload dX8_searchFrom_3 0 rfl ?_
    refine r_aload_n dX8_searchFrom_5 2 rfl ?_
    refine x_callG [] hL dX8_searchFrom_6 ml_X8_96 (by omega) hJ rfl rfl (by simp [Value.category]) ?_
    refine r_icmp_ge (t := 145) dX8_searchFrom_9 (by decide) (fun hh => absurd hh hc) (fun _ => ?_)
    refine r_aload_n dX8_searchFrom_12 2 rfl ?_
    refine r_iload_n dX8_searchFrom_13 3 rfl ?_
    refine r_iload dX8_searchFrom_14 0 rfl ?_
    refine x_callG [v, nI s] hN dX8_searchFrom_16 ml_X8_99 (by omega) hJ rfl rfl (by simp [Value.category]) ?_
    refine r_istore (lo' := [(5, .int (fN σ [v, nI s])), (4, .int (nI s)), (0, .ref (ad 56)), (1, .ref (ad G)), (2, .int v), (3, .int h)]) dX8_searchFrom_19 (by decide) rfl ?_
    refine r_iconst (v := 0) dX8_searchFrom_21 (by decide) ?_
    refine r_istore (lo' := [(6, .int 0), (5, .int (fN σ [v, nI s])), (4, .int (nI s)), (0, .ref (ad 56)), (1, .ref (ad G)), (2, .int v), (3, .int h)]) dX8_searchFrom_22 (by decide) rfl ?_
    refine ab_E.lo [0, 1, 2, 3, 4, 5, 6] (lo' := [(6, .int (nI 0)), (5, .int (fN σ [v, nI s])), (4, .int (nI s)), (0, .ref (ad 56)), (1, .ref (ad G)), (2, .int v), (3, .int h)]) rfl ?_
    refine l_X8_i hd hV hF hL hN hE hM hst (g_F fN σ v (nI s)) 0 σ hJ hu (Nat.zero_le _) rfl (fun hq => ?_) (fun hq => ?_)
    rotate_left
    · rw [w_o, if_pos hq, if_pos hq]; exact ⟨rfl, rfl⟩
    have hr := w_i_ok (fE := fE) (fM := fM) (v := v) (s := nI s) (h := h) (g_F fN σ v (nI s)) 0 σ
    refine r_iinc (v := (nI s) + 1) (lo' := [(4, .int ((nI s) + 1)), (6, .int (nI (0 + g_F fN σ v (nI s)))), (5, .int (fN σ [v, nI s])), (0, .ref (ad 56)), (1, .ref (ad G)), (2, .int v), (3, .int h)]) dX8_searchFrom_139 2 rfl rfl (by decide) rfl ?_
    refine r_goto (t := 3) dX8_searchFrom_142 (by decide) ?_
    rw [nI_1, w_o]
    simp only [hq, Bool.false_eq_true, ↓reduceIte]
    exact ab_E.lo [0, 3, 4, 5, 6] rfl (ih (s + 1) _ (hst _ _ hr.1 hJ) (hr.2 hu) (by omega))
def w_fa (r : Bool × Int32 × sS) : Int32 := if r.1 = true then r.2.1 else -1
theorem c_X8_searchFrom {ad : Nat → Nat} {d' G : Nat} {J : sS → Prop} {fV fF fL fN fE fM : sS → List Int32 → Int32} (hd : 3 ≤ d') (hV : gr_m ad G J ⟨"OddRanks$Graph", "vertices", "()I"⟩ 0 d' fV) (hF : gr_m ad G J ⟨"OddRanks$Graph", "isFirst", "(I)Z"⟩ 1 d' fF) (hL : gr_m ad G J ⟨"OddRanks$Graph", "letterCount", "()I"⟩ 0 d' fL) (hN : gr_m ad G J ⟨"OddRanks$Graph", "fan", "(II)I"⟩ 2 d' fN) (hE : gr_m ad G J ⟨"OddRanks$Graph", "goal", "(III)I"⟩ 3 d' fE) (hM : gr_m ad G J ⟨"OddRanks$Graph", "isMarked", "(I)Z"⟩ 1 d' fM) (hst : ∀ σ τ, srel σ τ → J σ → J τ) {Lc : Nat} (hLc : ∀ σ, J σ → fL σ [] = nI Lc) (hL3 : Lc ≤ 3) (σ : sS) (hJ : J σ) (hu : uok σ 57) (v h : Int32) : ab_X (sR ad) (d' + 2) mX8_searchFrom [.ref (ad 56), .ref (ad G), .int v, .int h] σ (some (.int (w_fa (w_sf fN fE fM Lc σ v h)))) (w_sf fN fE fM Lc σ v h).2.2 := by
  refine ab_X.of (by decide) (Nat.le_of_ble_eq_true rfl) ?_
  refine r_iconst (v := 0) dX8_searchFrom_0 (by decide) ?_
  refine r_istore (lo' := [(4, .int 0), (0, .ref (ad 56)), (1, .ref (ad G)), (2, .int v), (3, .int h)]) dX8_searchFrom_1 (by decide) rfl ?_
  exact l_X8_o hd hV hF hL hN hE hM hst hLc hL3 Lc 0 σ hJ hu (by omega)
