/-! Rounds: setOut, turn, lengthened, spell, stemsTaken -/
/-- nothing has changed but Rounds and its rows -/
def rrel (σ τ : sS) : Prop := (∀ b, (b < 45 ∨ 49 < b) → vI τ b = vI σ b ∧ vU τ b = vU σ b ∧ vC τ b = vC σ b) ∧ τ.2.1 = σ.2.1 ∧ ∀ b, b ≠ 45 → τ.2.2.1 b = σ.2.2.1 b
theorem rrel.rf {σ : sS} : rrel σ σ := ⟨fun _ _ => ⟨rfl, rfl, rfl⟩, rfl, fun _ _ => rfl⟩
theorem rrel.tr {σ τ υ : sS} (h : rrel σ τ) (k : rrel τ υ) : rrel σ υ := ⟨fun b hb => ⟨(k.1 b hb).1.trans (h.1 b hb).1, (k.1 b hb).2.1.trans (h.1 b hb).2.1, (k.1 b hb).2.2.trans (h.1 b hb).2.2⟩, k.2.1.trans h.2.1, fun b hb => (k.2.2 b hb).trans (h.2.2 b hb)⟩
theorem rrel.ap {σ τ : sS} {r : Nat} {i x : Int32} (h : rrel σ τ) (h1 : 45 ≤ r) (h2 : r ≤ 49) : rrel σ (rp τ r i x) := h.tr ⟨fun b hb => ⟨rp_I (by omega), by unfold vU; rw [rp_2], by unfold vC; rw [rp_2]⟩, by rw [rp_2], fun b _ => by rw [rp_2]⟩
theorem rrel.aI {σ τ : sS} {k : Nat} {x : Int32} (h : rrel σ τ) : rrel σ (uI τ 45 k x) := h.tr ⟨fun b hb => ⟨vI_r (by omega), rfl, rfl⟩, rfl, fun _ _ => rfl⟩
theorem rrel.aR {σ τ : sS} {k : Nat} {x : Option Nat} (h : rrel σ τ) : rrel σ (uR τ 45 k x) := h.tr ⟨fun b hb => ⟨rfl, rfl, rfl⟩, rfl, fun b hb => by funext j; show u2 _ _ _ _ b j = _; unfold u2; rw [if_neg (fun q => hb q.1)]⟩
theorem rrel.az {σ τ : sS} {r m : Nat} (h : rrel σ τ) (h1 : 45 ≤ r) (h2 : r ≤ 49) : rrel σ (rz τ r m) := h.tr ⟨fun b hb => ⟨rz_I (by omega), rz_U (by omega), rz_C (by omega)⟩, rx_L.1, fun b _ => congrFun (rx_L (σ := τ) (r := r) (m := m)).2 b⟩
theorem rrel.aq {σ τ : sS} {r : Nat} {x : Int32} (h : rrel σ τ) (h1 : 45 ≤ r) (h2 : r ≤ 49) : rrel σ (rqu τ r x) := h.tr ⟨fun b hb => ⟨rq_I (by omega), rq_U (by omega), rq_C (by omega)⟩, rq_L.1, fun b _ => congrFun (rq_L (σ := τ) (r := r) (k := (vU τ r).toNatClampNeg) (x := x)).2 b⟩
theorem r_d.out {F H G P : Nat} {σ : sS} (h1 : vR σ 45 1 = some F) (h2 : vR σ 45 2 = some H) : r_d F H G P (uR (uR σ 45 5 (some G)) 45 6 (some P)) := ⟨h1, h2, rfl, rfl⟩
theorem r_d.tu {F H G P : Nat} {σ : sS} (h : r_d F H G P σ) : r_d H F G P (uR (uR σ 45 1 (some H)) 45 2 (some F)) := ⟨rfl, rfl, h.2.2.1, h.2.2.2⟩
theorem r_d.ap {F H G P r : Nat} {σ : sS} {i x : Int32} (h : r_d F H G P σ) : r_d F H G P (rp σ r i x) := h.of (by rw [rp_2])
theorem r_d.aI {F H G P r k : Nat} {σ : sS} {x : Int32} (h : r_d F H G P σ) : r_d F H G P (uI σ r k x) := h.of rfl
theorem r_d.az {F H G P r m : Nat} {σ : sS} (h : r_d F H G P σ) : r_d F H G P (rz σ r m) := h.of rx_L.2
theorem r_d.aq {F H G P r : Nat} {σ : sS} {x : Int32} (h : r_d F H G P σ) : r_d F H G P (rqu σ r x) := h.of rq_L.2
def r_s0 (F H G P n : Nat) (σ : sS) : sS := rz (rz (rz (uI (uR (uR σ 45 5 (some G)) 45 6 (some P)) 45 7 (nI n)) F n) H n) 48 n
def r_p1 (fF fM : sS → List Int32 → Int32) (F : Nat) (σ : sS) (v : Int32) : sS := rp (rp σ F v (if fF σ [v] = 0 then 0 else 1)) 48 v (if fM (rp σ F v (if fF σ [v] = 0 then 0 else 1)) [v] = 0 then 0 else 1)
def r_so (fF fM : sS → List Int32 → Int32) (F : Nat) : Nat → Nat → sS → sS
  | 0, _, σ => σ
  | k + 1, i, σ => r_so fF fM F k (i + 1) (r_p1 fF fM F σ (nI i))
def r_set (fF fM : sS → List Int32 → Int32) (F H G P n : Nat) (σ : sS) : sS := r_so fF fM F n 0 (r_s0 F H G P n σ)
def fh (F H : Nat) : Prop := (F = 46 ∧ H = 47) ∨ (F = 47 ∧ H = 46)
theorem fh.f {F H : Nat} (h : fh F H) : la F = (7, 0) ∧ 45 ≤ F ∧ F ≤ 49 := by
  rcases h with ⟨rfl, rfl⟩ | ⟨rfl, rfl⟩ <;> exact ⟨rfl, by decide, by decide⟩
theorem fh.h {F H : Nat} (h : fh F H) : la H = (7, 0) ∧ 45 ≤ H ∧ H ≤ 49 := by
  rcases h with ⟨rfl, rfl⟩ | ⟨rfl, rfl⟩ <;> exact ⟨rfl, by decide, by decide⟩
theorem l_X6_so {ad : Nat → Nat} {d' G : Nat} {J : sS → Prop} {fV fF fM : sS → List Int32 → Int32} (hd : 3 ≤ d') (hV : gr_m ad G J ⟨"OddRanks$Graph", "vertices", "()I"⟩ 0 d' fV) (hF : gr_m ad G J ⟨"OddRanks$Graph", "isFirst", "(I)Z"⟩ 1 d' fF) (hM : gr_m ad G J ⟨"OddRanks$Graph", "isMarked", "(I)Z"⟩ 1 d' fM) (hsr : ∀ σ τ, rrel σ τ → J σ → J τ) {F H P : Nat} (hFH : fh F H) (hP7 : la P = (7, 0)) {n : Nat} (hVn : ∀ σ, J σ → fV σ [] = nI n) (hn : n ≤ 100000) : ∀ (k i : Nat) (σ : sS), J σ → r_d F H G P σ → i + k = n → ab_E (sR ad) mX6_setOut (d' + 2) 53 [(3, .int (nI i)), (0, .ref (ad 45)), (1, .ref (ad G)), (2, .ref (ad P))] [] σ (fun r9 σ' => r9 = none ∧ σ' = r_so fF fM F k i σ) := by
  intro k
  induction k with
  | zero =>
    intro i σ hJ hD hi
    have hc : nI n ≤ nI i := nI_le (by omega) (by omega)
    refine r_iload_n dX6_setOut_53 0 rfl ?_
    refine r_aload_n dX6_setOut_54 2 rfl ?_
    refine x_callG [] hV dX6_setOut_55 ml_X6_81 (by omega) hJ rfl rfl (by simp [Value.category]) ?_
    rw [hVn _ hJ]
    refine r_icmp_ge (t := 109) dX6_setOut_58 (by decide) (fun _ => ?_) (fun hh => absurd hc hh)
    refine r_vret rfl dX6_setOut_109 ?_
    exact ⟨rfl, rfl⟩
  | succ k ih =>
    intro i σ hJ hD hi
    have hc : ¬ nI n ≤ nI i := nI_ge (by omega) (by omega)
    refine r_iload_n dX6_setOut_53 0 rfl ?_
    refine r_aload_n dX6_setOut_54 2 rfl ?_
    refine x_callG [] hV dX6_setOut_55 ml_X6_81 (by omega) hJ rfl rfl (by simp [Value.category]) ?_
    rw [hVn _ hJ]
    refine r_icmp_ge (t := 109) dX6_setOut_58 (by decide) (fun hh => absurd hh hc) (fun _ => ?_)
    refine r_aload_n dX6_setOut_61 1 rfl ?_
    refine s_getD (b := F) ok_X6 dX6_setOut_62 (k := 1) (by decide) fl_X6_14 rfl rfl hD.1 ?_
    refine r_iload_n dX6_setOut_65 0 rfl ?_
    refine r_aload_n dX6_setOut_66 2 rfl ?_
    refine r_iload_n dX6_setOut_67 0 rfl ?_
    refine x_callG [nI i] hF dX6_setOut_68 ml_X6_90 (by omega) hJ rfl rfl (by simp [Value.category]) ?_
    refine r_if_eq (t := 78) dX6_setOut_71 (by decide) (fun c1 => ?_) (fun c1 => ?_)
    · have c1 : (fF σ [nI i]) = 0 := c1
      refine r_iconst (v := 0) dX6_setOut_78 (by decide) ?_
      refine x_callV0 (Y := mX7_put) (d' := 1) dX6_setOut_79 ml_X6_94 yv_X7_put (by omega) rfl rfl (by simp [Value.category]) (sR_isR hFH.f.1) (c_put hFH.f.1 (nI i) 0) ?_
      refine r_aload_n dX6_setOut_82 1 rfl ?_
      refine s_getR (b := 48) ok_X6 dX6_setOut_83 (k := 3) (by decide) fl_X6_23 rfl rfl rfl ?_
      refine r_iload_n dX6_setOut_86 0 rfl ?_
      refine r_aload_n dX6_setOut_87 2 rfl ?_
      refine r_iload_n dX6_setOut_88 0 rfl ?_
      refine x_callG [nI i] hM dX6_setOut_89 ml_X6_98 (by omega) (hsr _ _ (rrel.rf.ap hFH.f.2.1 hFH.f.2.2) hJ) rfl rfl (by simp [Value.category]) ?_
      refine r_if_eq (t := 99) dX6_setOut_92 (by decide) (fun c2 => ?_) (fun c2 => ?_)
      · have c2 : (fM (rp σ F (nI i) 0) [nI i]) = 0 := c2
        refine r_iconst (v := 0) dX6_setOut_99 (by decide) ?_
        refine x_callV0 (Y := mX7_put) (d' := 1) dX6_setOut_100 ml_X6_94 yv_X7_put (by omega) rfl rfl (by simp [Value.category]) (sR_isR rfl) (c_put rfl (nI i) 0) ?_
        refine r_iinc (v := (nI i) + 1) (lo' := [(3, .int ((nI i) + 1)), (0, .ref (ad 45)), (1, .ref (ad G)), (2, .ref (ad P))]) dX6_setOut_103 0 rfl rfl (by decide) rfl ?_
        refine r_goto (t := 53) dX6_setOut_106 (by decide) ?_
        have e0 : r_p1 fF fM F σ (nI i) = rp (rp σ F (nI i) 0) 48 (nI i) 0 := by unfold r_p1; simp only [eq_true c1, eq_true c2, ↓reduceIte]
        rw [nI_1, r_so, e0]
        exact ab_E.lo [0, 1, 2, 3] rfl (ih (i + 1) _ (hsr _ _ ((rrel.rf.ap hFH.f.2.1 hFH.f.2.2).ap (by decide) (by decide)) hJ) hD.ap.ap (by omega))
      · have c2 : ¬ ((fM (rp σ F (nI i) 0) [nI i]) = 0) := c2
        refine r_iconst (v := 1) dX6_setOut_95 (by decide) ?_
        refine r_goto (t := 100) dX6_setOut_96 (by decide) ?_
        refine x_callV0 (Y := mX7_put) (d' := 1) dX6_setOut_100 ml_X6_94 yv_X7_put (by omega) rfl rfl (by simp [Value.category]) (sR_isR rfl) (c_put rfl (nI i) 1) ?_
        refine r_iinc (v := (nI i) + 1) (lo' := [(3, .int ((nI i) + 1)), (0, .ref (ad 45)), (1, .ref (ad G)), (2, .ref (ad P))]) dX6_setOut_103 0 rfl rfl (by decide) rfl ?_
        refine r_goto (t := 53) dX6_setOut_106 (by decide) ?_
        have e0 : r_p1 fF fM F σ (nI i) = rp (rp σ F (nI i) 0) 48 (nI i) 1 := by unfold r_p1; simp only [eq_true c1, eq_false c2, ↓reduceIte]
        rw [nI_1, r_so, e0]
        exact ab_E.lo [0, 1, 2, 3] rfl (ih (i + 1) _ (hsr _ _ ((rrel.rf.ap hFH.f.2.1 hFH.f.2.2).ap (by decide) (by decide)) hJ) hD.ap.ap (by omega))
    · have c1 : ¬ ((fF σ [nI i]) = 0) := c1
      refine r_iconst (v := 1) dX6_setOut_74 (by decide) ?_
      refine r_goto (t := 79) dX6_setOut_75 (by decide) ?_
      refine x_callV0 (Y := mX7_put) (d' := 1) dX6_setOut_79 ml_X6_94 yv_X7_put (by omega) rfl rfl (by simp [Value.category]) (sR_isR hFH.f.1) (c_put hFH.f.1 (nI i) 1) ?_
      refine r_aload_n dX6_setOut_82 1 rfl ?_
      refine s_getR (b := 48) ok_X6 dX6_setOut_83 (k := 3) (by decide) fl_X6_23 rfl rfl rfl ?_
      refine r_iload_n dX6_setOut_86 0 rfl ?_
      refine r_aload_n dX6_setOut_87 2 rfl ?_
      refine r_iload_n dX6_setOut_88 0 rfl ?_
      refine x_callG [nI i] hM dX6_setOut_89 ml_X6_98 (by omega) (hsr _ _ (rrel.rf.ap hFH.f.2.1 hFH.f.2.2) hJ) rfl rfl (by simp [Value.category]) ?_
      refine r_if_eq (t := 99) dX6_setOut_92 (by decide) (fun c3 => ?_) (fun c3 => ?_)
      · have c3 : (fM (rp σ F (nI i) 1) [nI i]) = 0 := c3
        refine r_iconst (v := 0) dX6_setOut_99 (by decide) ?_
        refine x_callV0 (Y := mX7_put) (d' := 1) dX6_setOut_100 ml_X6_94 yv_X7_put (by omega) rfl rfl (by simp [Value.category]) (sR_isR rfl) (c_put rfl (nI i) 0) ?_
        refine r_iinc (v := (nI i) + 1) (lo' := [(3, .int ((nI i) + 1)), (0, .ref (ad 45)), (1, .ref (ad G)), (2, .ref (ad P))]) dX6_setOut_103 0 rfl rfl (by decide) rfl ?_
        refine r_goto (t := 53) dX6_setOut_106 (by decide) ?_
        have e0 : r_p1 fF fM F σ (nI i) = rp (rp σ F (nI i) 1) 48 (nI i) 0 := by unfold r_p1; simp only [eq_false c1, eq_true c3, ↓reduceIte]
        rw [nI_1, r_so, e0]
        exact ab_E.lo [0, 1, 2, 3] rfl (ih (i + 1) _ (hsr _ _ ((rrel.rf.ap hFH.f.2.1 hFH.f.2.2).ap (by decide) (by decide)) hJ) hD.ap.ap (by omega))
      · have c3 : ¬ ((fM (rp σ F (nI i) 1) [nI i]) = 0) := c3
        refine r_iconst (v := 1) dX6_setOut_95 (by decide) ?_
        refine r_goto (t := 100) dX6_setOut_96 (by decide) ?_
        refine x_callV0 (Y := mX7_put) (d' := 1) dX6_setOut_100 ml_X6_94 yv_X7_put (by omega) rfl rfl (by simp [Value.category]) (sR_isR rfl) (c_put rfl (nI i) 1) ?_
        refine r_iinc (v := (nI i) + 1) (lo' := [(3, .int ((nI i) + 1)), (0, .ref (ad 45)), (1, .ref (ad G)), (2, .ref (ad P))]) dX6_setOut_103 0 rfl rfl (by decide) rfl ?_
        refine r_goto (t := 53) dX6_setOut_106 (by decide) ?_
        have e0 : r_p1 fF fM F σ (nI i) = rp (rp σ F (nI i) 1) 48 (nI i) 1 := by unfold r_p1; simp only [eq_false c1, eq_false c3, ↓reduceIte]
        rw [nI_1, r_so, e0]
        exact ab_E.lo [0, 1, 2, 3] rfl (ih (i + 1) _ (hsr _ _ ((rrel.rf.ap hFH.f.2.1 hFH.f.2.2).ap (by decide) (by decide)) hJ) hD.ap.ap (by omega))
theorem c_X6_setOut {ad : Nat → Nat} {d' G : Nat} {J : sS → Prop} {fV fF fM : sS → List Int32 → Int32} (hd : 3 ≤ d') (hV : gr_m ad G J ⟨"OddRanks$Graph", "vertices", "()I"⟩ 0 d' fV) (hF : gr_m ad G J ⟨"OddRanks$Graph", "isFirst", "(I)Z"⟩ 1 d' fF) (hM : gr_m ad G J ⟨"OddRanks$Graph", "isMarked", "(I)Z"⟩ 1 d' fM) (hsr : ∀ σ τ, rrel σ τ → J σ → J τ) {F H P : Nat} (hFH : fh F H) (hP7 : la P = (7, 0)) {n : Nat} (hVn : ∀ σ, J σ → fV σ [] = nI n) (hn : n ≤ 100000) (σ : sS) (hJ : J σ) (hf1 : vR σ 45 1 = some F) (hf2 : vR σ 45 2 = some H) : ab_X (sR ad) (d' + 2) mX6_setOut [.ref (ad 45), .ref (ad G), .ref (ad P)] σ none (r_set fF fM F H G P n σ) := by
  refine ab_X.of (by decide) (Nat.le_of_ble_eq_true rfl) ?_
  refine r_aload_n dX6_setOut_0 0 rfl ?_
  refine r_aload_n dX6_setOut_1 1 rfl ?_
  refine s_putD ok_X6 dX6_setOut_2 (k := 5) (by decide) fl_X6_36 rfl (fun _ => rfl) (fun _ => rfl) rfl rfl ?_
  refine r_aload_n dX6_setOut_5 0 rfl ?_
  refine r_aload_n dX6_setOut_6 2 rfl ?_
  refine s_putD ok_X6 dX6_setOut_7 (k := 6) (by decide) fl_X6_29 rfl (fun _ => rfl) (fun _ => rfl) rfl rfl ?_
  refine r_aload_n dX6_setOut_10 0 rfl ?_
  refine r_aload_n dX6_setOut_11 1 rfl ?_
  refine x_callG [] hV dX6_setOut_12 ml_X6_81 (by omega) (hsr _ _ rrel.rf.aR.aR hJ) rfl rfl (by simp [Value.category]) ?_
  rw [hVn _ (hsr _ _ rrel.rf.aR.aR hJ)]
  refine s_putI ok_X6 dX6_setOut_15 (k := 7) (by decide) fl_X6_84 rfl rfl rfl rfl rfl ?_
  refine r_aload_n dX6_setOut_18 0 rfl ?_
  refine s_getD (b := F) ok_X6 dX6_setOut_19 (k := 1) (by decide) fl_X6_14 rfl rfl (r_d.out hf1 hf2).aI.1 ?_
  refine r_aload_n dX6_setOut_22 1 rfl ?_
  refine x_callG [] hV dX6_setOut_23 ml_X6_81 (by omega) (hsr _ _ rrel.rf.aR.aR.aI hJ) rfl rfl (by simp [Value.category]) ?_
  rw [hVn _ (hsr _ _ rrel.rf.aR.aR.aI hJ)]
  refine x_callV0 (Y := mX7_wipe) (d' := 3) dX6_setOut_26 ml_X6_87 yv_X7_wipe (by omega) rfl rfl (by simp [Value.category]) (sR_isR hFH.f.1) (c_wipe hFH.f.1 n (by omega)) ?_
  refine r_aload_n dX6_setOut_29 0 rfl ?_
  refine s_getD (b := H) ok_X6 dX6_setOut_30 (k := 2) (by decide) fl_X6_20 rfl rfl (r_d.out hf1 hf2).aI.az.2.1 ?_
  refine r_aload_n dX6_setOut_33 1 rfl ?_
  refine x_callG [] hV dX6_setOut_34 ml_X6_81 (by omega) (hsr _ _ (rrel.rf.aR.aR.aI.az hFH.f.2.1 hFH.f.2.2) hJ) rfl rfl (by simp [Value.category]) ?_
  rw [hVn _ (hsr _ _ (rrel.rf.aR.aR.aI.az hFH.f.2.1 hFH.f.2.2) hJ)]
  refine x_callV0 (Y := mX7_wipe) (d' := 3) dX6_setOut_37 ml_X6_87 yv_X7_wipe (by omega) rfl rfl (by simp [Value.category]) (sR_isR hFH.h.1) (c_wipe hFH.h.1 n (by omega)) ?_
  refine r_aload_n dX6_setOut_40 0 rfl ?_
  refine s_getR (b := 48) ok_X6 dX6_setOut_41 (k := 3) (by decide) fl_X6_23 rfl rfl rfl ?_
  refine r_aload_n dX6_setOut_44 1 rfl ?_
  refine x_callG [] hV dX6_setOut_45 ml_X6_81 (by omega) (hsr _ _ ((rrel.rf.aR.aR.aI.az hFH.f.2.1 hFH.f.2.2).az hFH.h.2.1 hFH.h.2.2) hJ) rfl rfl (by simp [Value.category]) ?_
  rw [hVn _ (hsr _ _ ((rrel.rf.aR.aR.aI.az hFH.f.2.1 hFH.f.2.2).az hFH.h.2.1 hFH.h.2.2) hJ)]
  refine x_callV0 (Y := mX7_wipe) (d' := 3) dX6_setOut_48 ml_X6_87 yv_X7_wipe (by omega) rfl rfl (by simp [Value.category]) (sR_isR rfl) (c_wipe rfl n (by omega)) ?_
  refine r_iconst (v := 0) dX6_setOut_51 (by decide) ?_
  refine r_istore_n (lo' := [(3, .int 0), (0, .ref (ad 45)), (1, .ref (ad G)), (2, .ref (ad P))]) dX6_setOut_52 (by decide) rfl ?_
  exact ab_E.lo [0, 1, 2, 3] rfl (l_X6_so hd hV hF hM hsr hFH hP7 hVn hn n 0 _ (hsr _ _ (((rrel.rf.aR.aR.aI.az hFH.f.2.1 hFH.f.2.2).az hFH.h.2.1 hFH.h.2.2).az (by decide) (by decide)) hJ) (r_d.out hf1 hf2).aI.az.az.az (by omega))
theorem r_so_ok {fF fM : sS → List Int32 → Int32} {F H G P : Nat} (hFH : fh F H) : ∀ (k i : Nat) (σ : sS), rrel σ (r_so fF fM F k i σ) ∧ (r_d F H G P σ → r_d F H G P (r_so fF fM F k i σ)) := by
  intro k
  induction k with
  | zero => intro i σ; exact ⟨rrel.rf, id⟩
  | succ k ih =>
    intro i σ
    rw [r_so]
    have q := ih (i + 1) (r_p1 fF fM F σ (nI i))
    exact ⟨((rrel.rf.ap hFH.f.2.1 hFH.f.2.2).ap (by decide) (by decide)).tr q.1, fun h => q.2 h.ap.ap⟩
theorem r_set_ok {fF fM : sS → List Int32 → Int32} {F H G P n : Nat} (hFH : fh F H) {σ : sS} (hf1 : vR σ 45 1 = some F) (hf2 : vR σ 45 2 = some H) : rrel σ (r_set fF fM F H G P n σ) ∧ r_d F H G P (r_set fF fM F H G P n σ) :=
  ⟨(((rrel.rf.aR.aR.aI.az hFH.f.2.1 hFH.f.2.2).az hFH.h.2.1 hFH.h.2.2).az (by decide) (by decide)).tr (r_so_ok (G := G) (P := P) hFH n 0 _).1, (r_so_ok hFH n 0 _).2 (r_d.out hf1 hf2).aI.az.az.az⟩
def r_tu (F H n : Nat) (σ : sS) : sS := rz (uR (uR σ 45 1 (some H)) 45 2 (some F)) F n
theorem r_tu_ok {F H G P n : Nat} {σ : sS} (hFH : fh F H) (hD : r_d F H G P σ) : rrel σ (r_tu F H n σ) ∧ r_d H F G P (r_tu F H n σ) := ⟨rrel.rf.aR.aR.az hFH.f.2.1 hFH.f.2.2, hD.tu.az⟩
theorem c_X6_turn {ad : Nat → Nat} {d' G : Nat} {J : sS → Prop} {fV : sS → List Int32 → Int32} (hd : 3 ≤ d') (hV : gr_m ad G J ⟨"OddRanks$Graph", "vertices", "()I"⟩ 0 d' fV) (hsr : ∀ σ τ, rrel σ τ → J σ → J τ) {F H P : Nat} (hFH : fh F H) (hP7 : la P = (7, 0)) {n : Nat} (hVn : ∀ σ, J σ → fV σ [] = nI n) (hn : n ≤ 100000) (σ : sS) (hJ : J σ) (hD : r_d F H G P σ) : ab_X (sR ad) (d' + 2) mX6_turn [.ref (ad 45)] σ none (r_tu F H n σ) := by
  refine ab_X.of (by decide) (Nat.le_of_ble_eq_true rfl) ?_
  refine r_aload_n dX6_turn_0 0 rfl ?_
  refine s_getD (b := F) ok_X6 dX6_turn_1 (k := 1) (by decide) fl_X6_14 rfl rfl hD.1 ?_
  refine r_astore_n (lo' := [(1, .ref (ad F)), (0, .ref (ad 45))]) dX6_turn_4 (by decide) rfl ?_
  refine r_aload_n dX6_turn_5 1 rfl ?_
  refine r_aload_n dX6_turn_6 1 rfl ?_
  refine s_getD (b := H) ok_X6 dX6_turn_7 (k := 2) (by decide) fl_X6_20 rfl rfl hD.2.1 ?_
  refine s_putD ok_X6 dX6_turn_10 (k := 1) (by decide) fl_X6_14 rfl (fun _ => rfl) (fun _ => rfl) rfl rfl ?_
  refine r_aload_n dX6_turn_13 1 rfl ?_
  refine r_aload_n dX6_turn_14 0 rfl ?_
  refine s_putD ok_X6 dX6_turn_15 (k := 2) (by decide) fl_X6_20 rfl (fun _ => rfl) (fun _ => rfl) rfl rfl ?_
  refine r_aload_n dX6_turn_18 1 rfl ?_
  refine s_getD (b := F) ok_X6 dX6_turn_19 (k := 2) (by decide) fl_X6_20 rfl rfl hD.tu.2.1 ?_
  refine r_aload_n dX6_turn_22 1 rfl ?_
  refine s_getD (b := G) ok_X6 dX6_turn_23 (k := 5) (by decide) fl_X6_36 rfl rfl hD.tu.2.2.1 ?_
  refine x_callG [] hV dX6_turn_26 ml_X6_81 (by omega) (hsr _ _ rrel.rf.aR.aR hJ) rfl rfl (by simp [Value.category]) ?_
  rw [hVn _ (hsr _ _ rrel.rf.aR.aR hJ)]
  refine x_callV0 (Y := mX7_wipe) (d' := 3) dX6_turn_29 ml_X6_87 yv_X7_wipe (by omega) rfl rfl (by simp [Value.category]) (sR_isR hFH.f.1) (c_wipe hFH.f.1 n (by omega)) ?_
  refine r_vret rfl dX6_turn_32 ?_
  exact ⟨rfl, rfl⟩
def r_lg (Lc : Nat) (t s : Int32) : Nat → Int32
  | 0 => 0
  | i + 1 => if q_in (nI i) t = 0 then r_lg Lc t s i else r_lg Lc t s i ||| ((1 : Int32) <<< ((nI i * nI Lc + s) &&& 31))
theorem l_X6_lg {ad : Nat → Nat} {σ : sS} {d' : Nat} {Lc : Nat} {t s : Int32} : ∀ (n i : Nat), i + n = 9 → ab_E (sR ad) mX6_lengthened (d' + 2) 14 [(5, .int (nI i)), (4, .int (r_lg Lc t s i)), (3, .int (nI Lc)), (0, .ref (ad 45)), (1, .int t), (2, .int s)] [] σ (fun r9 σ' => r9 = some (.int (r_lg Lc t s 9)) ∧ σ' = σ) := by
  intro n
  induction n with
  | zero =>
    intro i hi
    have hi : i = 9 := by omega
    subst hi
    have hc : (9 : Int32) ≤ nI 9 := by decide
    refine r_iload dX6_lengthened_14 0 rfl ?_
    refine r_bipush (v := 9) dX6_lengthened_16 (by decide) ?_
    refine r_icmp_ge (t := 49) dX6_lengthened_18 (by decide) (fun _ => ?_) (fun hh => absurd hc hh)
    refine r_iload dX6_lengthened_49 1 rfl ?_
    refine r_iret rfl dX6_lengthened_51 ?_
    exact ⟨rfl, rfl⟩
  | succ n ih =>
    intro i hi
    have hc : ¬ (9 : Int32) ≤ nI i := nI_ge (b := 9) (by omega) (by decide)
    refine r_iload dX6_lengthened_14 0 rfl ?_
    refine r_bipush (v := 9) dX6_lengthened_16 (by decide) ?_
    refine r_icmp_ge (t := 49) dX6_lengthened_18 (by decide) (fun hh => absurd hh hc) (fun _ => ?_)
    refine r_iload dX6_lengthened_21 0 rfl ?_
    refine r_iload_n dX6_lengthened_23 4 rfl ?_
    refine x_callSN (Y := mX11_isIn) (d' := 1) dX6_lengthened_24 mn_X6_112 ys_X11_isIn (by omega) rfl rfl (by simp [Value.category]) (c_X11_isIn σ (nI i) t) ?_
    refine r_if_eq (t := 43) dX6_lengthened_27 (by decide) (fun c1 => ?_) (fun c1 => ?_)
    · have c1 : (q_in (nI i) t) = 0 := c1
      refine r_iinc (v := (nI i) + 1) (lo' := [(5, .int ((nI i) + 1)), (4, .int (r_lg Lc t s i)), (3, .int (nI Lc)), (0, .ref (ad 45)), (1, .int t), (2, .int s)]) dX6_lengthened_43 0 rfl rfl (by decide) rfl ?_
      refine r_goto (t := 14) dX6_lengthened_46 (by decide) ?_
      rw [nI_1]
      have e4 : r_lg Lc t s (i + 1) = r_lg Lc t s i := by rw [r_lg]; simp only [eq_true c1, ↓reduceIte]
      rw [← e4]
      exact ab_E.lo [0, 1, 2, 3, 4, 5] rfl (ih (i + 1) (by omega))
    · have c1 : ¬ ((q_in (nI i) t) = 0) := c1
      refine r_iload dX6_lengthened_30 1 rfl ?_
      refine r_iconst (v := 1) dX6_lengthened_32 (by decide) ?_
      refine r_iload dX6_lengthened_33 0 rfl ?_
      refine r_iload_n dX6_lengthened_35 2 rfl ?_
      refine r_imul dX6_lengthened_36 ?_
      refine r_iload_n dX6_lengthened_37 5 rfl ?_
      refine r_iadd dX6_lengthened_38 ?_
      refine r_ishl dX6_lengthened_39 ?_
      refine r_ior dX6_lengthened_40 ?_
      refine r_istore (lo' := [(4, .int ((r_lg Lc t s i) ||| ((1 : Int32) <<< ((((nI i) * (nI Lc)) + s) &&& 31)))), (5, .int (nI i)), (3, .int (nI Lc)), (0, .ref (ad 45)), (1, .int t), (2, .int s)]) dX6_lengthened_41 (by decide) rfl ?_
      refine r_iinc (v := (nI i) + 1) (lo' := [(5, .int ((nI i) + 1)), (4, .int ((r_lg Lc t s i) ||| ((1 : Int32) <<< ((((nI i) * (nI Lc)) + s) &&& 31)))), (3, .int (nI Lc)), (0, .ref (ad 45)), (1, .int t), (2, .int s)]) dX6_lengthened_43 1 rfl rfl (by decide) rfl ?_
      refine r_goto (t := 14) dX6_lengthened_46 (by decide) ?_
      rw [nI_1]
      have e4 : r_lg Lc t s (i + 1) = (r_lg Lc t s i) ||| ((1 : Int32) <<< ((((nI i) * (nI Lc)) + s) &&& 31)) := by rw [r_lg]; simp only [eq_false c1, ↓reduceIte]
      rw [← e4]
      exact ab_E.lo [0, 1, 2, 3, 4, 5] rfl (ih (i + 1) (by omega))
theorem c_X6_lengthened {ad : Nat → Nat} {d' G : Nat} {J : sS → Prop} {fL : sS → List Int32 → Int32} (hL : gr_m ad G J ⟨"OddRanks$Graph", "letterCount", "()I"⟩ 0 d' fL) {Lc : Nat} (hLc : ∀ σ, J σ → fL σ [] = nI Lc) {F H P : Nat} (σ : sS) (hJ : J σ) (hD : r_d F H G P σ) (t s : Int32) : ab_X (sR ad) (d' + 2) mX6_lengthened [.ref (ad 45), .int t, .int s] σ (some (.int (r_lg Lc t s 9))) σ := by
  refine ab_X.of (by decide) (Nat.le_of_ble_eq_true rfl) ?_
  refine r_aload_n dX6_lengthened_0 0 rfl ?_
  refine s_getD (b := G) ok_X6 dX6_lengthened_1 (k := 5) (by decide) fl_X6_36 rfl rfl hD.2.2.1 ?_
  refine x_callG [] hL dX6_lengthened_4 ml_X6_69 (by omega) hJ rfl rfl (by simp [Value.category]) ?_
  rw [hLc _ hJ]
  refine r_istore_n (lo' := [(3, .int (nI Lc)), (0, .ref (ad 45)), (1, .int t), (2, .int s)]) dX6_lengthened_7 (by decide) rfl ?_
  refine r_iconst (v := 0) dX6_lengthened_8 (by decide) ?_
  refine r_istore (lo' := [(4, .int 0), (3, .int (nI Lc)), (0, .ref (ad 45)), (1, .int t), (2, .int s)]) dX6_lengthened_9 (by decide) rfl ?_
  refine r_iconst (v := 0) dX6_lengthened_11 (by decide) ?_
  refine r_istore (lo' := [(5, .int 0), (4, .int 0), (3, .int (nI Lc)), (0, .ref (ad 45)), (1, .int t), (2, .int s)]) dX6_lengthened_12 (by decide) rfl ?_
  exact l_X6_lg 9 0 (by decide)
def r_sp (Lc : Nat) : Nat → Int32 → sS → sS
  | 0, _, σ => σ
  | k + 1, t, σ => r_sp Lc k (t / nI Lc) (rqu σ 49 (t - t / nI Lc * nI Lc))
def r_spl (Lc ln : Nat) (w : Int32) (σ : sS) : sS := r_sp Lc ln w (rz σ 49 10)
theorem r_sp_ok {Lc : Nat} : ∀ (k : Nat) (t : Int32) (σ : sS), rrel σ (r_sp Lc k t σ) ∧ (r_sp Lc k t σ).2.2.1 = σ.2.2.1 ∧ (uok σ 49 → uok (r_sp Lc k t σ) 49) := by
  intro k
  induction k with
  | zero => intro t σ; exact ⟨rrel.rf, rfl, id⟩
  | succ k ih =>
    intro t σ
    rw [r_sp]
    have q := ih (t / nI Lc) (rqu σ 49 (t - t / nI Lc * nI Lc))
    exact ⟨(rrel.rf.aq (by decide) (by decide)).tr q.1, q.2.1.trans rq_L.2, fun h => q.2.2 (h.push _)⟩
theorem l_X6_sp {ad : Nat → Nat} {Lc ln : Nat} (hL1 : 1 ≤ Lc) (hL3 : Lc ≤ 3) (hln : ln ≤ 1000) {w : Int32} : ∀ (k i : Nat) (t : Int32) (σ : sS), uok σ 49 → i + k = ln → ab_E (sR ad) mX6_spell 4 15 [(5, .int (nI i)), (4, .int t), (0, .ref (ad 45)), (1, .int w), (2, .int (nI ln)), (3, .int (nI Lc))] [] σ (fun r9 σ' => r9 = none ∧ σ' = r_sp Lc k t σ) := by
  intro k
  induction k with
  | zero =>
    intro i t σ hu hi
    have hc : nI ln ≤ nI i := nI_le (by omega) (by omega)
    refine r_iload dX6_spell_15 0 rfl ?_
    refine r_iload_n dX6_spell_17 4 rfl ?_
    refine r_icmp_ge (t := 48) dX6_spell_18 (by decide) (fun _ => ?_) (fun hh => absurd hc hh)
    refine r_vret rfl dX6_spell_48 ?_
    exact ⟨rfl, rfl⟩
  | succ k ih =>
    intro i t σ hu hi
    have hc : ¬ nI ln ≤ nI i := nI_ge (by omega) (by omega)
    refine r_iload dX6_spell_15 0 rfl ?_
    refine r_iload_n dX6_spell_17 4 rfl ?_
    refine r_icmp_ge (t := 48) dX6_spell_18 (by decide) (fun hh => absurd hh hc) (fun _ => ?_)
    refine r_iload_n dX6_spell_21 5 rfl ?_
    refine r_if_le (t := 48) dX6_spell_22 (by decide) (fun hh => absurd hh (nI_nle (by omega) (by omega))) (fun _ => ?_)
    refine r_aload_n dX6_spell_25 2 rfl ?_
    refine s_getR (b := 49) ok_X6 dX6_spell_26 (k := 4) (by decide) fl_X6_26 rfl rfl rfl ?_
    refine r_iload dX6_spell_29 1 rfl ?_
    refine r_iload_n dX6_spell_31 5 rfl ?_
    refine r_irem dX6_spell_32 (nI_ne0 (by omega) (by omega)) ?_
    refine x_callV0 (Y := mX7_push) (d' := 3) dX6_spell_33 ml_X6_116 yv_X7_push (by omega) rfl rfl (by simp [Value.category]) (sR_isR rfl) (c_pushU rfl hu (t - t / (nI Lc) * (nI Lc))) ?_
    refine r_iload dX6_spell_36 1 rfl ?_
    refine r_iload_n dX6_spell_38 5 rfl ?_
    refine r_idiv dX6_spell_39 (nI_ne0 (by omega) (by omega)) ?_
    refine r_istore (lo' := [(4, .int (t / (nI Lc))), (5, .int (nI i)), (0, .ref (ad 45)), (1, .int w), (2, .int (nI ln)), (3, .int (nI Lc))]) dX6_spell_40 (by decide) rfl ?_
    refine r_iinc (v := (nI i) + 1) (lo' := [(5, .int ((nI i) + 1)), (4, .int (t / (nI Lc))), (0, .ref (ad 45)), (1, .int w), (2, .int (nI ln)), (3, .int (nI Lc))]) dX6_spell_42 1 rfl rfl (by decide) rfl ?_
    refine r_goto (t := 15) dX6_spell_45 (by decide) ?_
    rw [nI_1, r_sp]
    exact ab_E.lo [0, 1, 2, 3, 4, 5] rfl (ih (i + 1) _ _ (hu.push _) (by omega))
theorem c_X6_spell {ad : Nat → Nat} (σ : sS) {Lc ln : Nat} (hL1 : 1 ≤ Lc) (hL3 : Lc ≤ 3) (hln : ln ≤ 1000) (w : Int32) (hu : uok (rz σ 49 10) 49) : ab_X (sR ad) 4 mX6_spell [.ref (ad 45), .int w, .int (nI ln), .int (nI Lc)] σ none (r_spl Lc ln w σ) := by
  refine ab_X.of (by decide) (Nat.le_of_ble_eq_true rfl) ?_
  refine r_aload_n dX6_spell_0 0 rfl ?_
  refine s_getR (b := 49) ok_X6 dX6_spell_1 (k := 4) (by decide) fl_X6_26 rfl rfl rfl ?_
  refine r_bipush (v := 10) dX6_spell_4 (by decide) ?_
  refine x_callV0 (Y := mX7_wipe) (d' := 3) dX6_spell_6 ml_X6_87 yv_X7_wipe (by omega) rfl rfl (by simp [Value.category]) (sR_isR rfl) (c_wipe rfl 10 (by decide)) ?_
  refine r_iload_n dX6_spell_9 1 rfl ?_
  refine r_istore (lo' := [(4, .int w), (0, .ref (ad 45)), (1, .int w), (2, .int (nI ln)), (3, .int (nI Lc))]) dX6_spell_10 (by decide) rfl ?_
  refine r_iconst (v := 0) dX6_spell_12 (by decide) ?_
  refine r_istore (lo' := [(5, .int 0), (4, .int w), (0, .ref (ad 45)), (1, .int w), (2, .int (nI ln)), (3, .int (nI Lc))]) dX6_spell_13 (by decide) rfl ?_
  exact ab_E.lo [0, 1, 2, 3, 4, 5] rfl (l_X6_sp hL1 hL3 hln ln 0 w _ hu (by omega))
def r_t1 (F : Nat) (σ : sS) (v a : Int32) : Int32 := if rg σ F v = 0 then a else if l_hs σ v 8 = 0 then a else a ||| rg σ F v
def r_tk (F : Nat) (σ : sS) : Nat → Nat → Int32 → Int32
  | 0, _, a => a
  | k + 1, v, a => r_tk F σ k (v + 1) (r_t1 F σ (nI v) a)
theorem l_X6_tk {ad : Nat → Nat} {d' G : Nat} {J : sS → Prop} {fV : sS → List Int32 → Int32} (hd : 3 ≤ d') (hV : gr_m ad G J ⟨"OddRanks$Graph", "vertices", "()I"⟩ 0 d' fV) (hsr : ∀ σ τ, rrel σ τ → J σ → J τ) {F H P : Nat} (hFH : fh F H) (hP7 : la P = (7, 0)) {n : Nat} (hVn : ∀ σ, J σ → fV σ [] = nI n) (hn : n ≤ 100000) {σ : sS} (hJ : J σ) (hD : r_d F H G P σ) : ∀ (k i : Nat) (a : Int32), i + k = n → ab_E (sR ad) mX6_stemsTaken (d' + 2) 4 [(2, .int (nI i)), (1, .int a), (0, .ref (ad 45))] [] σ (fun r9 σ' => r9 = some (.int (r_tk F σ k i a)) ∧ σ' = σ) := by
  intro k
  induction k with
  | zero =>
    intro i a hi
    have hc : nI n ≤ nI i := nI_le (by omega) (by omega)
    refine r_iload_n dX6_stemsTaken_4 0 rfl ?_
    refine r_aload_n dX6_stemsTaken_5 2 rfl ?_
    refine s_getD (b := G) ok_X6 dX6_stemsTaken_6 (k := 5) (by decide) fl_X6_36 rfl rfl hD.2.2.1 ?_
    refine x_callG [] hV dX6_stemsTaken_9 ml_X6_81 (by omega) hJ rfl rfl (by simp [Value.category]) ?_
    rw [hVn _ hJ]
    refine r_icmp_ge (t := 54) dX6_stemsTaken_12 (by decide) (fun _ => ?_) (fun hh => absurd hc hh)
    refine r_iload_n dX6_stemsTaken_54 1 rfl ?_
    refine r_iret rfl dX6_stemsTaken_55 ?_
    exact ⟨rfl, rfl⟩
  | succ k ih =>
    intro i a hi
    have hc : ¬ nI n ≤ nI i := nI_ge (by omega) (by omega)
    refine r_iload_n dX6_stemsTaken_4 0 rfl ?_
    refine r_aload_n dX6_stemsTaken_5 2 rfl ?_
    refine s_getD (b := G) ok_X6 dX6_stemsTaken_6 (k := 5) (by decide) fl_X6_36 rfl rfl hD.2.2.1 ?_
    refine x_callG [] hV dX6_stemsTaken_9 ml_X6_81 (by omega) hJ rfl rfl (by simp [Value.category]) ?_
    rw [hVn _ hJ]
    refine r_icmp_ge (t := 54) dX6_stemsTaken_12 (by decide) (fun hh => absurd hh hc) (fun _ => ?_)
    refine r_aload_n dX6_stemsTaken_15 2 rfl ?_
    refine s_getD (b := F) ok_X6 dX6_stemsTaken_16 (k := 1) (by decide) fl_X6_14 rfl rfl hD.1 ?_
    refine r_iload_n dX6_stemsTaken_19 0 rfl ?_
    refine x_callV (Y := mX7_get) (d' := 1) dX6_stemsTaken_20 ml_X6_48 yv_X7_get (by omega) rfl rfl (by simp [Value.category]) (sR_isR hFH.f.1) (c_get hFH.f.1 (nI i)) ?_
    refine r_if_eq (t := 48) dX6_stemsTaken_23 (by decide) (fun c1 => ?_) (fun c1 => ?_)
    · have c1 : (rg σ F (nI i)) = 0 := c1
      refine r_iinc (v := (nI i) + 1) (lo' := [(2, .int ((nI i) + 1)), (1, .int a), (0, .ref (ad 45))]) dX6_stemsTaken_48 0 rfl rfl (by decide) rfl ?_
      refine r_goto (t := 4) dX6_stemsTaken_51 (by decide) ?_
      have e0 : r_t1 F σ (nI i) a = a := by unfold r_t1; simp only [eq_true c1, ↓reduceIte]
      rw [nI_1, r_tk, e0]
      exact ab_E.lo [0, 1, 2] rfl (ih (i + 1) _ (by omega))
    · have c1 : ¬ ((rg σ F (nI i)) = 0) := c1
      refine r_aload_n dX6_stemsTaken_26 2 rfl ?_
      refine s_getR (b := 19) ok_X6 dX6_stemsTaken_27 (k := 0) (by decide) fl_X6_32 rfl rfl rfl ?_
      refine r_iload_n dX6_stemsTaken_30 0 rfl ?_
      refine x_callV (Y := mX3_isGood) (d' := 3) dX6_stemsTaken_31 ml_X6_119 yv_X3_isGood (by omega) rfl rfl (by simp [Value.category]) (sR_is rfl rfl) (c_X3_isGood σ (nI i)) ?_
      refine r_if_eq (t := 48) dX6_stemsTaken_34 (by decide) (fun c2 => ?_) (fun c2 => ?_)
      · have c2 : (l_hs σ (nI i) 8) = 0 := c2
        refine r_iinc (v := (nI i) + 1) (lo' := [(2, .int ((nI i) + 1)), (1, .int a), (0, .ref (ad 45))]) dX6_stemsTaken_48 0 rfl rfl (by decide) rfl ?_
        refine r_goto (t := 4) dX6_stemsTaken_51 (by decide) ?_
        have e0 : r_t1 F σ (nI i) a = a := by unfold r_t1; simp only [eq_false c1, eq_true c2, ↓reduceIte]
        rw [nI_1, r_tk, e0]
        exact ab_E.lo [0, 1, 2] rfl (ih (i + 1) _ (by omega))
      · have c2 : ¬ ((l_hs σ (nI i) 8) = 0) := c2
        refine r_iload_n dX6_stemsTaken_37 1 rfl ?_
        refine r_aload_n dX6_stemsTaken_38 2 rfl ?_
        refine s_getD (b := F) ok_X6 dX6_stemsTaken_39 (k := 1) (by decide) fl_X6_14 rfl rfl hD.1 ?_
        refine r_iload_n dX6_stemsTaken_42 0 rfl ?_
        refine x_callV (Y := mX7_get) (d' := 1) dX6_stemsTaken_43 ml_X6_48 yv_X7_get (by omega) rfl rfl (by simp [Value.category]) (sR_isR hFH.f.1) (c_get hFH.f.1 (nI i)) ?_
        refine r_ior dX6_stemsTaken_46 ?_
        refine r_istore_n (lo' := [(1, .int (a ||| (rg σ F (nI i)))), (2, .int (nI i)), (0, .ref (ad 45))]) dX6_stemsTaken_47 (by decide) rfl ?_
        refine r_iinc (v := (nI i) + 1) (lo' := [(2, .int ((nI i) + 1)), (1, .int (a ||| (rg σ F (nI i)))), (0, .ref (ad 45))]) dX6_stemsTaken_48 1 rfl rfl (by decide) rfl ?_
        refine r_goto (t := 4) dX6_stemsTaken_51 (by decide) ?_
        have e0 : r_t1 F σ (nI i) a = a ||| (rg σ F (nI i)) := by unfold r_t1; simp only [eq_false c1, eq_false c2, ↓reduceIte]
        rw [nI_1, r_tk, e0]
        exact ab_E.lo [0, 1, 2] rfl (ih (i + 1) _ (by omega))
theorem c_X6_stemsTaken {ad : Nat → Nat} {d' G : Nat} {J : sS → Prop} {fV : sS → List Int32 → Int32} (hd : 3 ≤ d') (hV : gr_m ad G J ⟨"OddRanks$Graph", "vertices", "()I"⟩ 0 d' fV) (hsr : ∀ σ τ, rrel σ τ → J σ → J τ) {F H P : Nat} (hFH : fh F H) (hP7 : la P = (7, 0)) {n : Nat} (hVn : ∀ σ, J σ → fV σ [] = nI n) (hn : n ≤ 100000) (σ : sS) (hJ : J σ) (hD : r_d F H G P σ) : ab_X (sR ad) (d' + 2) mX6_stemsTaken [.ref (ad 45)] σ (some (.int (r_tk F σ n 0 0))) σ := by
  refine ab_X.of (by decide) (Nat.le_of_ble_eq_true rfl) ?_
  refine r_iconst (v := 0) dX6_stemsTaken_0 (by decide) ?_
  refine r_istore_n (lo' := [(1, .int 0), (0, .ref (ad 45))]) dX6_stemsTaken_1 (by decide) rfl ?_
  refine r_iconst (v := 0) dX6_stemsTaken_2 (by decide) ?_
  refine r_istore_n (lo' := [(2, .int 0), (1, .int 0), (0, .ref (ad 45))]) dX6_stemsTaken_3 (by decide) rfl ?_
  exact l_X6_tk hd hV hsr hFH hP7 hVn hn hJ hD n 0 0 (by omega)
