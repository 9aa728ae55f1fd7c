/-! Rounds.tally -/
def r_as (fN fE : sS → List Int32 → Int32) (F H Lc n : Nat) : Nat → Nat → sS → sS
  | 0, _, σ => σ
  | k + 1, s, σ => r_as fN fE F H Lc n k (s + 1) (r_av fN fE F H Lc (nI s) 1 n 0 σ)
def r_ag (fN fE : sS → List Int32 → Int32) (Lc n : Nat) : Nat → Nat → Nat → sS → sS
  | 0, _, _, σ => σ
  | k + 1, F, H, σ => r_ag fN fE Lc n k H F (r_tu F H n (r_as fN fE F H Lc n Lc 0 σ))
theorem r_as_ok {fN fE : sS → List Int32 → Int32} {F H G P Lc n : Nat} (hFH : fh F H) : ∀ (k s : Nat) (σ : sS), rrel σ (r_as fN fE F H Lc n k s σ) ∧ (r_d F H G P σ → r_d F H G P (r_as fN fE F H Lc n k s σ)) := by
  intro k
  induction k with
  | zero => intro s σ; exact ⟨rrel.rf, id⟩
  | succ k ih =>
    intro s σ
    rw [r_as]
    have q1 := r_av_ok (fN := fN) (fE := fE) (G := G) (P := P) (Lc := Lc) hFH (s := nI s) (b := 1) n 0 σ
    have q := ih (s + 1) (r_av fN fE F H Lc (nI s) 1 n 0 σ)
    exact ⟨q1.1.tr q.1, fun h => q.2 (q1.2.1 h)⟩
theorem r_ag_ok {fN fE : sS → List Int32 → Int32} {G P Lc n : Nat} : ∀ (k F H : Nat) (σ : sS), fh F H → r_d F H G P σ → fh (r_ff k F H).1 (r_ff k F H).2 ∧ rrel σ (r_ag fN fE Lc n k F H σ) ∧ r_d (r_ff k F H).1 (r_ff k F H).2 G P (r_ag fN fE Lc n k F H σ) := by
  intro k
  induction k with
  | zero => intro F H σ h hD; exact ⟨h, rrel.rf, hD⟩
  | succ k ih =>
    intro F H σ h hD
    rw [r_ag]
    have q1 := r_as_ok (fN := fN) (fE := fE) (G := G) (P := P) (Lc := Lc) (n := n) h Lc 0 σ
    have q2 := r_tu_ok (n := n) h (q1.2 hD)
    have q := ih H F _ h.sw q2.2
    exact ⟨q.1, (q1.1.tr q2.1).tr q.2.1, q.2.2⟩
theorem r_spl_ok {Lc ln : Nat} {w : Int32} {σ : sS} : rrel σ (r_spl Lc ln w σ) ∧ (r_spl Lc ln w σ).2.2.1 = σ.2.2.1 := ⟨(rrel.rf.az (by decide) (by decide)).tr (r_sp_ok ln w _).1, (r_sp_ok ln w _).2.1.trans rx_L.2⟩
theorem l_X6_as {ad : Nat → Nat} {d' G : Nat} {J : sS → Prop} {fV fF fL fN fE fM : sS → List Int32 → Int32} (hd : 3 ≤ d') (hV : gr_m ad G J ⟨"OddRanks$Graph", "vertices", "()I"⟩ 0 d' fV) (hF : gr_m ad G J ⟨"OddRanks$Graph", "isFirst", "(I)Z"⟩ 1 d' fF) (hL : gr_m ad G J ⟨"OddRanks$Graph", "letterCount", "()I"⟩ 0 d' fL) (hN : gr_m ad G J ⟨"OddRanks$Graph", "fan", "(II)I"⟩ 2 d' fN) (hE : gr_m ad G J ⟨"OddRanks$Graph", "goal", "(III)I"⟩ 3 d' fE) (hM : gr_m ad G J ⟨"OddRanks$Graph", "isMarked", "(I)Z"⟩ 1 d' fM) (hsr : ∀ σ τ, rrel σ τ → J σ → J τ) (hsl : ∀ σ τ, lrel σ τ → J σ → J τ) {P : Nat} (hP7 : la P = (7, 0)) {n : Nat} (hVn : ∀ σ, J σ → fV σ [] = nI n) (hn : n ≤ 100000) {Lc : Nat} (hLc : ∀ σ, J σ → fL σ [] = nI Lc) (hL3 : Lc ≤ 3) {F H : Nat} (hFH : fh F H) {i sl ln : Nat} {Q : Option Value → sS → Prop} : ∀ (k s : Nat) (σ : sS), J σ → r_d F H G P σ → s + k = Lc → ab_E (sR ad) mX6_tally (d' + 6) 47 [(5, .int (nI i)), (4, .int (nI Lc)), (0, .ref (ad 45)), (1, .ref (ad G)), (2, .int (nI sl)), (3, .int (nI ln))] [] (r_as fN fE F H Lc n k s σ) Q → ab_E (sR ad) mX6_tally (d' + 6) 27 [(6, .int (nI s)), (5, .int (nI i)), (4, .int (nI Lc)), (0, .ref (ad 45)), (1, .ref (ad G)), (2, .int (nI sl)), (3, .int (nI ln))] [] σ Q := by
  intro k
  induction k with
  | zero =>
    intro s σ hJ hD hs K
    have hc : nI Lc ≤ nI s := nI_le (by omega) (by omega)
    refine r_iload dX6_tally_27 0 rfl ?_
    refine r_iload dX6_tally_29 2 rfl ?_
    refine r_icmp_ge (t := 47) dX6_tally_31 (by decide) (fun _ => ?_) (fun hh => absurd hc hh)
    exact ab_E.lo [1, 2, 3, 4, 5, 6] rfl K
  | succ k ih =>
    intro s σ hJ hD hs K
    have hc : ¬ nI Lc ≤ nI s := nI_ge (by omega) (by omega)
    have q1 := r_av_ok (fN := fN) (fE := fE) (G := G) (P := P) (Lc := Lc) hFH (s := nI s) (b := 1) n 0 σ
    refine r_iload dX6_tally_27 0 rfl ?_
    refine r_iload dX6_tally_29 2 rfl ?_
    refine r_icmp_ge (t := 47) dX6_tally_31 (by decide) (fun hh => absurd hh hc) (fun _ => ?_)
    refine r_aload_n dX6_tally_34 3 rfl ?_
    refine r_iload dX6_tally_35 0 rfl ?_
    refine r_iconst (v := 1) dX6_tally_37 (by decide) ?_
    refine x_callV0 (Y := mX6_advance) (d' := d' + 3) dX6_tally_38 ml_X6_52 yv_X6_advance (by omega) rfl rfl (by simp [Value.category]) (sR_is rfl rfl) (c_X6_advance hd hV hL hN hE hsr hFH hP7 hVn hn hLc σ hJ hD (nI s) 1) ?_
    refine r_iinc (v := (nI s) + 1) (lo' := [(6, .int ((nI s) + 1)), (5, .int (nI i)), (4, .int (nI Lc)), (0, .ref (ad 45)), (1, .ref (ad G)), (2, .int (nI sl)), (3, .int (nI ln))]) dX6_tally_41 0 rfl rfl (by decide) rfl ?_
    refine r_goto (t := 27) dX6_tally_44 (by decide) ?_
    rw [r_as] at K
    rw [nI_1]
    exact ab_E.lo [0, 1, 2, 3, 4, 5, 6] rfl (ih (s + 1) _ (hsr _ _ q1.1 hJ) (q1.2.1 hD) (by omega) K)
theorem l_X6_ag {ad : Nat → Nat} {d' G : Nat} {J : sS → Prop} {fV fF fL fN fE fM : sS → List Int32 → Int32} (hd : 3 ≤ d') (hV : gr_m ad G J ⟨"OddRanks$Graph", "vertices", "()I"⟩ 0 d' fV) (hF : gr_m ad G J ⟨"OddRanks$Graph", "isFirst", "(I)Z"⟩ 1 d' fF) (hL : gr_m ad G J ⟨"OddRanks$Graph", "letterCount", "()I"⟩ 0 d' fL) (hN : gr_m ad G J ⟨"OddRanks$Graph", "fan", "(II)I"⟩ 2 d' fN) (hE : gr_m ad G J ⟨"OddRanks$Graph", "goal", "(III)I"⟩ 3 d' fE) (hM : gr_m ad G J ⟨"OddRanks$Graph", "isMarked", "(I)Z"⟩ 1 d' fM) (hsr : ∀ σ τ, rrel σ τ → J σ → J τ) (hsl : ∀ σ τ, lrel σ τ → J σ → J τ) {P : Nat} (hP7 : la P = (7, 0)) {n : Nat} (hVn : ∀ σ, J σ → fV σ [] = nI n) (hn : n ≤ 100000) {Lc : Nat} (hLc : ∀ σ, J σ → fL σ [] = nI Lc) (hL3 : Lc ≤ 3) {sl ln : Nat} (hsl2 : sl ≤ 1000) {Q : Option Value → sS → Prop} : ∀ (k i F H : Nat) (σ : sS), fh F H → J σ → r_d F H G P σ → i + k = sl → ab_E (sR ad) mX6_tally (d' + 6) 57 [(4, .int (nI Lc)), (0, .ref (ad 45)), (1, .ref (ad G)), (2, .int (nI sl)), (3, .int (nI ln))] [] (r_ag fN fE Lc n k F H σ) Q → ab_E (sR ad) mX6_tally (d' + 6) 18 [(5, .int (nI i)), (4, .int (nI Lc)), (0, .ref (ad 45)), (1, .ref (ad G)), (2, .int (nI sl)), (3, .int (nI ln))] [] σ Q := by
  intro k
  induction k with
  | zero =>
    intro i F H σ hFH hJ hD hs K
    have hc : nI sl ≤ nI i := nI_le (by omega) (by omega)
    refine r_iload dX6_tally_18 0 rfl ?_
    refine r_iload_n dX6_tally_20 4 rfl ?_
    refine r_icmp_ge (t := 57) dX6_tally_21 (by decide) (fun _ => ?_) (fun hh => absurd hc hh)
    exact ab_E.lo [1, 2, 3, 4, 5] rfl K
  | succ k ih =>
    intro i F H σ hFH hJ hD hs K
    have hc : ¬ nI sl ≤ nI i := nI_ge (by omega) (by omega)
    have q1 := r_as_ok (fN := fN) (fE := fE) (G := G) (P := P) (Lc := Lc) (n := n) hFH Lc 0 σ
    refine r_iload dX6_tally_18 0 rfl ?_
    refine r_iload_n dX6_tally_20 4 rfl ?_
    refine r_icmp_ge (t := 57) dX6_tally_21 (by decide) (fun hh => absurd hh hc) (fun _ => ?_)
    refine r_iconst (v := 0) dX6_tally_24 (by decide) ?_
    refine r_istore (lo' := [(6, .int 0), (5, .int (nI i)), (4, .int (nI Lc)), (0, .ref (ad 45)), (1, .ref (ad G)), (2, .int (nI sl)), (3, .int (nI ln))]) dX6_tally_25 (by decide) rfl ?_
    refine ab_E.lo [0, 1, 2, 3, 4, 5, 6] (lo' := [(6, .int (nI 0)), (5, .int (nI i)), (4, .int (nI Lc)), (0, .ref (ad 45)), (1, .ref (ad G)), (2, .int (nI sl)), (3, .int (nI ln))]) rfl (l_X6_as hd hV hF hL hN hE hM hsr hsl hP7 hVn hn hLc hL3 hFH Lc 0 σ hJ hD (by omega) ?_)
    refine r_aload_n dX6_tally_47 2 rfl ?_
    refine x_callV0 (Y := mX6_turn) (d' := d' + 2) dX6_tally_48 ml_X6_56 yv_X6_turn (by omega) rfl rfl (by simp [Value.category]) (sR_is rfl rfl) (c_X6_turn hd hV hsr hFH hP7 hVn hn (r_as fN fE F H Lc n Lc 0 σ) (hsr _ _ q1.1 hJ) (q1.2 hD)) ?_
    refine r_iinc (v := (nI i) + 1) (lo' := [(5, .int ((nI i) + 1)), (4, .int (nI Lc)), (0, .ref (ad 45)), (1, .ref (ad G)), (2, .int (nI sl)), (3, .int (nI ln))]) dX6_tally_51 0 rfl rfl (by decide) rfl ?_
    refine r_goto (t := 18) dX6_tally_54 (by decide) ?_
    have q2 := r_tu_ok (n := n) hFH (q1.2 hD)
    rw [r_ag] at K
    rw [nI_1]
    exact ab_E.lo [0, 1, 2, 3, 4, 5] rfl (ih (i + 1) H F _ hFH.sw (hsr _ _ (q1.1.tr q2.1) hJ) q2.2 (by omega) K)
theorem l_X6_wo {ad : Nat → Nat} {d' G Lc sl ln : Nat} {σ : sS} (hln : ln ≤ 1000) {Q : Option Value → sS → Prop} : ∀ (k i : Nat), i + k = ln → ab_E (sR ad) mX6_tally (d' + 6) 82 [(5, .int (nI (Lc ^ ln))), (4, .int (nI Lc)), (0, .ref (ad 45)), (1, .ref (ad G)), (2, .int (nI sl)), (3, .int (nI ln))] [] σ Q → ab_E (sR ad) mX6_tally (d' + 6) 63 [(6, .int (nI i)), (5, .int (nI (Lc ^ i))), (4, .int (nI Lc)), (0, .ref (ad 45)), (1, .ref (ad G)), (2, .int (nI sl)), (3, .int (nI ln))] [] σ Q := by
  intro k
  induction k with
  | zero =>
    intro i hi K
    have hi : i = ln := by omega
    subst hi
    have hc : nI i ≤ nI i := nI_le (Nat.le_refl _) (by omega)
    refine r_iload dX6_tally_63 0 rfl ?_
    refine r_iload_n dX6_tally_65 6 rfl ?_
    refine r_icmp_ge (t := 82) dX6_tally_66 (by decide) (fun _ => ?_) (fun hh => absurd hc hh)
    exact ab_E.lo [1, 2, 3, 4, 5, 6] rfl K
  | succ k ih =>
    intro i hi K
    have hc : ¬ nI ln ≤ nI i := nI_ge (by omega) (by omega)
    refine r_iload dX6_tally_63 0 rfl ?_
    refine r_iload_n dX6_tally_65 6 rfl ?_
    refine r_icmp_ge (t := 82) dX6_tally_66 (by decide) (fun hh => absurd hh hc) (fun _ => ?_)
    refine r_iload dX6_tally_69 1 rfl ?_
    refine r_iload dX6_tally_71 2 rfl ?_
    refine r_imul dX6_tally_73 ?_
    refine r_istore (lo' := [(5, .int ((nI (Lc ^ i)) * (nI Lc))), (6, .int (nI i)), (4, .int (nI Lc)), (0, .ref (ad 45)), (1, .ref (ad G)), (2, .int (nI sl)), (3, .int (nI ln))]) dX6_tally_74 (by decide) rfl ?_
    refine r_iinc (v := (nI i) + 1) (lo' := [(6, .int ((nI i) + 1)), (5, .int ((nI (Lc ^ i)) * (nI Lc))), (4, .int (nI Lc)), (0, .ref (ad 45)), (1, .ref (ad G)), (2, .int (nI sl)), (3, .int (nI ln))]) dX6_tally_76 1 rfl rfl (by decide) rfl ?_
    refine r_goto (t := 63) dX6_tally_79 (by decide) ?_
    rw [nI_1, pk_mul, ← Nat.pow_succ]
    exact ab_E.lo [0, 1, 2, 3, 4, 5, 6] rfl (ih (i + 1) (by omega) K)
def r_wd (fN fE : sS → List Int32 → Int32) (F Lc ln n N : Nat) : Nat → Nat → Int32 → sS → Int32 × sS
  | 0, _, a, σ => (a, σ)
  | k + 1, w, a, σ => r_wd fN fE F Lc ln n N k (w + 1) (a + bc (r_tk F (l_run (r_F F) (r_N fN 49) (r_E fE 49) r_M 1 N (r_spl Lc ln (nI w) σ)) n 0 0)) (l_run (r_F F) (r_N fN 49) (r_E fE 49) r_M 1 N (r_spl Lc ln (nI w) σ))
/-- what holds from word to word (told by the pure part) -/
def r_wi (J TI : sS → Prop) (fN fE : sS → List Int32 → Int32) (F H G Lc ln W N : Nat) : Prop := ∀ τ w, TI τ → w < W → J τ ∧ r_d F H G 49 τ ∧ uok (rz τ 49 10) 49 ∧ r_V 49 (r_spl Lc ln (nI w) τ) [] = nI N ∧ ∃ RI : sS → Prop, l_ok (fun σ => J σ ∧ r_d F H G 49 σ) RI (r_F F) (r_N fN 49) (r_E fE 49) r_M 1 N ∧ RI (l_ini (r_spl Lc ln (nI w) τ) N) ∧ TI (l_run (r_F F) (r_N fN 49) (r_E fE 49) r_M 1 N (r_spl Lc ln (nI w) τ))
theorem l_X6_wd {ad : Nat → Nat} {d' G : Nat} {J : sS → Prop} {fV fF fL fN fE fM : sS → List Int32 → Int32} (hd : 3 ≤ d') (hV : gr_m ad G J ⟨"OddRanks$Graph", "vertices", "()I"⟩ 0 d' fV) (hF : gr_m ad G J ⟨"OddRanks$Graph", "isFirst", "(I)Z"⟩ 1 d' fF) (hL : gr_m ad G J ⟨"OddRanks$Graph", "letterCount", "()I"⟩ 0 d' fL) (hN : gr_m ad G J ⟨"OddRanks$Graph", "fan", "(II)I"⟩ 2 d' fN) (hE : gr_m ad G J ⟨"OddRanks$Graph", "goal", "(III)I"⟩ 3 d' fE) (hM : gr_m ad G J ⟨"OddRanks$Graph", "isMarked", "(I)Z"⟩ 1 d' fM) (hsr : ∀ σ τ, rrel σ τ → J σ → J τ) (hsl : ∀ σ τ, lrel σ τ → J σ → J τ) {n : Nat} (hVn : ∀ σ, J σ → fV σ [] = nI n) (hn : n ≤ 100000) {Lc : Nat} (hLc : ∀ σ, J σ → fL σ [] = nI Lc) (hL3 : Lc ≤ 3) (hL1 : 1 ≤ Lc) {F H : Nat} (hFH : fh F H) {sl ln W N : Nat} (hln : ln ≤ 1000) (hW : W ≤ 100000) (hN0 : N ≤ 100000) {TI : sS → Prop} (hT : r_wi J TI fN fE F H G Lc ln W N) : ∀ (k w : Nat) (a : Int32) (σ : sS), TI σ → w + k = W → ab_E (sR ad) mX6_tally (d' + 6) 88 [(7, .int (nI w)), (6, .int a), (5, .int (nI W)), (4, .int (nI Lc)), (0, .ref (ad 45)), (1, .ref (ad G)), (2, .int (nI sl)), (3, .int (nI ln))] [] σ (fun r9 σ' => r9 = some (.int (r_wd fN fE F Lc ln n N k w a σ).1) ∧ σ' = (r_wd fN fE F Lc ln n N k w a σ).2) := by
  intro k
  induction k with
  | zero =>
    intro w a σ hTI hw
    have hc : nI W ≤ nI w := nI_le (by omega) (by omega)
    refine r_iload dX6_tally_88 0 rfl ?_
    refine r_iload dX6_tally_90 2 rfl ?_
    refine r_icmp_ge (t := 130) dX6_tally_92 (by decide) (fun _ => ?_) (fun hh => absurd hc hh)
    refine r_iload dX6_tally_130 1 rfl ?_
    refine r_iret rfl dX6_tally_132 ?_
    exact ⟨rfl, rfl⟩
  | succ k ih =>
    intro w a σ hTI hw
    have hc : ¬ nI W ≤ nI w := nI_ge (by omega) (by omega)
    obtain ⟨hJ, hD, hu, hVN, RI, hR, hI, hT2⟩ := hT σ w hTI (by omega)
    refine r_iload dX6_tally_88 0 rfl ?_
    refine r_iload dX6_tally_90 2 rfl ?_
    refine r_icmp_ge (t := 130) dX6_tally_92 (by decide) (fun hh => absurd hh hc) (fun _ => ?_)
    refine r_aload_n dX6_tally_95 4 rfl ?_
    refine r_iload dX6_tally_96 0 rfl ?_
    refine r_iload_n dX6_tally_98 7 rfl ?_
    refine r_iload dX6_tally_99 3 rfl ?_
    refine x_callV0 (Y := mX6_spell) (d' := 4) dX6_tally_101 ml_X6_72 yv_X6_spell (by omega) rfl rfl (by simp [Value.category]) (sR_is rfl rfl) (c_X6_spell σ hL1 hL3 hln (nI w) hu) ?_
    refine r_aload_n dX6_tally_104 4 rfl ?_
    refine s_getR (b := 19) ok_X6 dX6_tally_105 (k := 0) (by decide) fl_X6_32 rfl rfl rfl ?_
    refine r_aload_n dX6_tally_108 4 rfl ?_
    refine x_callV0 (Y := mX3_run) (d' := d' + 5) dX6_tally_109 ml_X6_59 yv_X3_run (by omega) rfl rfl (by simp [Value.category]) (sR_is rfl rfl) (c_X3_run (J := (fun σ => J σ ∧ r_d F H G 49 σ)) (d' := d' + 1) (G := 45) (by omega) (g_X6_vertices (J := J) (d' := d') (G := G) (Nat.le_of_succ_le hd) hFH.f.1 hFH.h.1 rfl) (g_X6_isFirst (J := J) (d' := d') (G := G) (Nat.le_of_succ_le hd) hFH.f.1 hFH.h.1 rfl) (g_X6_letterCount (J := J) (d' := d') (G := G) (Nat.le_of_succ_le hd) hFH.f.1 hFH.h.1 rfl) (g_X6_fan (J := J) (d' := d') (G := G) (Nat.le_of_succ_le hd) hN hFH.f.1 hFH.h.1 rfl) (g_X6_goal (J := J) (d' := d') (G := G) (Nat.le_of_succ_le hd) hE hFH.f.1 hFH.h.1 rfl) (g_X6_isMarked (J := J) (d' := d') (G := G) (Nat.le_of_succ_le hd) hFH.f.1 hFH.h.1 rfl) (fun σ τ h q => ⟨hsl _ _ h q.1, q.2.of h.2.2⟩) (Lc := 1) (fun _ _ => (by decide : (1 : Int32) = nI 1)) (by decide) hR hN0 (r_spl Lc ln (nI w) σ) ⟨(hsr _ _ r_spl_ok.1 hJ), (hD.of r_spl_ok.2)⟩ hVN hI) ?_
    refine r_iload dX6_tally_112 1 rfl ?_
    refine r_aload_n dX6_tally_114 4 rfl ?_
    have hk := hR.1 _ (l_ro_RI hR N 0 _ (by omega) hI)
    refine x_callV (Y := mX6_stemsTaken) (d' := d' + 2) dX6_tally_115 ml_X6_65 yv_X6_stemsTaken (by omega) rfl rfl (by simp [Value.category]) (sR_is rfl rfl) (c_X6_stemsTaken hd hV hsr hFH (P := 49) rfl hVn hn (l_run (r_F F) (r_N fN 49) (r_E fE 49) r_M 1 N (r_spl Lc ln (nI w) σ)) hk.1 hk.2) ?_
    refine x_callS (Y := mJ6_bitCount_0f7a4) (d' := 1) dX6_tally_118 ml_X6_76 ys_J6_bitCount_0f7a4 (by omega) rfl rfl (by simp [Value.category]) (c_J6_bitCount_0f7a4 (l_run (r_F F) (r_N fN 49) (r_E fE 49) r_M 1 N (r_spl Lc ln (nI w) σ)) (r_tk F (l_run (r_F F) (r_N fN 49) (r_E fE 49) r_M 1 N (r_spl Lc ln (nI w) σ)) n 0 0)) ?_
    refine r_iadd dX6_tally_121 ?_
    refine r_istore (lo' := [(6, .int (a + (bc (r_tk F (l_run (r_F F) (r_N fN 49) (r_E fE 49) r_M 1 N (r_spl Lc ln (nI w) σ)) n 0 0)))), (7, .int (nI w)), (5, .int (nI W)), (4, .int (nI Lc)), (0, .ref (ad 45)), (1, .ref (ad G)), (2, .int (nI sl)), (3, .int (nI ln))]) dX6_tally_122 (by decide) rfl ?_
    refine r_iinc (v := (nI w) + 1) (lo' := [(7, .int ((nI w) + 1)), (6, .int (a + (bc (r_tk F (l_run (r_F F) (r_N fN 49) (r_E fE 49) r_M 1 N (r_spl Lc ln (nI w) σ)) n 0 0)))), (5, .int (nI W)), (4, .int (nI Lc)), (0, .ref (ad 45)), (1, .ref (ad G)), (2, .int (nI sl)), (3, .int (nI ln))]) dX6_tally_124 1 rfl rfl (by decide) rfl ?_
    refine r_goto (t := 88) dX6_tally_127 (by decide) ?_
    rw [nI_1, r_wd]
    exact ab_E.lo [0, 1, 2, 3, 4, 5, 6, 7] rfl (ih (w + 1) _ _ hT2 (by omega))
theorem c_X6_tally {ad : Nat → Nat} {d' G : Nat} {J : sS → Prop} {fV fF fL fN fE fM : sS → List Int32 → Int32} (hd : 3 ≤ d') (hV : gr_m ad G J ⟨"OddRanks$Graph", "vertices", "()I"⟩ 0 d' fV) (hF : gr_m ad G J ⟨"OddRanks$Graph", "isFirst", "(I)Z"⟩ 1 d' fF) (hL : gr_m ad G J ⟨"OddRanks$Graph", "letterCount", "()I"⟩ 0 d' fL) (hN : gr_m ad G J ⟨"OddRanks$Graph", "fan", "(II)I"⟩ 2 d' fN) (hE : gr_m ad G J ⟨"OddRanks$Graph", "goal", "(III)I"⟩ 3 d' fE) (hM : gr_m ad G J ⟨"OddRanks$Graph", "isMarked", "(I)Z"⟩ 1 d' fM) (hsr : ∀ σ τ, rrel σ τ → J σ → J τ) (hsl : ∀ σ τ, lrel σ τ → J σ → J τ) {n : Nat} (hVn : ∀ σ, J σ → fV σ [] = nI n) (hn : n ≤ 100000) {Lc : Nat} (hLc : ∀ σ, J σ → fL σ [] = nI Lc) (hL3 : Lc ≤ 3) (hL1 : 1 ≤ Lc) {F H : Nat} (hFH : fh F H) {sl ln N : Nat} (hsl2 : sl ≤ 1000) (hln : ln ≤ 1000) (hW : Lc ^ ln ≤ 100000) (hN0 : N ≤ 100000) {TI : sS → Prop} (hT : r_wi J TI fN fE (r_ff sl F H).1 (r_ff sl F H).2 G Lc ln (Lc ^ ln) N) (σ : sS) (hJ : J σ) (hf1 : vR σ 45 1 = some F) (hf2 : vR σ 45 2 = some H) (hTI : TI (r_ag fN fE Lc n sl F H (r_set fF fM F H G 49 n σ))) : ab_X (sR ad) (d' + 6) mX6_tally [.ref (ad 45), .ref (ad G), .int (nI sl), .int (nI ln)] σ (some (.int (r_wd fN fE (r_ff sl F H).1 Lc ln n N (Lc ^ ln) 0 0 (r_ag fN fE Lc n sl F H (r_set fF fM F H G 49 n σ))).1)) (r_wd fN fE (r_ff sl F H).1 Lc ln n N (Lc ^ ln) 0 0 (r_ag fN fE Lc n sl F H (r_set fF fM F H G 49 n σ))).2 := by
  refine ab_X.of (by decide) (Nat.le_of_ble_eq_true rfl) ?_
  refine r_aload_n dX6_tally_0 0 rfl ?_
  refine r_aload_n dX6_tally_1 1 rfl ?_
  refine r_aload_n dX6_tally_2 0 rfl ?_
  refine s_getR (b := 49) ok_X6 dX6_tally_3 (k := 4) (by decide) fl_X6_26 rfl rfl rfl ?_
  refine x_callV0 (Y := mX6_setOut) (d' := d' + 2) dX6_tally_6 ml_X6_40 yv_X6_setOut (by omega) rfl rfl (by simp [Value.category]) (sR_is rfl rfl) (c_X6_setOut hd hV hF hM hsr hFH (P := 49) rfl hVn hn σ hJ hf1 hf2) ?_
  have k1 := r_set_ok (fF := fF) (fM := fM) (G := G) (P := 49) (n := n) hFH hf1 hf2
  have k2 := r_ag_ok (fN := fN) (fE := fE) (Lc := Lc) (n := n) sl F H _ hFH k1.2
  refine r_aload_n dX6_tally_9 1 rfl ?_
  refine x_callG [] hL dX6_tally_10 ml_X6_69 (by omega) (hsr _ _ k1.1 hJ) rfl rfl (by simp [Value.category]) ?_
  rw [hLc _ (hsr _ _ k1.1 hJ)]
  refine r_istore (lo' := [(4, .int (nI Lc)), (0, .ref (ad 45)), (1, .ref (ad G)), (2, .int (nI sl)), (3, .int (nI ln))]) dX6_tally_13 (by decide) rfl ?_
  refine r_iconst (v := 0) dX6_tally_15 (by decide) ?_
  refine r_istore (lo' := [(5, .int 0), (4, .int (nI Lc)), (0, .ref (ad 45)), (1, .ref (ad G)), (2, .int (nI sl)), (3, .int (nI ln))]) dX6_tally_16 (by decide) rfl ?_
  refine ab_E.lo [0, 1, 2, 3, 4, 5] (lo' := [(5, .int (nI 0)), (4, .int (nI Lc)), (0, .ref (ad 45)), (1, .ref (ad G)), (2, .int (nI sl)), (3, .int (nI ln))]) rfl (l_X6_ag hd hV hF hL hN hE hM hsr hsl (P := 49) rfl hVn hn hLc hL3 hsl2 sl 0 F H _ hFH (hsr _ _ k1.1 hJ) k1.2 (by omega) ?_)
  refine r_iconst (v := 1) dX6_tally_57 (by decide) ?_
  refine r_istore (lo' := [(5, .int 1), (4, .int (nI Lc)), (0, .ref (ad 45)), (1, .ref (ad G)), (2, .int (nI sl)), (3, .int (nI ln))]) dX6_tally_58 (by decide) rfl ?_
  refine r_iconst (v := 0) dX6_tally_60 (by decide) ?_
  refine r_istore (lo' := [(6, .int 0), (5, .int 1), (4, .int (nI Lc)), (0, .ref (ad 45)), (1, .ref (ad G)), (2, .int (nI sl)), (3, .int (nI ln))]) dX6_tally_61 (by decide) rfl ?_
  refine ab_E.lo [0, 1, 2, 3, 4, 5, 6] (lo' := [(6, .int (nI 0)), (5, .int (nI (Lc ^ 0))), (4, .int (nI Lc)), (0, .ref (ad 45)), (1, .ref (ad G)), (2, .int (nI sl)), (3, .int (nI ln))]) rfl (l_X6_wo hln ln 0 (by omega) ?_)
  refine r_iconst (v := 0) dX6_tally_82 (by decide) ?_
  refine r_istore (lo' := [(6, .int 0), (5, .int (nI (Lc ^ ln))), (4, .int (nI Lc)), (0, .ref (ad 45)), (1, .ref (ad G)), (2, .int (nI sl)), (3, .int (nI ln))]) dX6_tally_83 (by decide) rfl ?_
  refine r_iconst (v := 0) dX6_tally_85 (by decide) ?_
  refine r_istore (lo' := [(7, .int 0), (6, .int 0), (5, .int (nI (Lc ^ ln))), (4, .int (nI Lc)), (0, .ref (ad 45)), (1, .ref (ad G)), (2, .int (nI sl)), (3, .int (nI ln))]) dX6_tally_86 (by decide) rfl ?_
  exact ab_E.lo [0, 1, 2, 3, 4, 5, 6, 7] rfl (l_X6_wd hd hV hF hL hN hE hM hsr hsl hVn hn hLc hL3 hL1 k2.1 hln hW hN0 hT (Lc ^ ln) 0 0 _ hTI (by omega))
