/-! wrappers: contracts with hypotheses, as functions that may fail -/
theorem r_topr {S : Type} {Rp : S → ab_S → Prop} {X : ab_M} {ad : Nat → Nat} {d pc : Nat} {lo : List (Nat × Value)} {st : List Value} {σ : S} {Q : Option Value → S → Prop} {e : Nat} (K : ∀ x, x = e → ab_E Rp X d pc lo (.ref (ad x) :: st) σ Q) : ab_E Rp X d pc lo (.ref (ad e) :: st) σ Q := K e rfl
theorem s_acmp_eq {ad : Nat → Nat} {X : ab_M} {d pc a b : Nat} {lo : List (Nat × Value)} {st : List Value} {σ : sS} {Q : Option Value → sS → Prop} {off : Int} {t : Nat} (hd : decode X.2.1 pc = .ok (.if_acmp .eq off, 3)) (ht : (pc : Int) + off = (t : Int)) (ha : (la a).1 ≠ 0) (hb : (la b).1 ≠ 0) (K1 : a = b → ab_E (sR ad) X d t lo st σ Q) (K2 : ¬ (a = b) → ab_E (sR ad) X d (pc + 3) lo st σ Q) : ab_E (sR ad) X d pc lo (.ref (ad b) :: .ref (ad a) :: st) σ Q := by
  by_cases h : a = b
  · exact r_acmp_eq (rx := some (ad a)) (ry := some (ad b)) hd ht (fun _ => K1 h) (fun q => absurd (by rw [h]) q)
  · intro g hg
    have hne : ¬ ad a = ad b := by
      obtain ⟨ar, hg⟩ := hg
      exact fun q => h (hg.2.2.2.2.1 a b ha hb q)
    exact r_acmp_eq (rx := some (ad a)) (ry := some (ad b)) hd ht (fun q => absurd (Option.some.inj q) hne) (fun _ => K2 h) g hg
def isAu (a : Nat) : Bool := decide (la a = (1, 0))
def isCo (a : Nat) : Bool := decide (la a = (1, 1))
theorem isAu_of {a : Nat} (h : isAu a = true) : la a = (1, 0) := of_decide_eq_true h
theorem isCo_of {a : Nat} (h : isCo a = true) : la a = (1, 1) := of_decide_eq_true h
theorem co_is {a : Nat} (h : la a = (1, 1)) : a = 33 ∨ a = 34 ∨ a = 35 := by
  have h1 : ∀ a, a < 200 → la a = (1, 1) → (a = 33 ∨ a = 34 ∨ a = 35) := by decide +kernel
  exact la_of (P := fun a q => q = (1, 1) → (a = 33 ∨ a = 34 ∨ a = 35)) (fun _ q => by cases q) h1 a h
theorem co_sr {a : Nat} (h : la a = (1, 1)) : sr a 0 = some (a - 6) := by rcases co_is h with rfl | rfl | rfl <;> rfl
theorem co_au {a : Nat} (h : la a = (1, 1)) : la (a - 6) = (1, 0) := by rcases co_is h with rfl | rfl | rfl <;> rfl
theorem sr_17 {i : Nat} (h : i < 3) : sr 17 i = some (27 + i) := (by decide +kernel : ∀ i, i < 3 → sr 17 i = some (27 + i)) i h
theorem sr_18 {i : Nat} (h : i < 3) : sr 18 i = some (33 + i) := (by decide +kernel : ∀ i, i < 3 → sr 18 i = some (33 + i)) i h
theorem sr_8 {i : Nat} (h : i < 3) : sr 8 i = some (9 + i) := (by decide +kernel : ∀ i, i < 3 → sr 8 i = some (9 + i)) i h
def clm (x : Int32) (n : Nat) : Bool := decide (0 ≤ x) && decide (x.toNatClampNeg ≤ n)
theorem clm_of {x : Int32} {n : Nat} (h : clm x n = true) : x = nI x.toNatClampNeg ∧ x.toNatClampNeg ≤ n := by
  obtain ⟨h1, h2⟩ := Bool.and_eq_true_iff.mp h
  exact ⟨(nI_cl (Int32.not_lt.mpr (of_decide_eq_true h1))).symm, of_decide_eq_true h2⟩
/-! Tape -/
def t_en (σ : sS) : Nat := (vI σ 1 1).toNatClampNeg
def tkb (σ : sS) : Bool := clm (vI σ 1 1) 400 && clm (vI σ 1 2) (t_en σ)
theorem tkb_of {σ : sS} (h : tkb σ = true) : tok (t_en σ) σ ∧ t_en σ ≤ 400 := by
  obtain ⟨h1, h2⟩ := Bool.and_eq_true_iff.mp h
  obtain ⟨h3, h4⟩ := clm_of h1
  obtain ⟨h5, h6⟩ := clm_of h2
  exact ⟨⟨h3, _, h6, h5⟩, h4⟩
def L_X9_step (σ : sS) : Option sS := grd (tkb σ) (some (t_st (t_en σ) σ))
theorem lc_X9_step {ad : Nat → Nat} {σ τ : sS} (h : L_X9_step σ = some τ) : ab_X (sR ad) 3 mX9_step [.ref (ad 1)] σ none τ := by
  obtain ⟨h1, h2⟩ := grd_at h
  cases h2
  exact c_st (tkb_of h1).2 σ (tkb_of h1).1
def L_X9_whole (l m : Int32) (σ : sS) : Option (Int32 × sS) := grd (tkb σ) (some (t_wa (t_st (t_en σ) σ) l m, t_wz (t_st (t_en σ) σ) l m))
theorem lc_X9_whole {ad : Nat → Nat} {l m r : Int32} {σ τ : sS} (h : L_X9_whole l m σ = some (r, τ)) : ab_X (sR ad) 4 mX9_whole [.ref (ad 1), .int l, .int m] σ (some (.int r)) τ := by
  obtain ⟨h1, h2⟩ := grd_at h
  cases h2
  exact c_wh (tkb_of h1).2 σ (tkb_of h1).1 l m
/-! Row -/
def uokb (σ : sS) (r : Nat) : Bool := decide (vC σ r ≤ 270000) && clm (vU σ r) 270000
theorem uokb_of {σ : sS} {r : Nat} (h : uokb σ r = true) : uok σ r := by
  obtain ⟨h1, h2⟩ := Bool.and_eq_true_iff.mp h
  obtain ⟨h3, h4⟩ := clm_of h2
  exact ⟨of_decide_eq_true h1, _, h4, h3⟩
def L_X7_push (r : Nat) (x : Int32) (σ : sS) : Option sS := grd (uokb σ r) (some (rqu σ r x))
theorem lc_X7_push {ad : Nat → Nat} {r : Nat} {x : Int32} {σ τ : sS} (hr : la r = (7, 0)) (h : L_X7_push r x σ = some τ) : ab_X (sR ad) 3 mX7_push [.ref (ad r), .int x] σ none τ := by
  obtain ⟨h1, h2⟩ := grd_at h
  cases h2
  exact c_pushU hr (uokb_of h1) x
/-! Automaton, Complement, Threes -/
def L_X0_reach (a : Nat) (t s : Int32) (σ : sS) : Option Int32 := grd (clm (vI σ a 1) 4) (some (a_rc σ a t s (vI σ a 1).toNatClampNeg))
theorem lc_X0_reach {ad : Nat → Nat} {a : Nat} {t s r : Int32} {σ : sS} (ha : la a = (1, 0)) (h : L_X0_reach a t s σ = some r) : ab_X (sR ad) 3 mX0_reach [.ref (ad a), .int t, .int s] σ (some (.int r)) σ := by
  obtain ⟨h1, h2⟩ := grd_at h
  cases h2
  exact c_X0_reach σ ha (clm_of h1).1 (clm_of h1).2 t s
def L_X0_reachAlong (a : Nat) (t : Int32) (S : Nat) (σ : sS) : Option Int32 := grd (clm (vI σ a 1) 4 && clm (vU σ S) 100000) (some (a_al σ a S (vI σ a 1).toNatClampNeg (vU σ S).toNatClampNeg 0 t))
theorem lc_X0_reachAlong {ad : Nat → Nat} {a S : Nat} {t r : Int32} {σ : sS} (ha : la a = (1, 0)) (hS : la S = (7, 0)) (h : L_X0_reachAlong a t S σ = some r) : ab_X (sR ad) 4 mX0_reachAlong [.ref (ad a), .int t, .ref (ad S)] σ (some (.int r)) σ := by
  obtain ⟨h1, h2⟩ := grd_at h
  obtain ⟨h3, h4⟩ := Bool.and_eq_true_iff.mp h1
  cases h2
  exact c_X0_reachAlong σ ha hS (clm_of h3).1 (clm_of h3).2 (clm_of h4).1 (clm_of h4).2 t
def L_X1_stands (c : Nat) (σ : sS) : Option (Int32 × sS) := grd (clm (vI σ (c - 6) 1) 4 && clm (vI σ (c - 6) 2) 3) (some (p_sd σ c (vI σ (c - 6) 1).toNatClampNeg (vI σ (c - 6) 2).toNatClampNeg, p_st σ c (vI σ (c - 6) 1).toNatClampNeg (vI σ (c - 6) 2).toNatClampNeg))
theorem lc_X1_stands {ad : Nat → Nat} {c : Nat} {r : Int32} {σ τ : sS} (hc0 : la c = (1, 1)) (h : L_X1_stands c σ = some (r, τ)) : ab_X (sR ad) 10 mX1_stands [.ref (ad c)] σ (some (.int r)) τ := by
  obtain ⟨h1, h2⟩ := grd_at h
  obtain ⟨h3, h4⟩ := Bool.and_eq_true_iff.mp h1
  cases h2
  exact c_X1_stands σ hc0 (clm_of h3).2 (clm_of h4).2 (clm_of h3).1 (clm_of h4).1
def L_X1_told (c : Nat) (v w : Int32) (σ : sS) : Option Int32 := grd (clm (vI σ c 7) 300) (some (p_td σ c v w (vI σ c 7).toNatClampNeg))
theorem lc_X1_told {ad : Nat → Nat} {c : Nat} {v w r : Int32} {σ : sS} (hc0 : la c = (1, 1)) (h : L_X1_told c v w σ = some r) : ab_X (sR ad) 5 mX1_told [.ref (ad c), .int v, .int w] σ (some (.int r)) σ := by
  obtain ⟨h1, h2⟩ := grd_at h
  cases h2
  exact c_X1_told σ hc0 (clm_of h1).1 (clm_of h1).2 v w
def L_X1_howMany (c : Nat) (w : Int32) (σ : sS) : Option Int32 := grd (clm (vI σ c 7) 300) (some (p_hm σ c (vI σ c 7).toNatClampNeg w (vI σ c 7).toNatClampNeg))
theorem lc_X1_howMany {ad : Nat → Nat} {c : Nat} {w r : Int32} {σ : sS} (hc0 : la c = (1, 1)) (h : L_X1_howMany c w σ = some r) : ab_X (sR ad) 5 mX1_howMany [.ref (ad c), .int w] σ (some (.int r)) σ := by
  obtain ⟨h1, h2⟩ := grd_at h
  cases h2
  exact c_X1_howMany σ hc0 (clm_of h1).1 (clm_of h1).2 w
def h_cb (σ : sS) : Bool := decide (vC σ 52 ≤ 270000) && (decide (vC σ 53 ≤ 270000) && (decide (vC σ 54 ≤ 270000) && decide (vC σ 55 ≤ 270000)))
def L_X10_meetAll (a c : Nat) (σ : sS) : Option (Int32 × sS) := grd (clm (vI σ a 1) 4 && (clm (vI σ a 2) 3 && h_cb σ)) (some (h_ans (h_all a c (vI σ a 1).toNatClampNeg (vI σ a 2).toNatClampNeg σ), (h_all a c (vI σ a 1).toNatClampNeg (vI σ a 2).toNatClampNeg σ).2))
theorem lc_X10_meetAll {ad : Nat → Nat} {a c : Nat} {r : Int32} {σ τ : sS} (ha : la a = (1, 0)) (hc0 : la c = (1, 1)) (h : L_X10_meetAll a c σ = some (r, τ)) : ab_X (sR ad) 6 mX10_meetAll [.ref (ad 50), .ref (ad a), .ref (ad c)] σ (some (.int r)) τ := by
  obtain ⟨h1, h2⟩ := grd_at h
  obtain ⟨h3, h4⟩ := Bool.and_eq_true_iff.mp h1
  obtain ⟨h5, h6⟩ := Bool.and_eq_true_iff.mp h4
  obtain ⟨h7, h8⟩ := Bool.and_eq_true_iff.mp h6
  obtain ⟨h9, h10⟩ := Bool.and_eq_true_iff.mp h8
  obtain ⟨h11, h12⟩ := Bool.and_eq_true_iff.mp h10
  cases h2
  exact c_X10_meetAll ha hc0 (clm_of h3).2 (clm_of h5).2 σ (clm_of h3).1 (clm_of h5).1 ⟨of_decide_eq_true h7, of_decide_eq_true h9, of_decide_eq_true h11, of_decide_eq_true h12⟩
/-! Rounds, Shower: what is owed is a guard too -/
noncomputable def grP {β : Type} (P : Prop) (a : Option β) : Option β := @ite _ P (Classical.propDecidable P) a none
theorem grP_at {β : Type} {P : Prop} {a : Option β} {z : β} (h : grP P a = some z) : P ∧ a = some z := by
  unfold grP at h
  by_cases hp : P
  · rw [if_pos hp] at h; exact ⟨hp, h⟩
  · rw [if_neg hp] at h; cases h
theorem grP_t {β : Type} {P : Prop} {a : Option β} (h : P) : grP P a = a := by unfold grP; exact if_pos h
abbrev fG : Type := sS → List Int32 → Int32
def nV (f : fG) (σ : sS) : Nat := (f σ []).toNatClampNeg
def oF (σ : sS) : Nat := (vR σ 45 1).getD 0
def oH (σ : sS) : Nat := (vR σ 45 2).getD 0
def oM (σ : sS) : Nat := (vU σ 6).toNatClampNeg
/-- the state in which isTaken's loops begin -/
def Tk_s (G : Nat) (fV fF fL fN fE fM : fG) (σ : sS) : sS := r_go fN fE (nV fL σ) (nV fV σ) (oM σ) 0 (oF σ) (oH σ) (r_set fF fM (oF σ) (oH σ) G 7 (nV fV σ) σ)
def Tk_N (G : Nat) (fV fF fL fN fE fM : fG) (σ : sS) : Nat := (r_V 7 (Tk_s G fV fF fL fN fE fM σ) []).toNatClampNeg
def Tk_F (σ : sS) : Nat × Nat := r_ff (oM σ) (oF σ) (oH σ)
def Tk_ok (G : Nat) (fV fF fL fN fE fM : fG) (σ : sS) : Prop := ∃ J RI : sS → Prop, (∀ σ τ, rrel σ τ → J σ → J τ) ∧ (∀ σ τ, lrel σ τ → J σ → J τ) ∧ (∀ τ, J τ → fV τ [] = nI (nV fV σ)) ∧ nV fV σ ≤ 100000 ∧ (∀ τ, J τ → fL τ [] = nI (nV fL σ)) ∧ nV fL σ ≤ 3 ∧ fh (oF σ) (oH σ) ∧ oM σ ≤ 100000 ∧ Tk_N G fV fF fL fN fE fM σ ≤ 100000 ∧ l_ok (fun τ => J τ ∧ r_d (Tk_F σ).1 (Tk_F σ).2 G 7 τ) RI (r_F (Tk_F σ).1) (r_N fN 7) (r_E fE 7) r_M 1 (Tk_N G fV fF fL fN fE fM σ) ∧ J σ ∧ vR σ 45 1 = some (oF σ) ∧ vR σ 45 2 = some (oH σ) ∧ vU σ 6 = nI (oM σ) ∧ r_V 7 (Tk_s G fV fF fL fN fE fM σ) [] = nI (Tk_N G fV fF fL fN fE fM σ) ∧ RI (l_ini (Tk_s G fV fF fL fN fE fM σ) (Tk_N G fV fF fL fN fE fM σ))
def Tk_e (G : Nat) (fV fF fL fN fE fM : fG) (σ : sS) : sS := l_run (r_F (Tk_F σ).1) (r_N fN 7) (r_E fE 7) r_M 1 (Tk_N G fV fF fL fN fE fM σ) (Tk_s G fV fF fL fN fE fM σ)
def Tk_a (G : Nat) (fV fF fL fN fE fM : fG) (σ : sS) : Int32 := if r_tk (Tk_F σ).1 (Tk_e G fV fF fL fN fE fM σ) (nV fV σ) 0 0 = 0 then 0 else 1
noncomputable def L_tk0 (a : Nat) (σ : sS) : Option (Int32 × sS) := grP (nV (m_V a) σ ≤ 4 ∧ Tk_ok a (m_V a) (m_F a) (h_L a) (m_N a) (m_E a (nV (m_V a) σ)) (m_M a) σ) (some (Tk_a a (m_V a) (m_F a) (h_L a) (m_N a) (m_E a (nV (m_V a) σ)) (m_M a) σ, Tk_e a (m_V a) (m_F a) (h_L a) (m_N a) (m_E a (nV (m_V a) σ)) (m_M a) σ))
theorem lc_tk0 {ad : Nat → Nat} {a : Nat} {r : Int32} {σ τ : sS} (ha : la a = (1, 0)) (h : L_tk0 a σ = some (r, τ)) : ab_X (sR ad) 12 mX6_isTaken [.ref (ad 45), .ref (ad a), .ref (ad 6), .ref (ad 7)] σ (some (.int r)) τ := by
  obtain ⟨⟨h4, J, RI, q1, q2, q3, q4, q5, q6, q7, q8, q9, q10, q11, q12, q13, q14, q15, q16⟩, h2⟩ := grP_at h
  cases h2
  exact c_X6_isTaken (d' := 6) (by decide) (g_X0_vertices ha) (g_X0_isFirst ha) (g_X0_letterCount ha) (g_X0_fan ha) (g_X0_goal ha h4 q3) (g_X0_isMarked ha) q1 q2 (P := 7) rfl q3 q4 q5 q6 q7 q8 q9 q10 σ q11 q12 q13 q14 q15 q16
noncomputable def L_tk1 (c : Nat) (σ : sS) : Option (Int32 × sS) := grP (Tk_ok c (n_V c) n_F (n_L c) (n_N c) (n_E c) (n_M c) σ) (some (Tk_a c (n_V c) n_F (n_L c) (n_N c) (n_E c) (n_M c) σ, Tk_e c (n_V c) n_F (n_L c) (n_N c) (n_E c) (n_M c) σ))
theorem lc_tk1 {ad : Nat → Nat} {c : Nat} {r : Int32} {σ τ : sS} (hc0 : la c = (1, 1)) (h : L_tk1 c σ = some (r, τ)) : ab_X (sR ad) 12 mX6_isTaken [.ref (ad 45), .ref (ad c), .ref (ad 6), .ref (ad 7)] σ (some (.int r)) τ := by
  obtain ⟨⟨J, RI, q1, q2, q3, q4, q5, q6, q7, q8, q9, q10, q11, q12, q13, q14, q15, q16⟩, h2⟩ := grP_at h
  cases h2
  exact c_X6_isTaken (d' := 6) (by decide) (g_X1_vertices hc0) (g_X1_isFirst hc0) (g_X1_letterCount hc0) (g_X1_fan hc0) (g_X1_goal hc0) (g_X1_isMarked hc0) q1 q2 (P := 7) rfl q3 q4 q5 q6 q7 q8 q9 q10 σ q11 q12 q13 q14 q15 q16
/-- the state in which tally's rounds begin -/
def Ta_s (G : Nat) (fV fF fL fN fE fM : fG) (sl : Nat) (σ : sS) : sS := r_ag fN fE (nV fL σ) (nV fV σ) sl (oF σ) (oH σ) (r_set fF fM (oF σ) (oH σ) G 49 (nV fV σ) σ)
def Ta_F (sl : Nat) (σ : sS) : Nat × Nat := r_ff sl (oF σ) (oH σ)
def Ta_N (fV : fG) (ln : Nat) (σ : sS) : Nat := nV fV σ * ln
def Ta_r (G : Nat) (fV fF fL fN fE fM : fG) (sl ln : Nat) (σ : sS) : Int32 × sS := r_wd fN fE (Ta_F sl σ).1 (nV fL σ) ln (nV fV σ) (Ta_N fV ln σ) (nV fL σ ^ ln) 0 0 (Ta_s G fV fF fL fN fE fM sl σ)
def Ta_ok (G : Nat) (fV fF fL fN fE fM : fG) (sl ln : Nat) (σ : sS) : Prop := ∃ J TI : sS → Prop, (∀ σ τ, rrel σ τ → J σ → J τ) ∧ (∀ σ τ, lrel σ τ → J σ → J τ) ∧ (∀ τ, J τ → fV τ [] = nI (nV fV σ)) ∧ nV fV σ ≤ 100000 ∧ (∀ τ, J τ → fL τ [] = nI (nV fL σ)) ∧ nV fL σ ≤ 3 ∧ 1 ≤ nV fL σ ∧ fh (oF σ) (oH σ) ∧ sl ≤ 1000 ∧ ln ≤ 1000 ∧ nV fL σ ^ ln ≤ 100000 ∧ Ta_N fV ln σ ≤ 100000 ∧ r_wi J TI fN fE (Ta_F sl σ).1 (Ta_F sl σ).2 G (nV fL σ) ln (nV fL σ ^ ln) (Ta_N fV ln σ) ∧ J σ ∧ vR σ 45 1 = some (oF σ) ∧ vR σ 45 2 = some (oH σ) ∧ TI (Ta_s G fV fF fL fN fE fM sl σ)
noncomputable def L_ta0 (a : Nat) (s l : Int32) (σ : sS) : Option (Int32 × sS) := grP ((0 ≤ s ∧ 0 ≤ l) ∧ nV (m_V a) σ ≤ 4 ∧ Ta_ok a (m_V a) (m_F a) (h_L a) (m_N a) (m_E a (nV (m_V a) σ)) (m_M a) s.toNatClampNeg l.toNatClampNeg σ) (some (Ta_r a (m_V a) (m_F a) (h_L a) (m_N a) (m_E a (nV (m_V a) σ)) (m_M a) s.toNatClampNeg l.toNatClampNeg σ))
theorem nI_up {x : Int32} (h : 0 ≤ x) : nI x.toNatClampNeg = x := nI_cl (Int32.not_lt.mpr h)
theorem lc_ta0 {ad : Nat → Nat} {a : Nat} {s l r : Int32} {σ τ : sS} (ha : la a = (1, 0)) (h : L_ta0 a s l σ = some (r, τ)) : ab_X (sR ad) 12 mX6_tally [.ref (ad 45), .ref (ad a), .int s, .int l] σ (some (.int r)) τ := by
  obtain ⟨⟨⟨hs, hl⟩, h4, J, TI, q1, q2, q3, q4, q5, q6, q7, q8, q9, q10, q11, q12, q13, q14, q15, q16, q17⟩, h2⟩ := grP_at h
  have h3 := c_X6_tally (ad := ad) (d' := 6) (by decide) (g_X0_vertices ha) (g_X0_isFirst ha) (g_X0_letterCount ha) (g_X0_fan ha) (g_X0_goal ha h4 q3) (g_X0_isMarked ha) q1 q2 q3 q4 q5 q6 q7 q8 q9 q10 q11 q12 q13 σ q14 q15 q16 q17
  rw [nI_up hs, nI_up hl] at h3
  have h5 := Option.some.inj h2
  unfold Ta_r Ta_s Ta_F at h5
  rw [h5] at h3
  exact h3
noncomputable def L_ta1 (c : Nat) (s l : Int32) (σ : sS) : Option (Int32 × sS) := grP ((0 ≤ s ∧ 0 ≤ l) ∧ Ta_ok c (n_V c) n_F (n_L c) (n_N c) (n_E c) (n_M c) s.toNatClampNeg l.toNatClampNeg σ) (some (Ta_r c (n_V c) n_F (n_L c) (n_N c) (n_E c) (n_M c) s.toNatClampNeg l.toNatClampNeg σ))
theorem lc_ta1 {ad : Nat → Nat} {c : Nat} {s l r : Int32} {σ τ : sS} (hc0 : la c = (1, 1)) (h : L_ta1 c s l σ = some (r, τ)) : ab_X (sR ad) 12 mX6_tally [.ref (ad 45), .ref (ad c), .int s, .int l] σ (some (.int r)) τ := by
  obtain ⟨⟨⟨hs, hl⟩, J, TI, q1, q2, q3, q4, q5, q6, q7, q8, q9, q10, q11, q12, q13, q14, q15, q16, q17⟩, h2⟩ := grP_at h
  have h3 := c_X6_tally (ad := ad) (d' := 6) (by decide) (g_X1_vertices hc0) (g_X1_isFirst hc0) (g_X1_letterCount hc0) (g_X1_fan hc0) (g_X1_goal hc0) (g_X1_isMarked hc0) q1 q2 q3 q4 q5 q6 q7 q8 q9 q10 q11 q12 q13 σ q14 q15 q16 q17
  rw [nI_up hs, nI_up hl] at h3
  have h5 := Option.some.inj h2
  unfold Ta_r Ta_s Ta_F at h5
  rw [h5] at h3
  exact h3
/-! Shower.show -/
def Sh_l (fF fN fE fM : fG) (Lc n : Nat) (σ : sS) : sS := l_run fF fN fE fM Lc n σ
def Sh_1 (fF fN fE fM : fG) (Lc n : Nat) (σ : sS) : Bool × Int32 × sS := w_se fF fN fE fM Lc n (l_run fF fN fE fM Lc n σ) (-1)
def Sh_ok (fV fF fL fN fE fM : fG) (J : sS → Prop) (σ : sS) : Prop := ∃ RI : sS → Prop, (∀ σ τ, srel σ τ → J σ → J τ) ∧ (∀ τ, J τ → fL τ [] = nI (nV fL σ)) ∧ nV fL σ ≤ 3 ∧ nV fV σ ≤ 100000 ∧ (∀ σ τ, lrel σ τ → J σ → J τ) ∧ l_ok J RI fF fN fE fM (nV fL σ) (nV fV σ) ∧ (∀ τ, J τ → fV τ [] = nI (nV fV σ)) ∧ J σ ∧ RI (l_ini σ (nV fV σ)) ∧ vC (l_run fF fN fE fM (nV fL σ) (nV fV σ) σ) 57 ≤ 270000 ∧ (¬ w_fa (Sh_1 fF fN fE fM (nV fL σ) (nV fV σ) σ) = -1 → w_lo (Sh_1 fF fN fE fM (nV fL σ) (nV fV σ) σ).2.2 (w_fa (Sh_1 fF fN fE fM (nV fL σ) (nV fV σ) σ))) ∧ (¬ w_fa (Sh_1 fF fN fE fM (nV fL σ) (nV fV σ) σ) = -1 → w_lo (w_se fF fN fE fM (nV fL σ) (nV fV σ) (w_2 (Sh_1 fF fN fE fM (nV fL σ) (nV fV σ) σ)) (w_fa (Sh_1 fF fN fE fM (nV fL σ) (nV fV σ) σ))).2.2 (w_fa (Sh_1 fF fN fE fM (nV fL σ) (nV fV σ) σ)))
def Sh_r (fV fF fL fN fE fM : fG) (σ : sS) : Int32 × sS := (if w_fa (Sh_1 fF fN fE fM (nV fL σ) (nV fV σ) σ) = -1 then 0 else 1, w_sh fF fN fE fM (nV fL σ) (nV fV σ) σ)
noncomputable def L_sh0 (a : Nat) (σ : sS) : Option (Int32 × sS) := grP (nV (m_V a) σ ≤ 4 ∧ ∃ J, Sh_ok (m_V a) (m_F a) (h_L a) (m_N a) (m_E a (nV (m_V a) σ)) (m_M a) J σ) (some (Sh_r (m_V a) (m_F a) (h_L a) (m_N a) (m_E a (nV (m_V a) σ)) (m_M a) σ))
theorem lc_sh0 {ad : Nat → Nat} {a : Nat} {r : Int32} {σ τ : sS} (ha : la a = (1, 0)) (h : L_sh0 a σ = some (r, τ)) : ab_X (sR ad) 11 mX8_show [.ref (ad 56), .ref (ad a)] σ (some (.int r)) τ := by
  obtain ⟨⟨h4, J, RI, q1, q2, q3, q4, q5, q6, q7, q8, q9, q10, q11, q12⟩, h2⟩ := grP_at h
  cases h2
  exact c_X8_show (d' := 6) (by decide) (g_X0_vertices ha) (g_X0_isFirst ha) (g_X0_letterCount ha) (g_X0_fan ha) (g_X0_goal ha h4 q7) (g_X0_isMarked ha) q1 q2 q3 q4 q5 q6 q7 σ q8 q9 q10 q11 q12
noncomputable def L_sh1 (c : Nat) (σ : sS) : Option (Int32 × sS) := grP (∃ J, Sh_ok (n_V c) n_F (n_L c) (n_N c) (n_E c) (n_M c) J σ) (some (Sh_r (n_V c) n_F (n_L c) (n_N c) (n_E c) (n_M c) σ))
theorem lc_sh1 {ad : Nat → Nat} {c : Nat} {r : Int32} {σ τ : sS} (hc0 : la c = (1, 1)) (h : L_sh1 c σ = some (r, τ)) : ab_X (sR ad) 11 mX8_show [.ref (ad 56), .ref (ad c)] σ (some (.int r)) τ := by
  obtain ⟨⟨J, RI, q1, q2, q3, q4, q5, q6, q7, q8, q9, q10, q11, q12⟩, h2⟩ := grP_at h
  cases h2
  exact c_X8_show (d' := 6) (by decide) (g_X1_vertices hc0) (g_X1_isFirst hc0) (g_X1_letterCount hc0) (g_X1_fan hc0) (g_X1_goal hc0) (g_X1_isMarked hc0) q1 q2 q3 q4 q5 q6 q7 σ q8 q9 q10 q11 q12
def oA (σ : sS) : Nat := (vR σ 50 5).getD 0
def oC (σ : sS) : Nat := (vR σ 50 6).getD 0
noncomputable def L_sh2 (σ : sS) : Option (Int32 × sS) := grP ((la (oA σ) = (1, 0) ∧ la (oC σ) = (1, 1)) ∧ nV (m_V (oA σ)) σ ≤ 4 ∧ ∃ J, (∀ τ, J τ → vI τ (oA σ) 1 = nI (nV (m_V (oA σ)) σ) ∧ h_d (oA σ) (oC σ) τ) ∧ Sh_ok h_V h_F (h_L (oA σ)) (h_N (oA σ) (oC σ)) (h_E (oA σ) (oC σ) (nV (m_V (oA σ)) σ)) h_M J σ) (some (Sh_r h_V h_F (h_L (oA σ)) (h_N (oA σ) (oC σ)) (h_E (oA σ) (oC σ) (nV (m_V (oA σ)) σ)) h_M σ))
theorem lc_sh2 {ad : Nat → Nat} {r : Int32} {σ τ : sS} (h : L_sh2 σ = some (r, τ)) : ab_X (sR ad) 11 mX8_show [.ref (ad 56), .ref (ad 50)] σ (some (.int r)) τ := by
  obtain ⟨⟨⟨ha, hc0⟩, h4, J, hj, RI, q1, q2, q3, q4, q5, q6, q7, q8, q9, q10, q11, q12⟩, h2⟩ := grP_at h
  cases h2
  exact c_X8_show (d' := 6) (by decide) (g_X10_vertices ha hc0 h4 hj) (g_X10_isFirst ha hc0 h4 hj) (g_X10_letterCount ha hc0 h4 hj) (g_X10_fan ha hc0 h4 hj) (g_X10_goal ha hc0 h4 hj) (g_X10_isMarked ha hc0 h4 hj) q1 q2 q3 q4 q5 q6 q7 σ q8 q9 q10 q11 q12
