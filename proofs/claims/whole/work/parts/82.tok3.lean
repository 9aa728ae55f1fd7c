/-! tokens: the component's step -/
theorem scn_cong {P Q : Nat → Bool} {e : Nat} (h : ∀ j, j < e → P j = Q j) : ∀ (n p : Nat), p + n = e → scn P e p = scn Q e p := by
  intro n
  induction n with
  | zero => intro p hp; rw [scn_stop (by omega), scn_stop (by omega)]
  | succ n ih =>
    intro p hp
    have hj := h p (by omega)
    by_cases hP : P p = true
    · have hQ : Q p = true := by rw [← hj]; exact hP
      rw [scn_go (P := P) (by omega) hP, scn_go (P := Q) (by omega) hQ]
      exact ih (p + 1) (by omega)
    · have hQ : ¬ Q p = true := by rw [← hj]; exact hP
      rw [scn_stop (P := P) (fun q => hP q.2), scn_stop (P := Q) (fun q => hQ q.2)]
def ckk (b : Nat → Int32) (e q : Nat) : Int32 := if q = e then 0 else if kSm b q = true then (if scn (kSm b) e q - q ≤ 7 then 2 else 1) else if kDg b q = true then (if scn (kDg b) e q - q ≤ 1 then 3 else 1) else if b q = 59 then 59 else if b q = 40 then 40 else if b q = 41 then 41 else 1
def tkC (b : Nat → Int32) (e p : Nat) (σ : sS) : Prop := (∀ j, j < 400 → vI σ 2 j = b j) ∧ vI σ 1 1 = nI e ∧ vI σ 1 2 = nI p ∧ p ≤ e ∧ e ≤ 400
/-- the component's token in hand begins at q -/
def tkD (b : Nat → Int32) (e q : Nat) (τ : sS) : Prop := (∀ j, j < 400 → vI τ 2 j = b j) ∧ vI τ 1 1 = nI e ∧ e ≤ 400 ∧ q ≤ e ∧ vI τ 1 5 = nI q ∧ vI τ 1 4 = ckk b e q ∧ (∃ p, p ≤ e ∧ vI τ 1 2 = nI p ∧ (ckk b e q ≠ 1 → p = tke b e q)) ∧ (ckk b e q = 2 → vI τ 1 6 = nI (tke b e q - q))
theorem k_sm {b : Nat → Int32} {q : Nat} : (¬ q_sm (b q) = 0) ↔ kSm b q = true := by
  unfold q_sm kSm
  by_cases h1 : b q < 97
  · rw [if_pos h1]; simp [h1]
  · rw [if_neg h1]
    by_cases h2 : 122 < b q
    · rw [if_pos h2]; simp [h2]
    · rw [if_neg h2]; simp [h1, h2]
theorem k_dg {x : Int32} : (¬ q_dg x = 0) ↔ (!decide (x < 48) && !decide (57 < x)) = true := by
  unfold q_dg
  by_cases h1 : x < 48
  · rw [if_pos h1]; simp [h1]
  · rw [if_neg h1]
    by_cases h2 : 57 < x
    · rw [if_pos h2]; simp [h2]
    · rw [if_neg h2]; simp [h1, h2]
theorem y_by {b : Nat → Int32} {e q : Nat} {σ : sS} (hb : ∀ j, j < 400 → vI σ 2 j = b j) (hE : vI σ 1 1 = nI e) (he : e ≤ 400) (hq : q ≤ 500) : t_by σ (nI q) = if q < e then b q else 0 := by
  unfold t_by
  rw [if_neg (nI_pos (by omega)), hE]
  by_cases h : q < e
  · rw [if_neg (nI_ge h (by omega)), if_pos h, rg_nI (by omega), hb q (by omega)]
  · rw [if_pos (nI_le (by omega) (by omega)), if_neg h]
theorem y_kl {b : Nat → Int32} {e q : Nat} {σ : sS} (hb : ∀ j, j < 400 → vI σ 2 j = b j) (hE : vI σ 1 1 = nI e) (he : e ≤ 400) (hq : q ≤ e) : (tk_kl σ e q).1 = ckk b e q ∧ ∃ n, (tk_kl σ e q).2 = nI n ∧ q + n ≤ e ∧ (ckk b e q ≠ 1 → q + n = tke b e q) := by
  unfold tk_kl ckk tke
  rw [hE]
  by_cases h1 : q = e
  · rw [if_pos (show ¬ nI q < nI e by rw [h1]; exact fun h => Int32.lt_irrefl h), if_pos h1, if_pos h1]
    exact ⟨rfl, 0, rfl, by omega, fun _ => rfl⟩
  · have hqe : q < e := by omega
    rw [if_neg (not_not_intro (nI_lt hqe (by omega))), if_neg h1, if_neg h1]
    have eb : t_by σ (nI q) = b q := by rw [y_by hb hE he (by omega), if_pos hqe]
    rw [eb]
    by_cases h2 : kSm b q = true
    · rw [if_pos (k_sm.mpr h2), if_pos h2, if_pos h2]
      have ec : scn (b_sm σ) e q = scn (kSm b) e q := scn_cong (fun j hj => by
        have e1 : b_sm σ j = true ↔ kSm b j = true := by rw [b_smT (by omega), rg_nI (by omega), hb j (by omega)]; exact k_sm
        exact Bool.eq_iff_iff.mpr e1) (e - q) q (by omega)
      rw [ec]
      have hr : q ≤ scn (kSm b) e q ∧ scn (kSm b) e q ≤ e := scn_le (e - q) q (by omega)
      generalize scn (kSm b) e q = r at hr
      by_cases h3 : r - q ≤ 7
      · rw [if_neg (show ¬ (7 : Int32) < nI (r - q) from Int32.not_lt.mpr (nI_le (b := 7) h3 (by omega))), if_pos h3]
        exact ⟨rfl, r - q, rfl, by omega, fun _ => by omega⟩
      · rw [if_pos (show (7 : Int32) < nI (r - q) from nI_lt (a := 7) (by omega) (by omega)), if_neg h3]
        exact ⟨rfl, r - q, rfl, by omega, fun _ => by omega⟩
    · rw [if_neg (fun q => h2 (k_sm.mp q)), if_neg h2, if_neg h2]
      by_cases h3 : kDg b q = true
      · rw [if_pos (k_dg.mpr h3), if_pos h3, if_pos h3, nI_1, y_by hb hE he (by omega), scn_go hqe h3]
        by_cases h4 : q + 1 < e ∧ kDg b (q + 1) = true
        · rw [if_pos h4.1, if_neg (k_dg.mpr h4.2)]
          have hr : q + 1 + 1 ≤ scn (kDg b) e (q + 1) := by
            rw [scn_go h4.1 h4.2]
            exact (scn_le (e - (q + 1 + 1)) (q + 1 + 1) (by have := h4.1; omega)).1
          rw [if_neg (by omega)]
          exact ⟨rfl, 1, rfl, by omega, fun q => absurd rfl q⟩
        · have e0 : q_dg (if q + 1 < e then b (q + 1) else 0) = 0 := by
            by_cases h5 : q + 1 < e
            · rw [if_pos h5]
              exact Classical.byContradiction (fun n => h4 ⟨h5, k_dg.mp n⟩)
            · rw [if_neg h5]; rfl
          rw [e0, if_pos rfl, scn_stop h4, if_pos (by omega)]
          exact ⟨rfl, 1, rfl, by omega, fun _ => rfl⟩
      · rw [if_neg (fun q => h3 (k_dg.mp q)), if_neg h3, if_neg h3]
        refine ⟨?_, 1, rfl, by omega, fun _ => rfl⟩
        show (if b q = 59 then b q else if b q = 40 then b q else if b q = 41 then b q else 1) = _
        by_cases s1 : b q = 59
        · rw [if_pos s1, if_pos s1, s1]
        · rw [if_neg s1, if_neg s1]
          by_cases s2 : b q = 40
          · rw [if_pos s2, if_pos s2, s2]
          · rw [if_neg s2, if_neg s2]
            by_cases s3 : b q = 41
            · rw [if_pos s3, if_pos s3, s3]
            · rw [if_neg s3, if_neg s3]
theorem y_step {b : Nat → Int32} {e p : Nat} {σ : sS} (h : tkC b e p σ) : L_X9_step σ = some (t_st e σ) ∧ tkD b e (tq b e p) (t_st e σ) := by
  obtain ⟨hb, hE, hP, hp, he⟩ := h
  have een : t_en σ = e := by unfold t_en; rw [hE, nI_clamp (by omega)]
  have epo : t_po σ = p := by unfold t_po; rw [hP, nI_clamp (by omega)]
  have hk : tkb σ = true := by
    unfold tkb clm
    rw [een, hE, hP, nI_clamp (by omega), nI_clamp (by omega)]
    simp only [Bool.and_eq_true, decide_eq_true_eq]
    exact ⟨⟨Int32.not_lt.mp (nI_pos (by omega)), he⟩, Int32.not_lt.mp (nI_pos (by omega)), hp⟩
  refine ⟨by unfold L_X9_step; rw [hk, grd_s, een], ?_⟩
  have ec : scn (b_bl σ) e p = tq b e p := scn_cong (fun j hj => by
    show decide (vI σ 2 j = 32) = decide (b j = 32)
    rw [hb j (by omega)]) (e - p) p (by omega)
  have hq : tq b e p ≤ e := (scn_le (e - p) p (by omega)).2
  unfold t_st t_step
  rw [epo, ec]
  generalize tq b e p = q at hq
  obtain ⟨k1, n, k2, k3, k4⟩ := y_kl (b := b) hb hE he hq
  show tkD b e q (uI (uI (uI (uI σ 1 5 (nI q)) 1 6 (tk_kl σ e q).2) 1 4 (tk_kl σ e q).1) 1 2 (nI q + (tk_kl σ e q).2))
  rw [k1, k2, nI_add]
  refine ⟨hb, hE, he, hq, rfl, rfl, ⟨q + n, k3, rfl, k4⟩, fun h2 => ?_⟩
  have h4 := k4 (by rw [h2]; decide)
  show nI n = _
  congr 1
  omega
