/-! tokens -/
def sc (P : Nat → Bool) (e : Nat) : Nat → Nat → Nat
  | 0, p => p
  | n + 1, p => if p < e ∧ P p = true then sc P e n (p + 1) else p
/-- the first place from p on where P fails, e at most -/
def scn (P : Nat → Bool) (e p : Nat) : Nat := sc P e (e - p) p
theorem scn_go {P : Nat → Bool} {e p : Nat} (hp : p < e) (h : P p = true) : scn P e p = scn P e (p + 1) := by
  unfold scn
  obtain ⟨n, hn⟩ : ∃ n, e - p = n + 1 := ⟨e - p - 1, by omega⟩
  rw [hn, sc, if_pos ⟨hp, h⟩]
  congr 1
  omega
theorem scn_stop {P : Nat → Bool} {e p : Nat} (h : ¬ (p < e ∧ P p = true)) : scn P e p = p := by
  unfold scn
  cases hn : e - p with
  | zero => rfl
  | succ n => rw [sc, if_neg h]
theorem scn_le {P : Nat → Bool} {e : Nat} : ∀ (n p : Nat), p + n = e → p ≤ scn P e p ∧ scn P e p ≤ e := by
  intro n
  induction n with
  | zero => intro p hp; rw [scn_stop (by omega)]; omega
  | succ n ih =>
    intro p hp
    by_cases h : P p = true
    · rw [scn_go (by omega) h]
      have := ih (p + 1) (by omega)
      omega
    · rw [scn_stop (fun q => h q.2)]; omega
theorem rg_nI {σ : sS} {r p : Nat} (hp : p < 2 ^ 31) : rg σ r (nI p) = vI σ r p := by
  unfold rg
  rw [if_neg (nI_pos hp), nI_clamp hp]
abbrev b_bl (σ : sS) : Nat → Bool := fun j => decide (vI σ 2 j = 32)
abbrev b_sm (σ : sS) : Nat → Bool := fun j => !(decide (q_sm (vI σ 2 j) = 0))
theorem b_smT {σ : sS} {p : Nat} (hp : p < 2 ^ 31) : b_sm σ p = true ↔ ¬ q_sm (rg σ 2 (nI p)) = 0 := by rw [rg_nI hp]; simp [b_sm]
theorem l_X9_step {ad : Nat → Nat} {σ : sS} {Q : Option Value → sS → Prop} {e : Nat} (hE : vI σ 1 1 = nI e) (he : e ≤ 400) : ∀ (n p : Nat), p + n = e → ab_E (sR ad) mX9_step 3 32 [(1, .int (nI (scn (b_bl σ) e p))), (0, .ref (ad 1))] [] σ Q → ab_E (sR ad) mX9_step 3 5 [(1, .int (nI p)), (0, .ref (ad 1))] [] σ Q := by
  intro n
  induction n with
  | zero =>
    intro p hp K
    have hc : vI σ 1 1 ≤ nI p := by rw [hE]; exact nI_le (by omega) (by omega)
    refine r_iload_n dX9_step_5 0 rfl ?_
    refine r_aload_n dX9_step_6 1 rfl ?_
    refine s_getI ok_X9 dX9_step_7 (k := 1) (by decide) fl_X9_31 rfl rfl ?_
    refine r_icmp_ge (t := 32) dX9_step_10 (by decide) (fun _ => ?_) (fun hh => absurd hc hh)
    rw [scn_stop (by omega)] at K; exact K
  | succ n ih =>
    intro p hp K
    have hc : ¬ vI σ 1 1 ≤ nI p := by rw [hE]; exact nI_ge (by omega) (by omega)
    refine r_iload_n dX9_step_5 0 rfl ?_
    refine r_aload_n dX9_step_6 1 rfl ?_
    refine s_getI ok_X9 dX9_step_7 (k := 1) (by decide) fl_X9_31 rfl rfl ?_
    refine r_icmp_ge (t := 32) dX9_step_10 (by decide) (fun hh => absurd hh hc) (fun _ => ?_)
    refine r_aload_n dX9_step_13 1 rfl ?_
    refine s_getR (b := 2) ok_X9 dX9_step_14 (k := 0) (by decide) fl_X9_16 rfl rfl rfl ?_
    refine r_iload_n dX9_step_17 0 rfl ?_
    refine x_callV (Y := mX7_get) (d' := 1) dX9_step_18 ml_X9_40 yv_X7_get (by decide) rfl rfl (by simp [Value.category]) (sR_isR rfl) (c_get rfl (nI p)) ?_
    refine r_bipush (v := 32) dX9_step_21 (by decide) ?_
    refine r_icmp_ne (t := 32) dX9_step_23 (by decide) (fun c1 => ?_) (fun c1 => ?_)
    · have c1 : ¬ ((rg σ 2 (nI p)) = 32) := c1
      rw [scn_stop (fun q => c1 (by rw [rg_nI (by omega)]; exact of_decide_eq_true q.2))] at K; exact K
    · have c1 : (rg σ 2 (nI p)) = 32 := c1
      refine r_iinc (v := (nI p) + 1) (lo' := [(1, .int ((nI p) + 1)), (0, .ref (ad 1))]) dX9_step_26 0 rfl rfl (by decide) rfl ?_
      refine r_goto (t := 5) dX9_step_29 (by decide) ?_
      rw [nI_1]; exact ih (p + 1) (by omega) (by rw [← scn_go (by omega) (decide_eq_true (by rw [← rg_nI (r := 2) (by omega)]; exact c1))]; exact K)
theorem l_X9_run {ad : Nat → Nat} {σ : sS} {x : Int32} {e : Nat} (hE : vI σ 1 1 = nI e) (he : e ≤ 400) : ∀ (n p : Nat), p + n = e → ab_E (sR ad) mX9_runOfSmall 2 2 [(2, .int (nI p)), (0, .ref (ad 1)), (1, .int x)] [] σ (fun r σ' => r = some (.int (nI (scn (b_sm σ) e p) - x)) ∧ σ' = σ) := by
  intro n
  induction n with
  | zero =>
    intro p hp
    have hc : vI σ 1 1 ≤ nI p := by rw [hE]; exact nI_le (by omega) (by omega)
    refine r_iload_n dX9_runOfSmall_2 0 rfl ?_
    refine r_aload_n dX9_runOfSmall_3 1 rfl ?_
    refine s_getI ok_X9 dX9_runOfSmall_4 (k := 1) (by decide) fl_X9_31 rfl rfl ?_
    refine r_icmp_ge (t := 30) dX9_runOfSmall_7 (by decide) (fun _ => ?_) (fun hh => absurd hc hh)
    refine r_iload_n dX9_runOfSmall_30 0 rfl ?_
    refine r_iload_n dX9_runOfSmall_31 2 rfl ?_
    refine r_isub dX9_runOfSmall_32 ?_
    refine r_iret rfl dX9_runOfSmall_33 ?_
    exact ⟨by rw [scn_stop (by omega)], rfl⟩
  | succ n ih =>
    intro p hp
    have hc : ¬ vI σ 1 1 ≤ nI p := by rw [hE]; exact nI_ge (by omega) (by omega)
    refine r_iload_n dX9_runOfSmall_2 0 rfl ?_
    refine r_aload_n dX9_runOfSmall_3 1 rfl ?_
    refine s_getI ok_X9 dX9_runOfSmall_4 (k := 1) (by decide) fl_X9_31 rfl rfl ?_
    refine r_icmp_ge (t := 30) dX9_runOfSmall_7 (by decide) (fun hh => absurd hh hc) (fun _ => ?_)
    refine r_aload_n dX9_runOfSmall_10 1 rfl ?_
    refine s_getR (b := 2) ok_X9 dX9_runOfSmall_11 (k := 0) (by decide) fl_X9_16 rfl rfl rfl ?_
    refine r_iload_n dX9_runOfSmall_14 0 rfl ?_
    refine x_callV (Y := mX7_get) (d' := 1) dX9_runOfSmall_15 ml_X9_40 yv_X7_get (by decide) rfl rfl (by simp [Value.category]) (sR_isR rfl) (c_get rfl (nI p)) ?_
    refine x_callS (Y := mX9_isSmall) (d' := 1) dX9_runOfSmall_18 ml_X9_56 ys_X9_isSmall (by decide) rfl rfl (by simp [Value.category]) (c_X9_isSmall σ (rg σ 2 (nI p))) ?_
    refine r_if_eq (t := 30) dX9_runOfSmall_21 (by decide) (fun c1 => ?_) (fun c1 => ?_)
    · have c1 : (q_sm (rg σ 2 (nI p))) = 0 := c1
      refine r_iload_n dX9_runOfSmall_30 0 rfl ?_
      refine r_iload_n dX9_runOfSmall_31 2 rfl ?_
      refine r_isub dX9_runOfSmall_32 ?_
      refine r_iret rfl dX9_runOfSmall_33 ?_
      exact ⟨by rw [scn_stop (fun q => (b_smT (by omega)).mp q.2 c1)], rfl⟩
    · have c1 : ¬ ((q_sm (rg σ 2 (nI p))) = 0) := c1
      refine r_iinc (v := (nI p) + 1) (lo' := [(2, .int ((nI p) + 1)), (0, .ref (ad 1)), (1, .int x)]) dX9_runOfSmall_24 0 rfl rfl (by decide) rfl ?_
      refine r_goto (t := 2) dX9_runOfSmall_27 (by decide) ?_
      rw [nI_1, scn_go (by omega) ((b_smT (by omega)).mpr c1)]; exact ih (p + 1) (by omega)
theorem c_X9_runOfSmall {ad : Nat → Nat} (σ : sS) {e p : Nat} (hE : vI σ 1 1 = nI e) (he : e ≤ 400) (hp : p ≤ e) : ab_X (sR ad) 2 mX9_runOfSmall [.ref (ad 1), .int (nI p)] σ (some (.int (nI (scn (b_sm σ) e p - p)))) σ := by
  refine ab_X.of (by decide) (Nat.le_of_ble_eq_true rfl) ?_
  refine r_iload_n dX9_runOfSmall_0 1 rfl ?_
  refine r_istore_n (lo' := [(2, .int (nI p)), (0, .ref (ad 1)), (1, .int (nI p))]) dX9_runOfSmall_1 (by decide) rfl ?_
  have h := l_X9_run (ad := ad) (x := nI p) hE he (e - p) p (by omega)
  have h2 := scn_le (P := b_sm σ) (e := e) (e - p) p (by omega)
  rw [pk_sub h2.1] at h
  exact h
/-- the kind and the length of the token at pl -/
def tk_kl (σ : sS) (e pl : Nat) : Int32 × Int32 :=
  if ¬ nI pl < vI σ 1 1 then (0, 0)
  else if ¬ q_sm (t_by σ (nI pl)) = 0 then (if 7 < nI (scn (b_sm σ) e pl - pl) then 1 else 2, nI (scn (b_sm σ) e pl - pl))
  else if ¬ q_dg (t_by σ (nI pl)) = 0 then (if q_dg (t_by σ (nI pl + 1)) = 0 then 3 else 1, 1)
  else (if t_by σ (nI pl) = 59 then t_by σ (nI pl) else if t_by σ (nI pl) = 40 then t_by σ (nI pl) else if t_by σ (nI pl) = 41 then t_by σ (nI pl) else 1, 1)
def t_step (σ : sS) (e p : Nat) : sS :=
  let pl := scn (b_bl σ) e p
  uI (uI (uI (uI σ 1 5 (nI pl)) 1 6 (tk_kl σ e pl).2) 1 4 (tk_kl σ e pl).1) 1 2 (nI pl + (tk_kl σ e pl).2)
theorem c_X9_step {ad : Nat → Nat} (σ : sS) {e p : Nat} (hE : vI σ 1 1 = nI e) (he : e ≤ 400) (hP : vI σ 1 2 = nI p) (hp : p ≤ e) : ab_X (sR ad) 3 mX9_step [.ref (ad 1)] σ none (t_step σ e p) := by
  have hpl := (scn_le (P := b_bl σ) (e := e) (e - p) p (by omega)).2
  refine ab_X.of (by decide) (Nat.le_of_ble_eq_true rfl) ?_
  refine r_aload_n dX9_step_0 0 rfl ?_
  refine s_getI ok_X9 dX9_step_1 (k := 2) (by decide) fl_X9_34 rfl rfl ?_
  refine r_istore_n (lo' := [(1, .int (vI σ 1 2)), (0, .ref (ad 1))]) dX9_step_4 (by decide) rfl ?_
  rw [hP]
  refine l_X9_step hE he (e - p) p (by omega) ?_
  generalize hple : scn (b_bl σ) e p = pl at hpl ⊢
  refine r_aload_n dX9_step_32 1 rfl ?_
  refine r_iload_n dX9_step_33 0 rfl ?_
  refine s_putI ok_X9 dX9_step_34 (k := 5) (by decide) fl_X9_44 rfl rfl rfl rfl rfl ?_
  refine r_aload_n dX9_step_37 1 rfl ?_
  refine r_iload_n dX9_step_38 0 rfl ?_
  refine x_callV (Y := mX9_byteAt) (d' := 2) dX9_step_39 ml_X9_47 yv_X9_byteAt (by decide) rfl rfl (by simp [Value.category]) (sR_is rfl rfl) (c_X9_byteAt (uI σ 1 5 (nI pl)) (nI pl)) ?_
  refine r_istore_n (lo' := [(2, .int (t_by σ (nI pl))), (1, .int (nI pl)), (0, .ref (ad 1))]) dX9_step_42 (by decide) rfl ?_
  refine r_iload_n dX9_step_43 1 rfl ?_
  refine r_aload_n dX9_step_44 2 rfl ?_
  refine s_getI ok_X9 dX9_step_45 (k := 1) (by decide) fl_X9_31 rfl rfl ?_
  refine r_icmp_lt (t := 64) dX9_step_48 (by decide) (fun c1 => ?_) (fun c1 => ?_)
  · have c1 : (nI pl) < (vI σ 1 1) := c1
    refine r_iload_n dX9_step_64 0 rfl ?_
    refine x_callS (Y := mX9_isSmall) (d' := 1) dX9_step_65 ml_X9_56 ys_X9_isSmall (by decide) rfl rfl (by simp [Value.category]) (c_X9_isSmall (uI σ 1 5 (nI pl)) (t_by σ (nI pl))) ?_
    refine r_if_eq (t := 101) dX9_step_68 (by decide) (fun c2 => ?_) (fun c2 => ?_)
    · have c2 : (q_sm (t_by σ (nI pl))) = 0 := c2
      refine r_iload_n dX9_step_101 0 rfl ?_
      refine x_callS (Y := mX9_isDigit) (d' := 1) dX9_step_102 ml_X9_63 ys_X9_isDigit (by decide) rfl rfl (by simp [Value.category]) (c_X9_isDigit (uI σ 1 5 (nI pl)) (t_by σ (nI pl))) ?_
      refine r_if_eq (t := 138) dX9_step_105 (by decide) (fun c3 => ?_) (fun c3 => ?_)
      · have c3 : (q_dg (t_by σ (nI pl))) = 0 := c3
        refine r_aload_n dX9_step_138 2 rfl ?_
        refine r_iconst (v := 1) dX9_step_139 (by decide) ?_
        refine s_putI ok_X9 dX9_step_140 (k := 6) (by decide) fl_X9_50 rfl rfl rfl rfl rfl ?_
        refine r_aload_n dX9_step_143 2 rfl ?_
        refine r_iload_n dX9_step_144 0 rfl ?_
        refine r_bipush (v := 59) dX9_step_145 (by decide) ?_
        refine r_icmp_eq (t := 162) dX9_step_147 (by decide) (fun c4 => ?_) (fun c4 => ?_)
        · have c4 : (t_by σ (nI pl)) = 59 := c4
          refine r_iload_n dX9_step_162 0 rfl ?_
          refine r_goto (t := 167) dX9_step_163 (by decide) ?_
          refine s_putI ok_X9 dX9_step_167 (k := 4) (by decide) fl_X9_53 rfl rfl rfl rfl rfl ?_
          refine r_aload_n dX9_step_170 2 rfl ?_
          refine r_iload_n dX9_step_171 1 rfl ?_
          refine r_aload_n dX9_step_172 2 rfl ?_
          refine s_getI ok_X9 dX9_step_173 (k := 6) (by decide) fl_X9_50 rfl rfl ?_
          refine r_iadd dX9_step_176 ?_
          refine s_putI ok_X9 dX9_step_177 (k := 2) (by decide) fl_X9_34 rfl rfl rfl rfl rfl ?_
          refine r_vret rfl dX9_step_180 ?_
          refine ⟨rfl, ?_⟩
          have hk : tk_kl σ e pl = (t_by σ (nI pl), 1) := by unfold tk_kl; simp only [eq_true c1, eq_true c2, eq_true c3, eq_true c4, not_true_eq_false, not_false_eq_true, ↓reduceIte]
          unfold t_step
          rw [hple]
          simp only [hk]
          rfl
        · have c4 : ¬ ((t_by σ (nI pl)) = 59) := c4
          refine r_iload_n dX9_step_150 0 rfl ?_
          refine r_bipush (v := 40) dX9_step_151 (by decide) ?_
          refine r_icmp_eq (t := 162) dX9_step_153 (by decide) (fun c5 => ?_) (fun c5 => ?_)
          · have c5 : (t_by σ (nI pl)) = 40 := c5
            refine r_iload_n dX9_step_162 0 rfl ?_
            refine r_goto (t := 167) dX9_step_163 (by decide) ?_
            refine s_putI ok_X9 dX9_step_167 (k := 4) (by decide) fl_X9_53 rfl rfl rfl rfl rfl ?_
            refine r_aload_n dX9_step_170 2 rfl ?_
            refine r_iload_n dX9_step_171 1 rfl ?_
            refine r_aload_n dX9_step_172 2 rfl ?_
            refine s_getI ok_X9 dX9_step_173 (k := 6) (by decide) fl_X9_50 rfl rfl ?_
            refine r_iadd dX9_step_176 ?_
            refine s_putI ok_X9 dX9_step_177 (k := 2) (by decide) fl_X9_34 rfl rfl rfl rfl rfl ?_
            refine r_vret rfl dX9_step_180 ?_
            refine ⟨rfl, ?_⟩
            have hk : tk_kl σ e pl = (t_by σ (nI pl), 1) := by unfold tk_kl; simp only [eq_true c1, eq_true c2, eq_true c3, eq_false c4, eq_true c5, not_true_eq_false, not_false_eq_true, ↓reduceIte]
            unfold t_step
            rw [hple]
            simp only [hk]
            rfl
          · have c5 : ¬ ((t_by σ (nI pl)) = 40) := c5
            refine r_iload_n dX9_step_156 0 rfl ?_
            refine r_bipush (v := 41) dX9_step_157 (by decide) ?_
            refine r_icmp_ne (t := 166) dX9_step_159 (by decide) (fun c6 => ?_) (fun c6 => ?_)
            · have c6 : ¬ ((t_by σ (nI pl)) = 41) := c6
              refine r_iconst (v := 1) dX9_step_166 (by decide) ?_
              refine s_putI ok_X9 dX9_step_167 (k := 4) (by decide) fl_X9_53 rfl rfl rfl rfl rfl ?_
              refine r_aload_n dX9_step_170 2 rfl ?_
              refine r_iload_n dX9_step_171 1 rfl ?_
              refine r_aload_n dX9_step_172 2 rfl ?_
              refine s_getI ok_X9 dX9_step_173 (k := 6) (by decide) fl_X9_50 rfl rfl ?_
              refine r_iadd dX9_step_176 ?_
              refine s_putI ok_X9 dX9_step_177 (k := 2) (by decide) fl_X9_34 rfl rfl rfl rfl rfl ?_
              refine r_vret rfl dX9_step_180 ?_
              refine ⟨rfl, ?_⟩
              have hk : tk_kl σ e pl = (1, 1) := by unfold tk_kl; simp only [eq_true c1, eq_true c2, eq_true c3, eq_false c4, eq_false c5, eq_false c6, not_true_eq_false, not_false_eq_true, ↓reduceIte]
              unfold t_step
              rw [hple]
              simp only [hk]
              rfl
            · have c6 : (t_by σ (nI pl)) = 41 := c6
              refine r_iload_n dX9_step_162 0 rfl ?_
              refine r_goto (t := 167) dX9_step_163 (by decide) ?_
              refine s_putI ok_X9 dX9_step_167 (k := 4) (by decide) fl_X9_53 rfl rfl rfl rfl rfl ?_
              refine r_aload_n dX9_step_170 2 rfl ?_
              refine r_iload_n dX9_step_171 1 rfl ?_
              refine r_aload_n dX9_step_172 2 rfl ?_
              refine s_getI ok_X9 dX9_step_173 (k := 6) (by decide) fl_X9_50 rfl rfl ?_
              refine r_iadd dX9_step_176 ?_
              refine s_putI ok_X9 dX9_step_177 (k := 2) (by decide) fl_X9_34 rfl rfl rfl rfl rfl ?_
              refine r_vret rfl dX9_step_180 ?_
              refine ⟨rfl, ?_⟩
              have hk : tk_kl σ e pl = (t_by σ (nI pl), 1) := by unfold tk_kl; simp only [eq_true c1, eq_true c2, eq_true c3, eq_false c4, eq_false c5, eq_true c6, not_true_eq_false, not_false_eq_true, ↓reduceIte]
              unfold t_step
              rw [hple]
              simp only [hk]
              rfl
      · have c3 : ¬ ((q_dg (t_by σ (nI pl))) = 0) := c3
        refine r_aload_n dX9_step_108 2 rfl ?_
        refine r_iconst (v := 1) dX9_step_109 (by decide) ?_
        refine s_putI ok_X9 dX9_step_110 (k := 6) (by decide) fl_X9_50 rfl rfl rfl rfl rfl ?_
        refine r_aload_n dX9_step_113 2 rfl ?_
        refine r_aload_n dX9_step_114 2 rfl ?_
        refine r_iload_n dX9_step_115 1 rfl ?_
        refine r_iconst (v := 1) dX9_step_116 (by decide) ?_
        refine r_iadd dX9_step_117 ?_
        refine x_callV (Y := mX9_byteAt) (d' := 2) dX9_step_118 ml_X9_47 yv_X9_byteAt (by decide) rfl rfl (by simp [Value.category]) (sR_is rfl rfl) (c_X9_byteAt (uI (uI σ 1 5 (nI pl)) 1 6 1) ((nI pl) + 1)) ?_
        refine x_callS (Y := mX9_isDigit) (d' := 1) dX9_step_121 ml_X9_63 ys_X9_isDigit (by decide) rfl rfl (by simp [Value.category]) (c_X9_isDigit (uI (uI σ 1 5 (nI pl)) 1 6 1) (t_by σ ((nI pl) + 1))) ?_
        refine r_if_eq (t := 131) dX9_step_124 (by decide) (fun c7 => ?_) (fun c7 => ?_)
        · have c7 : (q_dg (t_by σ ((nI pl) + 1))) = 0 := c7
          refine r_iconst (v := 3) dX9_step_131 (by decide) ?_
          refine s_putI ok_X9 dX9_step_132 (k := 4) (by decide) fl_X9_53 rfl rfl rfl rfl rfl ?_
          refine r_goto (t := 170) dX9_step_135 (by decide) ?_
          refine r_aload_n dX9_step_170 2 rfl ?_
          refine r_iload_n dX9_step_171 1 rfl ?_
          refine r_aload_n dX9_step_172 2 rfl ?_
          refine s_getI ok_X9 dX9_step_173 (k := 6) (by decide) fl_X9_50 rfl rfl ?_
          refine r_iadd dX9_step_176 ?_
          refine s_putI ok_X9 dX9_step_177 (k := 2) (by decide) fl_X9_34 rfl rfl rfl rfl rfl ?_
          refine r_vret rfl dX9_step_180 ?_
          refine ⟨rfl, ?_⟩
          have hk : tk_kl σ e pl = (3, 1) := by unfold tk_kl; simp only [eq_true c1, eq_true c2, eq_false c3, eq_true c7, not_true_eq_false, not_false_eq_true, ↓reduceIte]
          unfold t_step
          rw [hple]
          simp only [hk]
          rfl
        · have c7 : ¬ ((q_dg (t_by σ ((nI pl) + 1))) = 0) := c7
          refine r_iconst (v := 1) dX9_step_127 (by decide) ?_
          refine r_goto (t := 132) dX9_step_128 (by decide) ?_
          refine s_putI ok_X9 dX9_step_132 (k := 4) (by decide) fl_X9_53 rfl rfl rfl rfl rfl ?_
          refine r_goto (t := 170) dX9_step_135 (by decide) ?_
          refine r_aload_n dX9_step_170 2 rfl ?_
          refine r_iload_n dX9_step_171 1 rfl ?_
          refine r_aload_n dX9_step_172 2 rfl ?_
          refine s_getI ok_X9 dX9_step_173 (k := 6) (by decide) fl_X9_50 rfl rfl ?_
          refine r_iadd dX9_step_176 ?_
          refine s_putI ok_X9 dX9_step_177 (k := 2) (by decide) fl_X9_34 rfl rfl rfl rfl rfl ?_
          refine r_vret rfl dX9_step_180 ?_
          refine ⟨rfl, ?_⟩
          have hk : tk_kl σ e pl = (1, 1) := by unfold tk_kl; simp only [eq_true c1, eq_true c2, eq_false c3, eq_false c7, not_true_eq_false, not_false_eq_true, ↓reduceIte]
          unfold t_step
          rw [hple]
          simp only [hk]
          rfl
    · have c2 : ¬ ((q_sm (t_by σ (nI pl))) = 0) := c2
      refine r_aload_n dX9_step_71 2 rfl ?_
      refine r_aload_n dX9_step_72 2 rfl ?_
      refine r_iload_n dX9_step_73 1 rfl ?_
      refine x_callV (Y := mX9_runOfSmall) (d' := 2) dX9_step_74 ml_X9_60 yv_X9_runOfSmall (by decide) rfl rfl (by simp [Value.category]) (sR_is rfl rfl) (c_X9_runOfSmall (uI σ 1 5 (nI pl)) (p := pl) (show vI (uI σ 1 5 (nI pl)) 1 1 = nI e from hE) he hpl) ?_
      refine s_putI ok_X9 dX9_step_77 (k := 6) (by decide) fl_X9_50 rfl rfl rfl rfl rfl ?_
      refine r_aload_n dX9_step_80 2 rfl ?_
      refine r_aload_n dX9_step_81 2 rfl ?_
      refine s_getI ok_X9 dX9_step_82 (k := 6) (by decide) fl_X9_50 rfl rfl ?_
      refine r_bipush (v := 7) dX9_step_85 (by decide) ?_
      refine r_icmp_gt (t := 94) dX9_step_87 (by decide) (fun c8 => ?_) (fun c8 => ?_)
      · have c8 : 7 < (nI (scn (b_sm σ) e pl - pl)) := c8
        refine r_iconst (v := 1) dX9_step_94 (by decide) ?_
        refine s_putI ok_X9 dX9_step_95 (k := 4) (by decide) fl_X9_53 rfl rfl rfl rfl rfl ?_
        refine r_goto (t := 170) dX9_step_98 (by decide) ?_
        refine r_aload_n dX9_step_170 2 rfl ?_
        refine r_iload_n dX9_step_171 1 rfl ?_
        refine r_aload_n dX9_step_172 2 rfl ?_
        refine s_getI ok_X9 dX9_step_173 (k := 6) (by decide) fl_X9_50 rfl rfl ?_
        refine r_iadd dX9_step_176 ?_
        refine s_putI ok_X9 dX9_step_177 (k := 2) (by decide) fl_X9_34 rfl rfl rfl rfl rfl ?_
        refine r_vret rfl dX9_step_180 ?_
        refine ⟨rfl, ?_⟩
        have hk : tk_kl σ e pl = (1, nI (scn (b_sm σ) e pl - pl)) := by unfold tk_kl; simp only [eq_true c1, eq_false c2, eq_true c8, not_true_eq_false, not_false_eq_true, ↓reduceIte]
        unfold t_step
        rw [hple]
        simp only [hk]
        rfl
      · have c8 : ¬ (7 < (nI (scn (b_sm σ) e pl - pl))) := c8
        refine r_iconst (v := 2) dX9_step_90 (by decide) ?_
        refine r_goto (t := 95) dX9_step_91 (by decide) ?_
        refine s_putI ok_X9 dX9_step_95 (k := 4) (by decide) fl_X9_53 rfl rfl rfl rfl rfl ?_
        refine r_goto (t := 170) dX9_step_98 (by decide) ?_
        refine r_aload_n dX9_step_170 2 rfl ?_
        refine r_iload_n dX9_step_171 1 rfl ?_
        refine r_aload_n dX9_step_172 2 rfl ?_
        refine s_getI ok_X9 dX9_step_173 (k := 6) (by decide) fl_X9_50 rfl rfl ?_
        refine r_iadd dX9_step_176 ?_
        refine s_putI ok_X9 dX9_step_177 (k := 2) (by decide) fl_X9_34 rfl rfl rfl rfl rfl ?_
        refine r_vret rfl dX9_step_180 ?_
        refine ⟨rfl, ?_⟩
        have hk : tk_kl σ e pl = (2, nI (scn (b_sm σ) e pl - pl)) := by unfold tk_kl; simp only [eq_true c1, eq_false c2, eq_false c8, not_true_eq_false, not_false_eq_true, ↓reduceIte]
        unfold t_step
        rw [hple]
        simp only [hk]
        rfl
  · have c1 : ¬ ((nI pl) < (vI σ 1 1)) := c1
    refine r_aload_n dX9_step_51 2 rfl ?_
    refine r_iconst (v := 0) dX9_step_52 (by decide) ?_
    refine s_putI ok_X9 dX9_step_53 (k := 6) (by decide) fl_X9_50 rfl rfl rfl rfl rfl ?_
    refine r_aload_n dX9_step_56 2 rfl ?_
    refine r_iconst (v := 0) dX9_step_57 (by decide) ?_
    refine s_putI ok_X9 dX9_step_58 (k := 4) (by decide) fl_X9_53 rfl rfl rfl rfl rfl ?_
    refine r_goto (t := 170) dX9_step_61 (by decide) ?_
    refine r_aload_n dX9_step_170 2 rfl ?_
    refine r_iload_n dX9_step_171 1 rfl ?_
    refine r_aload_n dX9_step_172 2 rfl ?_
    refine s_getI ok_X9 dX9_step_173 (k := 6) (by decide) fl_X9_50 rfl rfl ?_
    refine r_iadd dX9_step_176 ?_
    refine s_putI ok_X9 dX9_step_177 (k := 2) (by decide) fl_X9_34 rfl rfl rfl rfl rfl ?_
    refine r_vret rfl dX9_step_180 ?_
    refine ⟨rfl, ?_⟩
    have hk : tk_kl σ e pl = (0, 0) := by unfold tk_kl; simp only [eq_false c1, not_true_eq_false, not_false_eq_true, ↓reduceIte]
    unfold t_step
    rw [hple]
    simp only [hk]
    rfl
