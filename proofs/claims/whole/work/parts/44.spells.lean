/-! Tape.spells -/
def t_sl (σ : sS) (i : Nat) : Nat → Nat → Int32
  | 0, _ => 1
  | k + 1, j => if rg σ 2 (vI σ 1 5 + nI j) = (ab_byt.getD i []).getD j 0 then t_sl σ i k (j + 1) else 0
def t_sp (σ : sS) (i : Nat) : Int32 := if vI σ 1 4 = 2 then (if vI σ 1 6 = nI (ab_len.getD i 0) then t_sl σ i (ab_len.getD i 0) 0 else 0) else 0
theorem l_X9_sl {ad : Nat → Nat} {σ : sS} {i : Nat} (hi : i < 6) (hL : vI σ 1 6 = nI (ab_len.getD i 0)) : ∀ (k j : Nat), j + k = ab_len.getD i 0 → ab_E (sR ad) mX9_spells 5 23 [(2, .int (nI j)), (0, .ref (ad 1)), (1, .ref (ad (200 + i)))] [] σ (fun r9 σ' => r9 = some (.int (t_sl σ i k j)) ∧ σ' = σ) := by
  have h7 := st_l7 i hi
  intro k
  induction k with
  | zero =>
    intro j hk
    have hc : vI σ 1 6 ≤ nI j := by rw [hL]; exact nI_le (by omega) (by omega)
    refine r_iload_n dX9_spells_23 0 rfl ?_
    refine r_aload_n dX9_spells_24 1 rfl ?_
    refine s_getI ok_X9 dX9_spells_25 (k := 6) (by decide) fl_X9_50 rfl rfl ?_
    refine r_icmp_ge (t := 60) dX9_spells_28 (by decide) (fun _ => ?_) (fun hh => absurd hc hh)
    refine r_iconst (v := 1) dX9_spells_60 (by decide) ?_
    refine r_zret rfl (by decide) dX9_spells_61 ?_
    exact ⟨rfl, rfl⟩
  | succ k ih =>
    intro j hk
    have hc : ¬ vI σ 1 6 ≤ nI j := by rw [hL]; exact nI_ge (by omega) (by omega)
    have hj : j < ab_len.getD i 0 := by omega
    refine r_iload_n dX9_spells_23 0 rfl ?_
    refine r_aload_n dX9_spells_24 1 rfl ?_
    refine s_getI ok_X9 dX9_spells_25 (k := 6) (by decide) fl_X9_50 rfl rfl ?_
    refine r_icmp_ge (t := 60) dX9_spells_28 (by decide) (fun hh => absurd hh hc) (fun _ => ?_)
    refine r_aload_n dX9_spells_31 1 rfl ?_
    refine s_getR (b := 2) ok_X9 dX9_spells_32 (k := 0) (by decide) fl_X9_16 rfl rfl rfl ?_
    refine r_aload_n dX9_spells_35 1 rfl ?_
    refine s_getI ok_X9 dX9_spells_36 (k := 5) (by decide) fl_X9_44 rfl rfl ?_
    refine r_iload_n dX9_spells_39 0 rfl ?_
    refine r_iadd dX9_spells_40 ?_
    refine x_callV (Y := mX7_get) (d' := 1) dX9_spells_41 ml_X9_40 yv_X7_get (by omega) rfl rfl (by simp [Value.category]) (sR_isR rfl) (c_get rfl ((vI σ 1 5) + (nI j))) ?_
    refine r_aload_n dX9_spells_44 2 rfl ?_
    refine r_iload_n dX9_spells_45 0 rfl ?_
    refine x_callVs (Y := mJ0_charAt_5068e) (d' := 4) (As := [.int (nI j)]) hi (fun g hg => sR_str hg i) rfl dX9_spells_46 ml_X9_71 yv_J0_charAt_5068e (by omega) rfl rfl (by simp [Value.category]) (c_charAt σ hi hj) ?_
    refine r_icmp_eq (t := 54) dX9_spells_49 (by decide) (fun c1 => ?_) (fun c1 => ?_)
    · have c1 : (rg σ 2 ((vI σ 1 5) + (nI j))) = ((ab_byt.getD i []).getD j 0) := c1
      refine r_iinc (v := (nI j) + 1) (lo' := [(2, .int ((nI j) + 1)), (0, .ref (ad 1)), (1, .ref (ad (200 + i)))]) dX9_spells_54 0 rfl rfl (by decide) rfl ?_
      refine r_goto (t := 23) dX9_spells_57 (by decide) ?_
      rw [nI_1, t_sl, if_pos c1]
      exact ab_E.lo [0, 1, 2] rfl (ih (j + 1) (by omega))
    · have c1 : ¬ ((rg σ 2 ((vI σ 1 5) + (nI j))) = ((ab_byt.getD i []).getD j 0)) := c1
      refine r_iconst (v := 0) dX9_spells_52 (by decide) ?_
      refine r_zret rfl (by decide) dX9_spells_53 ?_
      rw [t_sl, if_neg c1]; exact ⟨rfl, rfl⟩
theorem c_X9_spells {ad : Nat → Nat} (σ : sS) {i : Nat} (hi : i < 6) : ab_X (sR ad) 5 mX9_spells [.ref (ad 1), .ref (ad (200 + i))] σ (some (.int (t_sp σ i))) σ := by
  refine ab_X.of (by decide) (Nat.le_of_ble_eq_true rfl) ?_
  refine r_aload_n dX9_spells_0 0 rfl ?_
  refine s_getI ok_X9 dX9_spells_1 (k := 4) (by decide) fl_X9_53 rfl rfl ?_
  refine r_iconst (v := 2) dX9_spells_4 (by decide) ?_
  refine r_icmp_ne (t := 19) dX9_spells_5 (by decide) (fun c1 => ?_) (fun c1 => ?_)
  · have c1 : ¬ ((vI σ 1 4) = 2) := c1
    refine r_iconst (v := 0) dX9_spells_19 (by decide) ?_
    refine r_zret rfl (by decide) dX9_spells_20 ?_
    exact ⟨by unfold t_sp; rw [if_neg c1], rfl⟩
  · have c1 : (vI σ 1 4) = 2 := c1
    refine r_aload_n dX9_spells_8 0 rfl ?_
    refine s_getI ok_X9 dX9_spells_9 (k := 6) (by decide) fl_X9_50 rfl rfl ?_
    refine r_aload_n dX9_spells_12 1 rfl ?_
    refine x_callVs (Y := mJ0_length_8abf5) (d' := 2) (As := []) hi (fun g hg => sR_str hg i) rfl dX9_spells_13 ml_X9_66 yv_J0_length_8abf5 (by omega) rfl rfl (by simp [Value.category]) (c_length σ hi) ?_
    refine r_icmp_eq (t := 21) dX9_spells_16 (by decide) (fun c2 => ?_) (fun c2 => ?_)
    · have c2 : (vI σ 1 6) = (nI (ab_len.getD i 0)) := c2
      refine r_iconst (v := 0) dX9_spells_21 (by decide) ?_
      refine r_istore_n (lo' := [(2, .int 0), (0, .ref (ad 1)), (1, .ref (ad (200 + i)))]) dX9_spells_22 (by decide) rfl ?_
      unfold t_sp
      rw [if_pos c1, if_pos c2]
      exact ab_E.lo [0, 1, 2] rfl (l_X9_sl hi c2 (ab_len.getD i 0) 0 (by omega))
    · have c2 : ¬ ((vI σ 1 6) = (nI (ab_len.getD i 0))) := c2
      refine r_iconst (v := 0) dX9_spells_19 (by decide) ?_
      refine r_zret rfl (by decide) dX9_spells_20 ?_
      exact ⟨by unfold t_sp; rw [if_pos c1, if_neg c2], rfl⟩
