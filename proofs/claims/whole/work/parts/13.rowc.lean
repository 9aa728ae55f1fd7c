theorem w_nat : Cond.native arraycopyName ∈ ab_tb := ab_m3 126 rfl rfl
theorem w_sta : Cond.static arraycopyName ∈ ab_tb := ab_m3 125 rfl rfl
theorem w_sys : Cond.initialized "java/lang/System" ∈ ab_tb := ab_m1 20 rfl rfl
theorem ab_up_up {h : ab_H} {a : Nat} {e e' : va_E} : ab_up (ab_up h a e) a e' = ab_up h a e' := by
  funext b
  by_cases hb : b = a
  · subst hb; rw [ab_up_s, ab_up_s]
  · rw [ab_up_n hb, ab_up_n hb, ab_up_n hb]
theorem nI_ge_iff {i : Int32} {n : Nat} (h0 : ¬ i < 0) (hn : n < 2 ^ 31) : nI n ≤ i ↔ n ≤ i.toNatClampNeg := by
  obtain ⟨j, hj, rfl⟩ := nI_of h0
  rw [nI_clamp hj, nI_leI hn hj]
theorem nI_cl {i : Int32} (h0 : ¬ i < 0) : nI i.toNatClampNeg = i := by
  obtain ⟨j, hj, rfl⟩ := nI_of h0
  rw [nI_clamp hj]
theorem cl_lt {i : Int32} : i.toNatClampNeg < 2 ^ 31 := by
  by_cases h : i < 0
  · have h1 : i.toInt < 0 := by simpa using Int32.lt_iff_toInt_lt.mp h
    have h2 : i.toNatClampNeg = 0 := by show i.toInt.toNat = 0; omega
    omega
  · obtain ⟨j, hj, rfl⟩ := nI_of h
    rw [nI_clamp hj]; exact hj
theorem ab_X.up {S : Type} {Rp : S → ab_S → Prop} {d : Nat} {Y : ab_M} {av : List Value} {σ σ0 : S} {r0 : Option Value} (h : ∀ g, Rp σ g → ∃ g', ab_X ab_I d Y av g r0 g' ∧ Rp σ0 g') : ab_X Rp d Y av σ r0 σ0 := by
  intro g hg
  obtain ⟨g', hX, hr⟩ := h g hg
  obtain ⟨r, g1, σ1, hM, hI, h1, h2⟩ := hX g rfl
  subst h1; subst h2
  cases hI
  exact ⟨_, _, σ0, hM, hr, rfl, rfl⟩
/-! the JDK's copyOf, to a greater length -/
theorem mm_copyOf {g : ab_S} {c n m : Nat} {f : Nat → Int32} (h2 : g.1 c = some (.inl (0, n, .inl f))) (hn : n < m) (hm : m ≤ 270000) (hz : c ≠ g.2.1) :
    ab_X ab_I 1 mJ7_copyOf_59c91 [.ref c, .int (nI m)] g (some (.ref g.2.1)) (ab_up g.1 g.2.1 (.inl (0, m, .inl (fun j => if j < n then f j else 0))), g.2.1 + 1, g.2.2.1 + 1, g.2.2.2.1 + m, g.2.2.2.2) := by
  refine ab_X.of (by decide) (Nat.le_of_ble_eq_true rfl) ?_
  have e0 : ab_up g.1 g.2.1 (.inl (0, m, .inl (fun _ => 0))) c = some (.inl (0, n, .inl f)) := by rw [ab_up_n hz]; exact h2
  refine r_iload_n dJ7_copyOf_59c91_0 1 rfl ?_
  refine r_aload_n dJ7_copyOf_59c91_1 0 rfl ?_
  refine m_alen dJ7_copyOf_59c91_2 h2 ?_
  refine r_icmp_ne (t := 14) dJ7_copyOf_59c91_3 (by decide) (fun _ => ?_) (fun hh => absurd ((nI_eq (by omega) (by omega)).mp hh) (by omega))
  refine r_iload_n dJ7_copyOf_59c91_14 1 rfl ?_
  refine m_newI (n := m) dJ7_copyOf_59c91_15 (nI_pos (by omega)) (nI_clamp (by omega)) (by omega) ?_
  refine r_astore_n (lo' := [(2, .ref g.2.1), (0, .ref c), (1, .int (nI m))]) dJ7_copyOf_59c91_17 (by decide) rfl ?_
  refine r_aload_n dJ7_copyOf_59c91_18 1 rfl ?_
  refine r_iconst (v := 0) dJ7_copyOf_59c91_19 (by decide) ?_
  refine r_aload_n dJ7_copyOf_59c91_20 0 rfl ?_
  refine r_iconst (v := 0) dJ7_copyOf_59c91_21 (by decide) ?_
  refine r_aload_n dJ7_copyOf_59c91_22 1 rfl ?_
  refine m_alen dJ7_copyOf_59c91_23 e0 ?_
  refine r_iload_n dJ7_copyOf_59c91_24 2 rfl ?_
  refine r_min dJ7_copyOf_59c91_25 (by decide) ml_J7_304 ma_mins ma_i ma_minc (by simp [Value.category]) ?_
  rw [if_neg (nI_nlt (Nat.le_of_lt hn) (by omega))]
  refine ab_E.hp (pc' := 28 + 3) (lo' := [(2, .ref g.2.1), (0, .ref c), (1, .int (nI m))]) (st' := []) (σ2 := (ab_up g.1 g.2.1 (.inl (0, m, .inl (fun j => if j < n then f j else 0))), g.2.1 + 1, g.2.2.1 + 1, g.2.2.2.1 + m, g.2.2.2.2)) (fun g1 hg => ⟨_, rfl, fun r g' h => ?_⟩) (r_aload_n dJ7_copyOf_59c91_31 0 rfl (r_aret rfl (Or.inr ⟨_, rfl⟩) (Or.inr ⟨_, rfl⟩) dJ7_copyOf_59c91_32 ⟨rfl, rfl⟩))
  cases hg
  refine ab_R.copy (by decide) ml_J7_150 w_nat w_sta w_sys dJ7_copyOf_59c91_28 (by simp) e0 (ab_up_s (h := g.1)) (by decide) (by decide) (nI_pos (by omega)) (by rw [nI_clamp (by omega)]; show 0 + n ≤ n; omega) (by rw [nI_clamp (by omega)]; show 0 + n ≤ m; omega) ?_
  have e2 : va_cpy f (fun _ => 0) (0 : Int32).toNatClampNeg (0 : Int32).toNatClampNeg (nI n).toNatClampNeg = fun j => if j < n then f j else 0 := by
    funext j
    rw [nI_clamp (by omega)]
    show (if 0 ≤ j ∧ j < 0 + n then f (0 + (j - 0)) else 0) = _
    by_cases hj : j < n
    · rw [if_pos ⟨Nat.zero_le _, by omega⟩, if_pos hj]
      congr 1
      omega
    · rw [if_neg (fun q => hj (by omega)), if_neg hj]
  rw [e2]
  show ab_R _ _ _ _ _ (ab_up (ab_up g.1 g.2.1 _) g.2.1 _, g.2.1 + 1, g.2.2.1 + 1, g.2.2.2.1 + m, g.2.2.2.2) _ _
  rw [ab_up_up]
  exact h
section ROW
variable {g : ab_S} {a c n : Nat} {f : Nat → Int32} {u : Int32}
theorem mm_get (h1 : g.1 a = some (.inr (6, [.ref c, .int u]))) (h2 : g.1 c = some (.inl (0, n, .inl f))) (hn : n ≤ 270000) (i : Int32) :
    ab_X ab_I 1 mX7_get [.ref a, .int i] g (some (.int (if i < 0 then 0 else if n ≤ i.toNatClampNeg then 0 else f i.toNatClampNeg))) g := by
  refine ab_X.of (by decide) (Nat.le_of_ble_eq_true rfl) ?_
  refine r_iload_n dX7_get_0 1 rfl ?_
  refine r_if_lt (t := 22) dX7_get_1 (by decide) (fun c1 => ?_) (fun c1 => ?_)
  · refine r_iconst (v := 0) dX7_get_22 (by decide) ?_
    exact r_iret rfl dX7_get_23 ⟨by rw [if_pos c1], rfl⟩
  · refine r_iload_n dX7_get_4 1 rfl ?_
    refine r_aload_n dX7_get_5 0 rfl ?_
    refine m_get ok_X7 dX7_get_6 (k := 0) (by decide) fl_X7_21 h1 rfl ?_
    refine m_alen dX7_get_9 h2 ?_
    have hi := nI_ge_iff (n := n) c1 (by omega)
    refine r_icmp_ge (t := 22) dX7_get_10 (by decide) (fun c2 => ?_) (fun c2 => ?_)
    · refine r_iconst (v := 0) dX7_get_22 (by decide) ?_
      exact r_iret rfl dX7_get_23 ⟨by rw [if_neg c1, if_pos (hi.mp c2)], rfl⟩
    · refine r_aload_n dX7_get_13 0 rfl ?_
      refine m_get ok_X7 dX7_get_14 (k := 0) (by decide) fl_X7_21 h1 rfl ?_
      refine r_iload_n dX7_get_17 1 rfl ?_
      refine m_iald dX7_get_18 h2 (fun q => q.elim c1 (fun q => c2 (hi.mpr q))) ?_
      refine r_goto (t := 23) dX7_get_19 (by decide) ?_
      exact r_iret rfl dX7_get_23 ⟨by rw [if_neg c1, if_neg (fun q => c2 (hi.mpr q))], rfl⟩
theorem mm_put (h1 : g.1 a = some (.inr (6, [.ref c, .int u]))) (h2 : g.1 c = some (.inl (0, n, .inl f))) (hn : n ≤ 270000) (i x : Int32) :
    ab_X ab_I 1 mX7_put [.ref a, .int i, .int x] g none (if i < 0 ∨ n ≤ i.toNatClampNeg then g else (ab_up g.1 c (.inl (0, n, .inl (upd f i.toNatClampNeg x))), g.2)) := by
  refine ab_X.of (by decide) (Nat.le_of_ble_eq_true rfl) ?_
  refine r_iload_n dX7_put_0 1 rfl ?_
  refine r_if_lt (t := 20) dX7_put_1 (by decide) (fun c1 => ?_) (fun c1 => ?_)
  · exact r_vret rfl dX7_put_20 ⟨rfl, by rw [if_pos (Or.inl c1)]⟩
  · refine r_iload_n dX7_put_4 1 rfl ?_
    refine r_aload_n dX7_put_5 0 rfl ?_
    refine m_get ok_X7 dX7_put_6 (k := 0) (by decide) fl_X7_21 h1 rfl ?_
    refine m_alen dX7_put_9 h2 ?_
    have hi := nI_ge_iff (n := n) c1 (by omega)
    refine r_icmp_ge (t := 20) dX7_put_10 (by decide) (fun c2 => ?_) (fun c2 => ?_)
    · exact r_vret rfl dX7_put_20 ⟨rfl, by rw [if_pos (Or.inr (hi.mp c2))]⟩
    · have hh : ¬ (i < 0 ∨ n ≤ i.toNatClampNeg) := fun q => q.elim c1 (fun q => c2 (hi.mpr q))
      refine r_aload_n dX7_put_13 0 rfl ?_
      refine m_get ok_X7 dX7_put_14 (k := 0) (by decide) fl_X7_21 h1 rfl ?_
      refine r_iload_n dX7_put_17 1 rfl ?_
      refine r_iload_n dX7_put_18 2 rfl ?_
      refine m_iast dX7_put_19 h2 hh ?_
      exact r_vret rfl dX7_put_20 ⟨rfl, by rw [if_neg hh]⟩
/-- how long a Row is behind stretch(len) -/
def rw_cap (n m : Nat) : Nat := if n < m ∧ m ≤ 270000 then min (max m (2 * n)) 270000 else n
theorem mm_stretch (h1 : g.1 a = some (.inr (6, [.ref c, .int u]))) (h2 : g.1 c = some (.inl (0, n, .inl f))) (hn : n ≤ 270000) (hc : c < g.2.1) (ha : a < g.2.1) (m : Nat) (hm : m < 2 ^ 31) :
    ab_X ab_I 2 mX7_stretch [.ref a, .int (nI m)] g none (if n < m ∧ m ≤ 270000 then (ab_up (ab_up g.1 g.2.1 (.inl (0, rw_cap n m, .inl (fun j => if j < n then f j else 0)))) a (.inr (6, [.ref g.2.1, .int u])), g.2.1 + 1, g.2.2.1 + 1, g.2.2.2.1 + rw_cap n m, g.2.2.2.2) else g) := by
  refine ab_X.of (by decide) (Nat.le_of_ble_eq_true rfl) ?_
  refine r_iload_n dX7_stretch_0 1 rfl ?_
  refine r_aload_n dX7_stretch_1 0 rfl ?_
  refine m_get ok_X7 dX7_stretch_2 (k := 0) (by decide) fl_X7_21 h1 rfl ?_
  refine m_alen dX7_stretch_5 h2 ?_
  refine r_icmp_le (t := 42) dX7_stretch_6 (by decide) (fun c1 => ?_) (fun c1 => ?_)
  · have hh := (nI_leI hm (by omega)).mp c1
    exact r_vret rfl dX7_stretch_42 ⟨rfl, by rw [if_neg (by omega)]⟩
  · have hnm : n < m := Nat.not_le.mp (fun q => c1 ((nI_leI hm (by omega)).mpr q))
    refine r_iload_n dX7_stretch_9 1 rfl ?_
    refine r_ldc (v := 270000) dX7_stretch_10 co_X7_17 ?_
    have hK : (270000 : Int32) = nI 270000 := by decide +kernel
    refine r_icmp_gt (t := 42) dX7_stretch_12 (by decide) (fun c2 => ?_) (fun c2 => ?_)
    · rw [hK] at c2
      have hh := (nI_ltI (by omega) hm).mp c2
      exact r_vret rfl dX7_stretch_42 ⟨rfl, by rw [if_neg (by omega)]⟩
    · have hmK : m ≤ 270000 := Nat.not_lt.mp (fun q => c2 (by rw [hK]; exact (nI_ltI (by omega) hm).mpr q))
      have hcap : rw_cap n m = min (max m (2 * n)) 270000 := by unfold rw_cap; rw [if_pos ⟨hnm, hmK⟩]
      refine r_aload_n dX7_stretch_15 0 rfl ?_
      refine r_aload_n dX7_stretch_16 0 rfl ?_
      refine m_get ok_X7 dX7_stretch_17 (k := 0) (by decide) fl_X7_21 h1 rfl ?_
      refine r_iload_n dX7_stretch_20 1 rfl ?_
      refine r_iconst (v := 2) dX7_stretch_21 (by decide) ?_
      refine r_aload_n dX7_stretch_22 0 rfl ?_
      refine m_get ok_X7 dX7_stretch_23 (k := 0) (by decide) fl_X7_21 h1 rfl ?_
      refine m_alen dX7_stretch_26 h2 ?_
      refine r_imul dX7_stretch_27 ?_
      refine r_max dX7_stretch_28 (by decide) ml_X7_9 ma_maxs ma_i ma_maxc (by simp [Value.category]) ?_
      refine r_ldc (v := 270000) dX7_stretch_31 co_X7_17 ?_
      refine r_min dX7_stretch_33 (by decide) ml_X7_18 ma_mins ma_i ma_minc (by simp [Value.category]) ?_
      have e2 : (2 : Int32) * nI n = nI (2 * n) := by
        have h2 : (2 : Int32) = nI 2 := by decide +kernel
        rw [h2, pk_mul]
      have e1 : (if (270000 : Int32) < (if nI m < 2 * nI n then 2 * nI n else nI m) then (270000 : Int32) else (if nI m < 2 * nI n then 2 * nI n else nI m)) = nI (rw_cap n m) := by
        rw [e2, hcap, hK]
        have e3 : (if nI m < nI (2 * n) then nI (2 * n) else nI m) = nI (max m (2 * n)) := by
          by_cases q : m < 2 * n
          · rw [if_pos ((nI_ltI hm (by omega)).mpr q), Nat.max_eq_right (by omega)]
          · rw [if_neg (fun z => q ((nI_ltI hm (by omega)).mp z)), Nat.max_eq_left (by omega)]
        rw [e3]
        by_cases q : 270000 < max m (2 * n)
        · rw [if_pos ((nI_ltI (by omega) (by omega)).mpr q), Nat.min_eq_right (by omega)]
        · rw [if_neg (fun z => q ((nI_ltI (by omega) (by omega)).mp z)), Nat.min_eq_left (by omega)]
      rw [e1]
      have hlt : n < rw_cap n m := by rw [hcap]; omega
      refine x_callS (Y := mJ7_copyOf_59c91) (d' := 1) dX7_stretch_36 ml_X7_33 ys_J7_copyOf_59c91 (by decide) rfl rfl (by simp [Value.category]) (mm_copyOf h2 hlt (by rw [hcap]; omega) (by omega)) ?_
      refine m_put ok_X7 dX7_stretch_39 (k := 0) (by decide) fl_X7_21 rfl rfl rfl (fs := [.ref c, .int u]) (Nat.le_of_ble_eq_true rfl) (by show ab_up g.1 g.2.1 _ a = _; rw [ab_up_n (by omega)]; exact h1) ?_
      exact r_vret rfl dX7_stretch_42 ⟨rfl, by rw [if_pos ⟨hnm, hmK⟩]; rfl⟩
end ROW
