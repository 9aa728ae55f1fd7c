/-! push and wipe: with the cells' places in sight -/
def sB (ad : Nat → Nat) (q : sS × (Nat → Nat)) (g : ab_S) : Prop := sA ad q.2 q.1 g
theorem ab_C.ofB {ad : Nat → Nat} {d : Nat} {Y : ab_M} {av : List Value} {σ : sS} {Q : Option Value → sS → Prop} (h : ∀ ar, ab_C (sB ad) d Y av (σ, ar) (fun r q => Q r q.1)) : ab_C (sR ad) d Y av σ Q := by
  rintro g ⟨ar, hg⟩
  obtain ⟨r, g', q, h1, h2, h3⟩ := h ar g hg
  exact ⟨r, g', q.1, h1, ⟨q.2, h2⟩, h3⟩
theorem ab_C.toB {ad ar : Nat → Nat} {d : Nat} {Y : ab_M} {av : List Value} {σ : sS} {Q : Option Value → sS → Prop} (h : ab_C (sR ad) d Y av σ Q) : ab_C (sB ad) d Y av (σ, ar) (fun r q => Q r q.1) := by
  intro g hg
  obtain ⟨r, g', σ', h1, ⟨ar', h2⟩, h3⟩ := h g ⟨ar, hg⟩
  exact ⟨r, g', (σ', ar'), h1, h2, h3⟩
theorem ab_E.kn {S : Type} {Rp : S → ab_S → Prop} {X : ab_M} {d pc : Nat} {lo : List (Nat × Value)} {st : List Value} {σ : S} {Q : Option Value → S → Prop} {P : Prop} (hP : ∀ g, Rp σ g → P) (h : P → ab_E Rp X d pc lo st σ Q) : ab_E Rp X d pc lo st σ Q := fun g hg => h (hP g hg) g hg
theorem ab_C.kn {S : Type} {Rp : S → ab_S → Prop} {Y : ab_M} {d : Nat} {av : List Value} {σ : S} {Q : Option Value → S → Prop} {P : Prop} (hP : ∀ g, Rp σ g → P) (h : P → ab_C Rp d Y av σ Q) : ab_C Rp d Y av σ Q := fun g hg => h (hP g hg) g hg
section SBR
variable {ad : Nat → Nat} {X : ab_M} {d pc idx r : Nat} {lo : List (Nat × Value)} {st : List Value} {q : sS × (Nat → Nat)} {Q : Option Value → sS × (Nat → Nat) → Prop} {i x : Int32}
theorem t_cells (hd : decode X.2.1 pc = .ok (.getfield idx, 3)) (hl : Cond.fieldLink X.1.cls idx (TX7 0).1 (TX7 0).2.1 (TX7 0).2.2.1 ∈ ab_tb) (hr : la r = (7, 0)) (K : ab_E (sB ad) X d (pc + 3) lo (.ref (q.2 r) :: st) q Q) : ab_E (sB ad) X d pc lo (.ref (ad r) :: st) q Q :=
  ab_E.hp (fun g hg => ⟨g, hg, fun r9 g' h => ab_R.get ok_X7 hd (k := 0) (by decide) hl (sA.row hg hr) rfl h⟩) K
theorem t_used (hd : decode X.2.1 pc = .ok (.getfield idx, 3)) (hl : Cond.fieldLink X.1.cls idx (TX7 1).1 (TX7 1).2.1 (TX7 1).2.2.1 ∈ ab_tb) (hr : la r = (7, 0)) (K : ab_E (sB ad) X d (pc + 3) lo (.int (vU q.1 r) :: st) q Q) : ab_E (sB ad) X d pc lo (.ref (ad r) :: st) q Q :=
  ab_E.hp (fun g hg => ⟨g, hg, fun r9 g' h => ab_R.get ok_X7 hd (k := 1) (by decide) hl (sA.row hg hr) rfl h⟩) K
theorem t_len (hd : decode X.2.1 pc = .ok (.arraylength, 1)) (hr : la r = (7, 0)) (K : ab_E (sB ad) X d (pc + 1) lo (.int (nI (vC q.1 r)) :: st) q Q) : ab_E (sB ad) X d pc lo (.ref (q.2 r) :: st) q Q :=
  ab_E.hp (fun g hg => ⟨g, hg, fun r9 g' h => by
    obtain ⟨f, f1, -⟩ := hg.2.1 r (by rw [hr])
    exact ab_R.alen (t0 := 0) (ty := .int) hd (fun _ => rfl) f1 h⟩) K
theorem t_iast (hd : decode X.2.1 pc = .ok (.iastore, 1)) (hr : la r = (7, 0)) (hin : vp_in i (vC q.1 r)) (K : ab_E (sB ad) X d (pc + 1) lo st (uI q.1 r i.toNatClampNeg x, q.2) Q) : ab_E (sB ad) X d pc lo (.int x :: .int i :: .ref (q.2 r) :: st) q Q :=
  ab_E.hp (fun g hg => by
    obtain ⟨f, f1, f2, f3, f4⟩ := hg.2.1 r (by rw [hr])
    exact ⟨_, sA_setW hg hr (Nat.not_le.mp (fun z => hin (Or.inr z))) f2, fun r9 g' h => ab_R.iast hd f1 hin h⟩) K
theorem t_putU (hd : decode X.2.1 pc = .ok (.putfield idx, 3)) (hl : Cond.fieldLink X.1.cls idx (TX7 1).1 (TX7 1).2.1 (TX7 1).2.2.1 ∈ ab_tb) (hr : la r = (7, 0)) (K : ab_E (sB ad) X d (pc + 3) lo st (uU q.1 r x, q.2) Q) : ab_E (sB ad) X d pc lo (.int x :: .ref (ad r) :: st) q Q :=
  ab_E.hp (fun g hg => by
    have h0 : (la r).1 ≠ 0 := la_ne hr (by decide)
    refine ⟨_, sA.setU hg h0 (ce_R hr).symm, fun r9 g' h => ?_⟩
    refine ab_R.put ok_X7 hd (k := 1) (by decide) hl rfl rfl rfl (fs := [.ref (q.2 r), .int (vU q.1 r)]) (Nat.le_refl 2) (sA.row hg hr) ?_
    have e1 : vU (uU q.1 r x) r = x := by simp [vU, uU, u1]
    rw [e1] at h
    exact h) K
theorem sB_is (hr : la r = (7, 0)) : ab_is (sB ad) q (ad r) RX7 := fun g hg => ⟨6, _, TX7, 2, sA.row hg hr, rfl⟩
end SBR
theorem rx_U {σ : sS} {r m b : Nat} : vU (rx σ r m) b = vU σ b := by
  unfold rx
  by_cases c : vC σ r < m ∧ m ≤ 270000
  · rw [if_pos c]; rfl
  · rw [if_neg c]
theorem rx_I {σ : sS} {r m : Nat} : vI (rx σ r m) = vI σ := by
  unfold rx
  by_cases c : vC σ r < m ∧ m ≤ 270000
  · rw [if_pos c]; rfl
  · rw [if_neg c]
theorem rx_C {σ : sS} {r m : Nat} : vC (rx σ r m) r = rw_cap (vC σ r) m := by
  unfold rx rw_cap
  by_cases c : vC σ r < m ∧ m ≤ 270000
  · rw [if_pos c, if_pos c]; simp [vC, uC, u1, rw_cap, c]
  · rw [if_neg c, if_neg c]
theorem rx_Cn {σ : sS} {r m b : Nat} (h : b ≠ r) : vC (rx σ r m) b = vC σ b := by
  unfold rx
  by_cases c : vC σ r < m ∧ m ≤ 270000
  · rw [if_pos c]; simp [vC, uC, u1, h]
  · rw [if_neg c]
theorem c_push {ad : Nat → Nat} {σ : sS} {r k : Nat} (hr : la r = (7, 0)) (hu : vU σ r = nI k) (hk : k < 2 ^ 30) (x : Int32) : ab_X (sR ad) 3 mX7_push [.ref (ad r), .int x] σ none (rq σ r k x) := by
  refine ab_C.ofB (fun ar => ?_)
  refine ab_C.kn (P := vC σ r ≤ 270000) (fun g hg => ?_) (fun hcap => ?_)
  · obtain ⟨f, -, -, -, f4⟩ := hg.2.1 r (by rw [hr])
    exact f4
  refine ab_C.of (by decide) (Nat.le_of_ble_eq_true rfl) ?_
  refine r_aload_n dX7_push_0 0 rfl ?_
  refine r_aload_n dX7_push_1 0 rfl ?_
  refine t_used dX7_push_2 fl_X7_25 hr ?_
  refine r_iconst (v := 1) dX7_push_5 (by decide) ?_
  refine r_iadd dX7_push_6 ?_
  show ab_E _ _ _ _ _ (.int (vU σ r + 1) :: _) _ _
  rw [hu, nI_1]
  refine r_callV (Y := mX7_stretch) (d' := 2) dX7_push_7 ml_X7_29 yv_X7_stretch (by decide) rfl rfl (by simp) (sB_is hr) (ab_C.toB (c_stretch hr (k + 1) (by omega))) (fun r9 q h => ?_)
  obtain ⟨τ, ar2⟩ := q
  obtain ⟨h9, hτ⟩ := h
  subst h9
  have hτ : τ = rx σ r (k + 1) := hτ
  subst hτ
  have hu2 : vU (rx σ r (k + 1)) r = nI k := rx_U.trans hu
  have hc2 : vC (rx σ r (k + 1)) r ≤ 270000 := by rw [rx_C]; exact (rw_cap_le hcap).1
  refine r_aload_n dX7_push_10 0 rfl ?_
  refine t_used dX7_push_11 fl_X7_25 hr ?_
  refine r_aload_n dX7_push_14 0 rfl ?_
  refine t_cells dX7_push_15 fl_X7_21 hr ?_
  refine t_len dX7_push_18 hr ?_
  show ab_E _ _ _ _ _ (_ :: .int (vU (rx σ r (k + 1)) r) :: _) _ _
  rw [hu2]
  refine r_icmp_ge (t := 42) dX7_push_19 (by decide) (fun c1 => ?_) (fun c1 => ?_)
  · have hh := (nI_leI (by show vC (rx σ r (k + 1)) r < _; omega) (by omega)).mp c1
    refine r_vret rfl dX7_push_42 ⟨rfl, ?_⟩
    show rx σ r (k + 1) = rq σ r k x
    unfold rq
    rw [if_neg (Nat.not_lt.mpr hh)]
  · have hh : k < vC (rx σ r (k + 1)) r := Nat.not_le.mp (fun z => c1 ((nI_leI (by show vC (rx σ r (k + 1)) r < _; omega) (by omega)).mpr z))
    refine r_aload_n dX7_push_22 0 rfl ?_
    refine t_cells dX7_push_23 fl_X7_21 hr ?_
    refine r_aload_n dX7_push_26 0 rfl ?_
    refine t_used dX7_push_27 fl_X7_25 hr ?_
    show ab_E _ _ _ _ _ (.int (vU (rx σ r (k + 1)) r) :: _) _ _
    rw [hu2]
    refine r_iload_n dX7_push_30 1 rfl ?_
    refine t_iast dX7_push_31 hr (vp_in_nI hh (by show vC (rx σ r (k + 1)) r < _; omega)) ?_
    rw [nI_clamp (by omega)]
    refine r_aload_n dX7_push_32 0 rfl ?_
    refine r_dup dX7_push_33 rfl ?_
    refine t_used dX7_push_34 fl_X7_25 hr ?_
    refine r_iconst (v := 1) dX7_push_37 (by decide) ?_
    refine r_iadd dX7_push_38 ?_
    show ab_E _ _ _ _ _ (.int (vU (rx σ r (k + 1)) r + 1) :: _) _ _
    rw [hu2, nI_1]
    refine t_putU dX7_push_39 fl_X7_25 hr ?_
    refine r_vret rfl dX7_push_42 ⟨rfl, ?_⟩
    show uU (uI (rx σ r (k + 1)) r k x) r (nI (k + 1)) = rq σ r k x
    unfold rq
    rw [if_pos hh]
theorem uZ_step {σ : sS} {r i : Nat} : uI (uZ σ r i) r i 0 = uZ σ r (i + 1) := by
  unfold uI uZ
  congr 1
  funext b j
  by_cases hb : b = r
  · subst hb
    by_cases hj : j = i
    · subst hj
      rw [u2_s, if_pos ⟨rfl, by omega⟩]
    · rw [u2_n (Or.inr hj)]
      by_cases h2 : j < i
      · show (if b = b ∧ j < i then 0 else σ.1 b j) = _
        rw [if_pos ⟨rfl, h2⟩, if_pos ⟨rfl, by omega⟩]
      · show (if b = b ∧ j < i then 0 else σ.1 b j) = _
        rw [if_neg (fun q => h2 q.2), if_neg (fun q => by omega)]
  · rw [u2_n (Or.inl hb)]
    show (if b = r ∧ j < i then 0 else σ.1 b j) = _
    rw [if_neg (fun q => hb q.1), if_neg (fun q => hb q.1)]
theorem uZ_0 {σ : sS} {r : Nat} : uZ σ r 0 = σ := by
  unfold uZ
  have : (fun b j => if b = r ∧ j < 0 then (0 : Int32) else σ.1 b j) = σ.1 := by
    funext b j
    rw [if_neg (fun q => by omega)]
  rw [this]
theorem uZ_ge {σ : sS} {r i m : Nat} (h : ∀ j, i ≤ j → vI σ r j = 0) (him : i ≤ m) : uZ σ r i = uZ σ r m := by
  unfold uZ
  congr 1
  funext b j
  by_cases hb : b = r
  · subst hb
    by_cases h1 : j < i
    · rw [if_pos ⟨rfl, h1⟩, if_pos ⟨rfl, by omega⟩]
    · rw [if_neg (fun q => h1 q.2)]
      by_cases h2 : j < m
      · rw [if_pos ⟨rfl, h2⟩]; exact h j (by omega)
      · rw [if_neg (fun q => h2 q.2)]
  · rw [if_neg (fun q => hb q.1), if_neg (fun q => hb q.1)]
theorem wipe_loop {ad ar : Nat → Nat} {τ : sS} {r m : Nat} (hr : la r = (7, 0)) (hm : m < 2 ^ 30) (hc : vC τ r ≤ 270000) (h0 : ∀ j, vC τ r ≤ j → vI τ r j = 0) :
    ∀ (n i : Nat), i + n = m → ab_E (sB ad) mX7_wipe 3 7 [(2, .int (nI i)), (0, .ref (ad r)), (1, .int (nI m))] [] (uZ τ r i, ar) (fun r9 q => r9 = none ∧ q.1 = uU (uZ τ r m) r 0) := by
  intro n
  induction n with
  | zero =>
    intro i hi
    have hi : i = m := by omega
    subst hi
    refine r_iload_n dX7_wipe_7 0 rfl ?_
    refine r_iload_n dX7_wipe_8 2 rfl ?_
    refine r_icmp_ge (t := 34) dX7_wipe_9 (by decide) (fun _ => ?_) (fun c => absurd (nI_le (Nat.le_refl i) (by omega)) c)
    refine r_aload_n dX7_wipe_34 1 rfl ?_
    refine r_iconst (v := 0) dX7_wipe_35 (by decide) ?_
    refine t_putU dX7_wipe_36 fl_X7_25 hr ?_
    exact r_vret rfl dX7_wipe_39 ⟨rfl, rfl⟩
  | succ n ih =>
    intro i hi
    refine r_iload_n dX7_wipe_7 0 rfl ?_
    refine r_iload_n dX7_wipe_8 2 rfl ?_
    refine r_icmp_ge (t := 34) dX7_wipe_9 (by decide) (fun c => absurd ((nI_leI (by omega) (by omega)).mp c) (by omega)) (fun _ => ?_)
    refine r_iload_n dX7_wipe_12 0 rfl ?_
    refine r_aload_n dX7_wipe_13 1 rfl ?_
    refine t_cells dX7_wipe_14 fl_X7_21 hr ?_
    refine t_len dX7_wipe_17 hr ?_
    show ab_E _ _ _ _ _ (.int (nI (vC τ r)) :: _) _ _
    refine r_icmp_ge (t := 34) dX7_wipe_18 (by decide) (fun c => ?_) (fun c => ?_)
    · have hh := (nI_leI (by omega) (by omega)).mp c
      refine r_aload_n dX7_wipe_34 1 rfl ?_
      refine r_iconst (v := 0) dX7_wipe_35 (by decide) ?_
      refine t_putU dX7_wipe_36 fl_X7_25 hr ?_
      refine r_vret rfl dX7_wipe_39 ⟨rfl, ?_⟩
      show uU (uZ τ r i) r 0 = uU (uZ τ r m) r 0
      rw [uZ_ge (m := m) (fun j hj => h0 j (by omega)) (by omega)]
    · have hh : i < vC τ r := Nat.not_le.mp (fun z => c ((nI_leI (by omega) (by omega)).mpr z))
      refine r_aload_n dX7_wipe_21 1 rfl ?_
      refine t_cells dX7_wipe_22 fl_X7_21 hr ?_
      refine r_iload_n dX7_wipe_25 0 rfl ?_
      refine r_iconst (v := 0) dX7_wipe_26 (by decide) ?_
      refine t_iast dX7_wipe_27 hr (show vp_in (nI i) (vC τ r) from vp_in_nI hh (by omega)) ?_
      rw [nI_clamp (by omega)]
      show ab_E _ _ _ _ _ _ (uI (uZ τ r i) r i 0, ar) _
      rw [uZ_step]
      refine r_iinc (v := nI (i + 1)) (lo' := [(2, .int (nI (i + 1))), (0, .ref (ad r)), (1, .int (nI m))]) dX7_wipe_28 0 rfl (nI_1 i) (by decide) rfl ?_
      refine r_goto (t := 7) dX7_wipe_31 (by decide) ?_
      exact ih (i + 1) (by omega)
theorem c_wipe {ad : Nat → Nat} {σ : sS} {r : Nat} (hr : la r = (7, 0)) (m : Nat) (hm : m < 2 ^ 30) : ab_X (sR ad) 3 mX7_wipe [.ref (ad r), .int (nI m)] σ none (rz σ r m) := by
  refine ab_C.ofB (fun ar => ?_)
  refine ab_C.kn (P := vC σ r ≤ 270000 ∧ ∀ j, vC σ r ≤ j → vI σ r j = 0) (fun g hg => ?_) (fun hcap => ?_)
  · obtain ⟨f, -, -, f3, f4⟩ := hg.2.1 r (by rw [hr])
    exact ⟨f4, f3⟩
  refine ab_C.of (by decide) (Nat.le_of_ble_eq_true rfl) ?_
  refine r_aload_n dX7_wipe_0 0 rfl ?_
  refine r_iload_n dX7_wipe_1 1 rfl ?_
  refine r_callV (Y := mX7_stretch) (d' := 2) dX7_wipe_2 ml_X7_29 yv_X7_stretch (by decide) rfl rfl (by simp) (sB_is hr) (ab_C.toB (c_stretch hr m (by omega))) (fun r9 q h => ?_)
  obtain ⟨τ, ar2⟩ := q
  obtain ⟨h9, hτ⟩ := h
  subst h9
  have hτ : τ = rx σ r m := hτ
  subst hτ
  refine r_iconst (v := 0) dX7_wipe_5 (by decide) ?_
  refine r_istore_n (lo' := [(2, .int (nI 0)), (0, .ref (ad r)), (1, .int (nI m))]) dX7_wipe_6 (by decide) rfl ?_
  have h := wipe_loop (ad := ad) (ar := ar2) (τ := rx σ r m) hr hm (by rw [rx_C]; exact (rw_cap_le hcap.1).1) (fun j hj => by rw [rx_I]; rw [rx_C] at hj; exact hcap.2 j (Nat.le_trans (rw_cap_le hcap.1).2 hj)) m 0 (by omega)
  rw [uZ_0] at h
  exact h
