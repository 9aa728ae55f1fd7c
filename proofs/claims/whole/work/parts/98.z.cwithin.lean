/-! within: the component -/
theorem h_mb_ok {a c N Lc : Nat} (ha : la a = (1, 0)) : ∀ (k v : Nat) (σ : sS), h_ok a c N Lc σ → h_ok a c N Lc (h_mb a c N Lc k v σ).2 := by
  intro k
  induction k with
  | zero => intro v σ h; exact h
  | succ k ih =>
    intro v σ h
    rw [h_mb]
    split
    · exact h
    · split
      · exact h_o_ok ha _ _ _ h
      · exact ih _ _ (h_o_ok ha _ _ _ h)
def fl6 (X i : Nat) : List Nat := ((List.range i).filter (fun t => X.testBit t)).map (fun t => t * 600)
theorem fl6_s {X i : Nat} : fl6 X (i + 1) = fl6 X i ++ (if X.testBit i = true then [i * 600] else []) := by
  unfold fl6
  rw [List.range_succ, List.filter_append, List.map_append]
  congr 1
  by_cases c : X.testBit i = true
  · rw [if_pos c, List.filter_cons_of_pos c]
    rfl
  · rw [if_neg c, List.filter_cons_of_neg c]
    rfl
theorem fl6_m {X i c : Nat} (h : c ∈ fl6 X i) : ∃ t, t < i ∧ c = t * 600 := by
  obtain ⟨t, t1, t2⟩ := List.mem_map.mp h
  exact ⟨t, List.mem_range.mp (List.mem_filter.mp t1).1, t2.symm⟩
theorem fl6_l {X i : Nat} : (fl6 X i).length ≤ i := by
  unfold fl6
  rw [List.length_map]
  exact Nat.le_trans (List.length_filter_le _ _) (by rw [List.length_range]; exact Nat.le_refl _)
theorem fl6_4 : ∀ N, N < 5 → ∀ X, X < 16 → X < 2 ^ N → fl6 X N = (sts X).map (fun t => t * 600) := by decide +kernel
theorem y_hma {B : Nat × Nat} {M M' : aM} {v : zS × (Nat → Nat)} {g a b : Nat} (ha : a < 3) (hb : b < 3) (hO : cO M' g v) : ∀ (k i : Nat) (τ : sS), i + k = mN M → cAC M v g a b τ → cT3 B M v (fl6 (mB M) i) τ → cT3 B M v (fl6 (mB M) (mN M)) (h_ma (27 + a) (33 + b) k i τ) ∧ trl τ (h_ma (27 + a) (33 + b) k i τ) := by
  intro k
  induction k with
  | zero =>
    intro i τ hi hA h
    rw [show i = mN M by omega] at h
    exact ⟨h, trl.rf⟩
  | succ k ih =>
    intro i τ hi hA h
    rw [h_ma]
    have hM := hA.1.1
    have p4 : 2 ^ mN M ≤ 2 ^ 4 := Nat.pow_le_pow_right (by decide) hM.2.1
    have hN4 := hM.2.1
    have hB := hM.2.2.1
    have e3 : vI τ (27 + a) 3 = nI (mB M) := hA.1.2.2.2.1
    have hq := b_qin (X := mB M) (t := i) (by omega) (by omega)
    rw [e3]
    by_cases c : (mB M).testBit i = true
    · rw [if_neg (fun z => by rw [hq.mp z] at c; exact nomatch c)]
      have eco : h_co (nI i) 0 0 = nI (i * 600) := by
        unfold h_co
        rw [show (300 : Int32) = nI 300 from rfl, show (2 : Int32) = nI 2 from rfl, show (0 : Int32) = nI 0 from rfl, nI_mul, nI_add, nI_mul, nI_add]
        congr 1
        omega
      have hl := fl6_l (X := mB M) (i := i)
      rw [eco]
      obtain ⟨r1, r2⟩ := y_en3 (c := i * 600) hA ha hb hO h (by omega) (by omega) ⟨by unfold cdS; omega, by have := hO.1.1; unfold cdN; omega⟩ (fun q => by
        obtain ⟨t, t1, t2⟩ := fl6_m q
        omega)
      have hA2 : cAC M v g a b (h_en (27 + a) (33 + b) τ (nI (i * 600))) := hA.t ha hb (fun r hr => (r2.1 r (by omega)).1)
      have e : fl6 (mB M) (i + 1) = fl6 (mB M) i ++ [i * 600] := by rw [fl6_s, if_pos c]
      obtain ⟨s1, s2⟩ := ih (i + 1) _ (by omega) hA2 (by rw [e]; exact r1)
      exact ⟨s1, r2.tr s2⟩
    · have cf : (mB M).testBit i = false := by
        cases h : (mB M).testBit i with
        | false => rfl
        | true => exact absurd h c
      rw [if_pos (hq.mpr cf)]
      exact ih (i + 1) τ (by omega) hA (by rw [fl6_s, if_neg c, List.append_nil]; exact h)
theorem h_m0P {B : Nat × Nat} {M : aM} {v : zS × (Nat → Nat)} {a c : Nat} {σ : sS} (hR : Rm B σ) : cT3 B M v [] (h_m0 a c σ) ∧ trl σ (h_m0 a c σ) := by
  unfold h_m0
  have R1 : Rm B (uR (uR σ 50 5 (some a)) 50 6 (some c)) := hR.c rfl
  have R2 := R1.rz (r := 51) (m := 2400) (by decide) (Or.inl (by decide))
  have f0 : ∀ b, b ≠ 50 → (uR (uR σ 50 5 (some a)) 50 6 (some c)).2.2.1 b = σ.2.2.1 b := fun b hb => funext fun k => by
    show u2 (u2 σ.2.2.1 50 5 (some a)) 50 6 (some c) b k = _
    unfold u2
    rw [if_neg (fun q => hb q.1), if_neg (fun q => hb q.1)]
  have f1 : ∀ b j, vI (uR (uR σ 50 5 (some a)) 50 6 (some c)) b j = vI σ b j := fun _ _ => rfl
  have f2 : ∀ b, vU (uR (uR σ 50 5 (some a)) 50 6 (some c)) b = vU σ b ∧ vC (uR (uR σ 50 5 (some a)) 50 6 (some c)) b = vC σ b := fun _ => ⟨rfl, rfl⟩
  have f3 : (uR (uR σ 50 5 (some a)) 50 6 (some c)).2.1 = σ.2.1 := rfl
  generalize uR (uR σ 50 5 (some a)) 50 6 (some c) = σ1 at R1 R2 f0 f1 f2 f3
  obtain ⟨z1, z2, z3, z4, z5, z6, z7⟩ := rz_at (σ := σ1) (r := 51) (m := 2400)
  have cap := rx_cap (σ := σ1) (r := 51) (m := 2400) (by decide)
  have cn : ∀ b, b ≠ 51 → vC (rz σ1 51 2400) b = vC σ1 b := fun b hb => (z3 b).trans (rx_Cn hb)
  rw [← z3 51] at cap
  generalize rz σ1 51 2400 = σ2 at R2 z1 z2 z3 z4 z5 z6 z7 cap cn
  refine ⟨⟨vI_e, fun r h1 h2 => ?_, fun i hi => (nomatch hi), fun d hd => ?_, cap, R2.c rfl⟩, fun b hb => ⟨?_, ?_, ?_⟩, ?_, fun b hb => ?_⟩
  · show vU (uU (uU (uU (uU σ2 52 0) 53 0) 54 0) 55 0) r = 0
    rcases (by omega : r = 52 ∨ r = 53 ∨ r = 54 ∨ r = 55) with e | e | e | e
    · rw [e]; rfl
    · rw [e]; rfl
    · rw [e]; rfl
    · rw [e]; rfl
  · rw [vI_q (fun q => absurd q.1 (by decide)), if_neg (fun q => nomatch q)]
    exact z1 d hd
  · rw [vI_r (by omega)]
    exact funext fun j => (z2 b j (by omega)).trans (f1 b j)
  · show vU (uU (uU (uU (uU σ2 52 0) 53 0) 54 0) 55 0) b = _
    rw [vU_n (by omega), vU_n (by omega), vU_n (by omega), vU_n (by omega), z7 b (by omega), (f2 b).1]
  · exact (cn b (by omega)).trans (f2 b).2
  · exact z4.trans f3
  · show σ2.2.2.1 b = _
    rw [z5]; exact f0 b hb
/-- all threes, as the component holds them in the end -/
def cTf (B : Nat × Nat) (M : aM) (v : zS × (Nat → Nat)) (Q : List Nat) (τ : sS) : Prop := cT3 B M v Q τ ∧ vI τ 50 7 = nI (sts (mB M)).length
theorem y_mAll {B : Nat × Nat} {M M' : aM} {v : zS × (Nat → Nat)} {g a b : Nat} {σ : sS} (ha : a < 3) (hb : b < 3) (hO : cO M' g v) (h3 : sM3 v.2 (zN v.1 * g)) (hg : g ≤ 3) (hA : cAC M v g a b σ) (hR : Rm B σ) : match thr M v g with
    | none => ∃ τ, L_X10_meetAll (27 + a) (33 + b) σ = some (0, τ) ∧ trl σ τ ∧ Rm B τ
    | some z => ∃ τ, L_X10_meetAll (27 + a) (33 + b) σ = some (1, τ) ∧ trl σ τ ∧ cTf B M v z.1 τ ∧ h_d (27 + a) (33 + b) τ := by
  have hM := hA.1.1
  have p4 : 2 ^ mN M ≤ 2 ^ 4 := Nat.pow_le_pow_right (by decide) hM.2.1
  have hN4 := hM.2.1
  have hB := hM.2.2.1
  have lim4 : ∀ {τ : sS} {r : Nat}, Rm B τ → r ∈ [52, 53, 54, 55] → vC τ r ≤ 270000 := fun {τ r} h hr => Nat.le_trans (h.1 r ((by decide : ∀ r ∈ [52, 53, 54, 55], r ∈ grR) r hr)) ((by decide : ∀ r ∈ [52, 53, 54, 55], lim r ≤ 270000) r hr)
  have c4 : h_c4 σ := ⟨lim4 hR (by decide), lim4 hR (by decide), lim4 hR (by decide), lim4 hR (by decide)⟩
  have e1 : vI σ (27 + a) 1 = nI (mN M) := hA.1.2.1
  have e2 : vI σ (27 + a) 2 = nI g := hA.1.2.2.1
  have cl : ∀ {x n : Nat}, x ≤ n → x < 2 ^ 31 → clm (nI x) n = true := fun h h2 => by
    unfold clm
    rw [nI_clamp h2, decide_eq_true (nI_pos' h2), decide_eq_true h]
    rfl
  have gd : (clm (vI σ (27 + a) 1) 4 && (clm (vI σ (27 + a) 2) 3 && h_cb σ)) = true := by
    rw [e1, e2, cl hN4 (by omega), cl hg (by omega)]
    unfold h_cb
    rw [decide_eq_true c4.1, decide_eq_true c4.2.1, decide_eq_true c4.2.2.1, decide_eq_true c4.2.2.2]
    rfl
  have e0 : L_X10_meetAll (27 + a) (33 + b) σ = some (h_ans (h_all (27 + a) (33 + b) (mN M) g σ), (h_all (27 + a) (33 + b) (mN M) g σ).2) := by
    unfold L_X10_meetAll
    rw [gd, grd_s, e1, e2, nI_clamp (by omega), nI_clamp (by omega)]
  have la1 : la (27 + a) = (1, 0) := isAu_of (isAu_n ha)
  obtain ⟨m1, m2⟩ := h_m0P (M := M) (v := v) (a := 27 + a) (c := 33 + b) hR
  have k0 := h_m0_ok (c := 33 + b) la1 e1 e2 c4
  have hA1 : cAC M v g a b (h_m0 (27 + a) (33 + b) σ) := hA.t ha hb (fun r hr => (m2.1 r (by omega)).1)
  obtain ⟨n1, n2⟩ := y_hma ha hb hO (mN M) 0 _ (by omega) hA1 m1
  have k1 := h_ma_ok la1 (mN M) 0 _ k0
  have ej : (j0 M).1 = fl6 (mB M) (mN M) := (fl6_4 (mN M) (by omega) (mB M) (by omega) hB).symm
  have hA2 : cAC M v g a b (h_ma (27 + a) (33 + b) (mN M) 0 (h_m0 (27 + a) (33 + b) σ)) := hA1.t ha hb (fun r hr => (n2.1 r (by omega)).1)
  rw [← ej] at n1
  rw [e0]
  unfold h_all h_m1
  generalize h_ma (27 + a) (33 + b) (mN M) 0 (h_m0 (27 + a) (33 + b) σ) = σ1 at n1 n2 k1 hA2
  have u1 : trl σ1 (uI σ1 50 7 (vI σ1 50 8)) := ⟨fun r hr => ⟨vI_r (by omega), rfl, rfl⟩, rfl, fun _ _ => rfl⟩
  have t1 : trl σ (uI σ1 50 7 (vI σ1 50 8)) := (m2.tr n2).tr u1
  have k2 := h_ok.aI la1 (k := 7) (x := vI σ1 50 8) k1
  have jl : (j0 M).1.length = (sts (mB M)).length := by
    show ((sts (mB M)).map (fun t => t * 600)).length = _
    rw [List.length_map]
  have e57 : vI (uI σ1 50 7 (vI σ1 50 8)) 50 7 = nI (sts (mB M)).length := by
    rw [vI_e, n1.1, jl]
  have T1 : cT3 B M v (j0 M).1 (uI σ1 50 7 (vI σ1 50 8)) := by
    obtain ⟨q1, q2, q3, q4, q5, q6⟩ := n1
    refine ⟨?_, q2, fun i hi => ?_, fun d hd => ?_, q5, q6.c rfl⟩
    · rw [vI_q (fun q => absurd q.2 (by decide))]; exact q1
    · rw [vI_q (fun q => absurd q.1 (by decide)), vI_q (fun q => absurd q.1 (by decide)), vI_q (fun q => absurd q.1 (by decide)), vI_q (fun q => absurd q.1 (by decide))]
      exact q3 i hi
    · rw [vI_q (fun q => absurd q.1 (by decide))]; exact q4 d hd
  have hA3 : cAC M v g a b (uI σ1 50 7 (vI σ1 50 8)) := hA2.t ha hb (fun r hr => (u1.1 r (by omega)).1)
  generalize uI σ1 50 7 (vI σ1 50 8) = σ2 at t1 k2 e57 T1 hA3
  obtain ⟨jk1, jk2⟩ := j0_ok (M := M) (by omega)
  have hV0 : ∀ c, c ∈ (j0 M).1 → cV M v c := fun c hc => by
    obtain ⟨t, t1, t2, t3⟩ := jk2 c hc
    have := tb_lt hB t2
    have hN := hO.1.1
    rw [t3]
    exact ⟨by unfold cdS; omega, by unfold cdN; omega⟩
  have I := y_hB (B := B) (a := a) (b := b) ha hb hM hO hg 3001 1000 0 (j0 M) σ2 (by omega) (by omega) (Nat.zero_le _) hA3 T1 jk1 hV0
  have k3 := h_mb_ok (Lc := g) la1 1000 0 σ2 k2
  have k7 : ∀ (k p : Nat) (τ : sS), vI (h_mb (27 + a) (33 + b) (mN M) g k p τ).2 50 7 = vI τ 50 7 := by
    have en7 : ∀ (τ : sS) (x : Int32), vI (h_en (27 + a) (33 + b) τ x) 50 7 = vI τ 50 7 := by
      intro τ x
      unfold h_en
      split
      · unfold h_e3 h_e2 h_e1
        rw [rp_I (by decide), vI_q (fun q => absurd q.2 (by decide)), rqu_f.1 _ _ (by decide), rqu_f.1 _ _ (by decide), rqu_f.1 _ _ (by decide), rqu_f.1 _ _ (by decide)]
      · rfl
    have i7 : ∀ (x y : Int32) (k p : Nat) (τ : sS), vI (h_i (27 + a) (33 + b) (mN M) x y k p τ).2 50 7 = vI τ 50 7 := by
      intro x y k
      induction k with
      | zero => intro p τ; rfl
      | succ k ih =>
        intro p τ
        rw [h_i]
        split
        · split
          · exact en7 _ _
          · exact (ih _ _).trans (en7 _ _)
        · exact ih _ _
    have o7 : ∀ (x : Int32) (k p : Nat) (τ : sS), vI (h_o (27 + a) (33 + b) (mN M) x k p τ).2 50 7 = vI τ 50 7 := by
      intro x k
      induction k with
      | zero => intro p τ; rfl
      | succ k ih =>
        intro p τ
        rw [h_o]
        split
        · exact i7 _ _ _ _ _
        · exact (ih _ _).trans (i7 _ _ _ _ _)
    intro k
    induction k with
    | zero => intro p τ; rfl
    | succ k ih =>
      intro p τ
      rw [h_mb]
      split
      · rfl
      · split
        · exact o7 _ _ _ _
        · exact (ih _ _).trans (o7 _ _ _ _)
  have k8 := k7 1000 0 σ2
  have et : thr M v g = jA (elB (bC M v g) g) 3001 0 (j0 M) := rfl
  rw [et]
  revert I
  cases jA (elB (bC M v g) g) 3001 0 (j0 M) with
  | none =>
    rintro ⟨τ, i1, i2, i3⟩
    rw [i1]
    exact ⟨τ, rfl, t1.tr i2, i3⟩
  | some z =>
    rintro ⟨τ, i1, i2, i3⟩
    rw [i1] at k3 k8
    rw [i1]
    exact ⟨τ, rfl, t1.tr i2, ⟨i3, k8.trans e57⟩, k3.1⟩
def cTg (M : aM) (v : zS × (Nat → Nat)) (Q : List Nat) (τ : sS) : Prop := vI τ 50 8 = nI Q.length ∧ cTr M v Q τ ∧ (∀ c, c < 2400 → vI τ 51 c = if c ∈ Q then nI (idx c Q + 1) else 0) ∧ vI τ 50 7 = nI (sts (mB M)).length
theorem cTg.t {M : aM} {v : zS × (Nat → Nat)} {Q : List Nat} {σ τ : sS} (h : cTg M v Q σ) (f : ∀ r, (49 < r ∧ r < 56) → vI τ r = vI σ r) : cTg M v Q τ := by
  obtain ⟨h1, h2, h3, h4⟩ := h
  refine ⟨by rw [f _ (by omega)]; exact h1, fun i hi => ?_, fun c hc => by rw [f _ (by omega)]; exact h3 c hc, by rw [f _ (by omega)]; exact h4⟩
  rw [f 52 (by omega), f 53 (by omega), f 54 (by omega), f 55 (by omega)]
  exact h2 i hi
/-- the component's graph of threes -/
theorem y_G2 {M M' : aM} {v : zS × (Nat → Nat)} {g a b : Nat} {z : List Nat × bS} {τ : sS} (hA : cAC M v g a b τ) (hO : cO M' g v) (h3 : sM3 v.2 (zN v.1 * g)) (hg : g ≤ 3) (ht : thr M v g = some z) (h : cTg M v z.1 τ) : gSt (G2 M v g z.1) h_F (h_N (27 + a) (33 + b)) (h_E (27 + a) (33 + b) (mN M)) h_M τ ∧ h_V τ [] = nI (GN (G2 M v g z.1)) ∧ h_L (27 + a) τ [] = nI (GL (G2 M v g z.1)) := by
  obtain ⟨h1, hr, h51, h7⟩ := h
  have hM := hA.1.1
  have p4 : 2 ^ mN M ≤ 2 ^ 4 := Nat.pow_le_pow_right (by decide) hM.2.1
  have hN4 := hM.2.1
  obtain ⟨t1, t2, t3, t4, t5, t6⟩ := thr_ok hM hO h3 hg ht
  have hl := t1.2.1
  refine ⟨fun p hp => ?_, h1, hA.1.2.2.1⟩
  have hp : p < z.1.length := hp
  have pV := t2 _ (getD_mem hp)
  obtain ⟨r1, r2, r3, r4⟩ := hr p hp
  refine ⟨?_, ?_, fun s hs => ⟨?_, fun i hi => ?_⟩⟩
  · show (if vI τ 50 7 ≤ nI p then (0 : Int32) else 1) = 0 ↔ decide (p < (sts (mB M)).length) = false
    rw [h7]
    by_cases c : p < (sts (mB M)).length
    · rw [if_neg (nI_ge c (by omega)), decide_eq_true c]
      exact ⟨fun q => absurd q (by decide), fun q => nomatch q⟩
    · rw [if_pos (nI_le (by omega) (by omega)), decide_eq_false c]
      exact ⟨fun _ => rfl, fun _ => rfl⟩
  · show (if rg τ 54 (nI p) = 0 then (0 : Int32) else 1) = 0 ↔ tMk v (z.1.getD p 0) = false
    rw [rg_nI (by omega), r3]
    cases tMk v (z.1.getD p 0)
    · exact ⟨fun _ => rfl, fun _ => by decide⟩
    · exact ⟨fun q => absurd q (by decide), fun q => nomatch q⟩
  · have hs : s < g := hs
    have hX : mE M s (cdS (z.1.getD p 0)) < 16 := Nat.lt_of_lt_of_le (hM.2.2.2.2.1 s _) p4
    show bc (a_ar τ (27 + a) (rg τ 52 (nI p)) (nI s)) * p_fn τ (33 + b) (rg τ 53 (nI p)) (nI s) = nI (gsB (bT M v g z.1) p s).length
    rw [rg_nI (by omega), rg_nI (by omega), r1, r2, y_arM hA.1 (by omega) (by have := pV.1; omega), b_bc _ hX, y_fn hA.2.1 hO hg hA.2.2 pV.2 hs, nI_mul]
    unfold gsB
    rw [fmr_len]
    rfl
  · have hs : s < g := hs
    have hi : i < (gsB (bT M v g z.1) p s).length := hi
    have hi2 : i < (gsB (bC M v g) (z.1.getD p 0) s).length := by
      unfold gsB at hi ⊢
      rw [fmr_len] at hi ⊢
      exact hi
    have eca := y_cd3 hA hO hg hr hp hl pV hs hi2
    show rg τ 51 (h_ca (27 + a) (33 + b) (mN M) τ (nI p) (nI s) (nI i)) - 1 = nI ((gsB (bT M v g z.1) p s).getD i 0)
    have em : (gsB (bC M v g) (z.1.getD p 0) s).getD i 0 ∈ gsB (bC M v g) (z.1.getD p 0) s := getD_mem hi2
    obtain ⟨u, j, u1, u2, u3⟩ := gsB_m.mp em
    obtain ⟨-, -, -, -, bv5⟩ := bC_V hM hO pV hs u1 u2
    have inQ := t3 _ (getD_mem hp) _ (elB_mem.mpr ⟨s, u, j, hs, u1, u2, rfl⟩)
    have inQ : (bC M v g (z.1.getD p 0) s).2.2 u j ∈ z.1 := inQ
    rw [← u3] at bv5 inQ
    have ei : (gsB (bT M v g z.1) p s).getD i 0 = idx ((gsB (bC M v g) (z.1.getD p 0) s).getD i 0) z.1 := by
      have hT : i < (bT M v g z.1 p s).1.length * (bT M v g z.1 p s).2.1 := by
        unfold gsB at hi
        rw [fmr_len] at hi
        exact hi
      have hC2 : i < (bC M v g (z.1.getD p 0) s).1.length * (bC M v g (z.1.getD p 0) s).2.1 := hT
      unfold gsB
      rw [fmr_at _ i hT, fmr_at _ i hC2]
      rfl
    rw [eca, rg_nI (by omega), h51 _ bv5, if_pos inQ, nI_pred, ei]
def aThr (A : aS) (x : Int32) : aS := (A.1, A.2.1, A.2.2.1, (aSh A, x))
noncomputable def sp_within (A : aS) (a b : Int32) : Int32 × aS := if aOk (aC A) a = true ∧ aOk (aC A) b = true then (match cpl (aMa A b.toNatClampNeg) (aG A) with
  | none => aRef A 3
  | some v => (match thr (aMa A a.toNatClampNeg) v (aG A) with
    | none => aRef A 3
    | some z => shA (aThr A (nI z.1.length)) (gSh (G2 (aMa A a.toNatClampNeg) v (aG A) z.1) (elB (bT (aMa A a.toNatClampNeg) v (aG A) z.1) (aG A))))) else aRef A 1
theorem CI.tr3 {B : cB} {A : aS} {σ τ : sS} (h : CI B A σ) (f : trl σ τ) (hR : Rm B.1 τ) : CI B A τ := by
  have hs : cShw (aSh A) τ := by
    have h0 : cS0 A σ := h.1.2.2.2
    unfold cS0 at h0
    unfold cShw
    rw [(f.1 56 (by omega)).1, (f.1 61 (by omega)).1]
    exact h0
  exact h.j (o := aSh A) (fun b k hb => by rw [(f.1 b (by omega)).1]) (fun b hb => (f.1 b (by omega)).2.2) hR hs (h.2.2.2.2.c (fun a k ha => by rw [(f.1 a (by omega)).1]) (fun k => by unfold vR; rw [f.2.2 45 (by decide)]))
theorem CI.th {B : cB} {A : aS} {σ : sS} {x : Int32} (h : CI B A σ) : CI B (aThr A x) (uI σ 0 11 x) := by
  obtain ⟨⟨⟨t1, t2, t3, t4⟩, ⟨a1, a2, a3, a4, a5⟩, ⟨m1, m2, m3, m4, m5⟩, hs⟩, hi, hR, hc, hK⟩ := h
  have v : ∀ {b j : Nat}, b ≠ 0 ∨ j ≠ 11 → vI (uI σ 0 11 x) b j = vI σ b j := fun h => vI_q (fun q => by omega)
  refine ⟨⟨⟨t1, (v (by omega)).trans t2, fun j hj => (v (by omega)).trans (t3 j hj), t4⟩, ⟨(v (by omega)).trans a1, (v (by omega)).trans a2, fun q => (v (by omega)).trans (a3 q), a4, vI_e⟩, ⟨m1, m2, (v (by omega)).trans m3, m4, fun a ha => ?_⟩, ?_⟩, hi, hR.c rfl, fun i hi => ?_, hK.c (fun a j ha => v (by omega)) (fun _ => rfl)⟩
  · obtain ⟨n0, n1, n2, n3, n4, n5⟩ := m5 a ha
    exact ⟨n0, (v (by omega)).trans n1, (v (by omega)).trans n2, (v (by omega)).trans n3, (v (by omega)).trans n4, fun s f hs hf => (v (by omega)).trans (n5 s f hs hf)⟩
  · have e : ∀ j, vI (uI σ 0 11 x) 56 j = vI σ 56 j := fun j => v (by omega)
    have e2 : ∀ j, vI (uI σ 0 11 x) 61 j = vI σ 61 j := fun j => v (by omega)
    unfold cS0 at hs ⊢
    show match aSh A with
      | none => vI (uI σ 0 11 x) 56 6 = 0
      | some w => vI (uI σ 0 11 x) 56 6 = 1 ∧ w.1.length ≤ 1000 ∧ w.2.length ≤ 1001 ∧ vI (uI σ 0 11 x) 56 7 = nI w.1.length ∧ vI (uI σ 0 11 x) 56 8 = nI w.2.length ∧ ∀ j, j < w.1.length + w.2.length → vI (uI σ 0 11 x) 61 j = nI ((w.1 ++ w.2).getD j 0)
    simp only [e, e2]
    exact hs
  · rcases hc i hi with q | q
    · exact Or.inl ((v (by omega)).trans q)
    · refine Or.inr ?_
      show cCpl (33 + i) (aMa A i) (aG A) (uI σ 0 11 x)
      unfold cCpl at q ⊢
      cases hq : cpl (aMa A i) (aG A) with
      | none => rw [hq] at q; exact (v (by omega)).trans q
      | some z =>
        rw [hq] at q
        obtain ⟨b1, b2, b3, b4, b5⟩ := q
        exact ⟨(v (by omega)).trans b1, (v (by omega)).trans b2, fun n hn => (v (by omega)).trans (b3 n hn), fun j hj => (v (by omega)).trans (b4 j hj), fun j hj => (v (by omega)).trans (b5 j hj)⟩
theorem y_within {B : cB} {A : aS} {σ : sS} (h : CI B A σ) (a b : Int32) : yCI B (sp_within A a b) (L_X11_within a b σ) := by
  have h3 := h.1.c.1
  have hg := h.1.c.2
  unfold L_X11_within sp_within
  rw [y_at h.1, y_at h.1]
  by_cases ha : aOk (aC A) a = true
  · obtain ⟨i, hi, rfl⟩ := aOk_t ha (by omega)
    rw [if_pos ha]
    simp only [bnd_s]
    rw [nI_clamp (by omega), isAu_n (by omega), grd_s]
    by_cases hb : aOk (aC A) b = true
    · obtain ⟨k, hk, rfl⟩ := aOk_t hb (by omega)
      rw [if_pos hb, if_pos ⟨ha, hb⟩, nI_clamp (show k < 2 ^ 31 by omega), isCo_n (by omega), grd_s]
      rcases y_std h hk with ⟨hq, τ, t1, t2, -⟩ | ⟨v, τ, hq, t1, t2, t3, t4, -⟩
      · rw [hq, t1, bd2_s, if_pos rfl]
        exact yCI.r t2 3 (by decide)
      · rw [hq, t1, bd2_s, if_neg i1n0]
        have hmk := t2.1.m hk
        have hmi := t2.1.m hi
        have c3 := cpl_3 hmk.1 hg hq
        have hA : cAC (aMa A i) v (aG A) i k τ := ⟨hmi, t3, by rw [show 33 + k - 6 = 27 + k by omega]; exact hmk.2.2.1⟩
        have I := y_mAll (B := B.1) (a := i) (b := k) (by omega) (by omega) t4 c3 hg hA t2.2.2.1
        show yCI B (match thr (aMa A i) v (aG A) with
          | none => aRef A 3
          | some z => _) _
        revert I
        cases ht : thr (aMa A i) v (aG A) with
        | none =>
          rintro ⟨τ2, i1, i2, i3⟩
          rw [i1, bd2_s, if_pos rfl]
          exact yCI.r (t2.tr3 i2 i3) 3 (by decide)
        | some z =>
          rintro ⟨τ2, i1, i2, i3, i4⟩
          rw [i1, bd2_s, if_neg i1n0, i3.1.1]
          have C2 := (t2.tr3 i2 i3.1.2.2.2.2.2).th (x := nI z.1.length)
          have hA2 : cAC (aMa A i) v (aG A) i k (uI τ2 0 11 (nI z.1.length)) := hA.t (by omega) (by omega) (fun r hr => by rw [vI_r (by omega)]; exact (i2.1 r (by omega)).1)
          have T2 : cTg (aMa A i) v z.1 (uI τ2 0 11 (nI z.1.length)) := cTg.t ⟨i3.1.1, i3.1.2.2.1, i3.1.2.2.2.1, i3.2⟩ (fun r hr => vI_r (by omega))
          have hd2 : h_d (27 + i) (33 + k) (uI τ2 0 11 (nI z.1.length)) := i4
          generalize uI τ2 0 11 (nI z.1.length) = τ3 at C2 hA2 T2 hd2
          have hT := G2_ok hmi.1 t4 c3 hg ht
          have S := y_show (B := B.1) (σ := τ3) (fV := h_V) (fF := h_F) (fL := h_L (27 + i)) (fN := h_N (27 + i) (33 + k)) (fE := h_E (27 + i) (33 + k) (mN (aMa A i))) (fM := h_M) hT (fun υ j => y_G2 (hA2.t (by omega) (by omega) (fun r hr => (j.1 r (by omega)).1)) t4 c3 hg ht (T2.t (fun r hr => (j.1 r (by omega)).1))) C2.2.2.1
          obtain ⟨s1, s2, s3, s4, s5⟩ := S
          have eA : oA τ3 = 27 + i := by unfold oA; rw [hd2.1]; rfl
          have eC : oC τ3 = 33 + k := by unfold oC; rw [hd2.2]; rfl
          have eN : nV (m_V (27 + i)) τ3 = mN (aMa A i) := by
            unfold nV
            rw [show m_V (27 + i) τ3 [] = nI (mN (aMa A i)) from hA2.1.2.1, nI_clamp (by have := hmi.1.2.1; omega)]
          have e : L_sh2 τ3 = some (Sh_r h_V h_F (h_L (27 + i)) (h_N (27 + i) (33 + k)) (h_E (27 + i) (33 + k) (mN (aMa A i))) h_M τ3) := by
            unfold L_sh2
            rw [eA, eC, eN]
            refine grP_t ⟨⟨isAu_of (isAu_n (by omega)), isCo_of (isCo_n (by omega))⟩, hmi.1.2.1, jrl τ3, fun υ j => ⟨?_, ?_, ?_⟩, s1⟩
            · rw [(j.1 (27 + i) (by omega)).1]; exact hA2.1.2.1
            · show υ.2.2.1 50 5 = _
              rw [j.2.2]; exact hd2.1
            · show υ.2.2.1 50 6 = _
              rw [j.2.2]; exact hd2.2
          rw [e]
          show yCI B _ (if (Sh_r h_V h_F (h_L (27 + i)) (h_N (27 + i) (33 + k)) (h_E (27 + i) (33 + k) (mN (aMa A i))) h_M τ3).1 = 0 then _ else _)
          exact shA_y s2 (C2.jr s4 s5 s3)
    · rw [if_neg hb, if_neg (fun q => hb q.2)]
      exact yCI.r h 1 (by decide)
  · rw [if_neg ha, if_neg (fun q => ha q.1)]
    by_cases hb : aOk (aC A) b = true
    · obtain ⟨k, hk, rfl⟩ := aOk_t hb (by omega)
      rw [if_pos hb]
      simp only [bnd_s]
      rw [nI_clamp (by omega), isCo_n (by omega), grd_s]
      exact yCI.r h 1 (by decide)
    · rw [if_neg hb]
      exact yCI.r h 1 (by decide)
