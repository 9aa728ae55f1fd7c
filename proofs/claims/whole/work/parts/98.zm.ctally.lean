/-! counts, others: the component -/
noncomputable def tkN (G : gG) (w rd : List Nat) : Nat := if bP (tak G w rd) = true then 1 else 0
noncomputable def cntS (G : gG) (sl ln : Nat) : Nat := cnW (GL G) sl (fun st => cnW (GL G) ln (fun rd => tkN G st rd))
theorem cnW_bd {g : Nat} : ∀ {n B : Nat} {P : List Nat → Nat}, (∀ l, P l ≤ B) → cnW g n P ≤ g ^ n * B
  | 0, B, P, h => by rw [cnW, Nat.pow_zero, Nat.one_mul]; exact h []
  | n + 1, B, P, h => by
    rw [cnW]
    have := sg_le (f := fun s => cnW g n (fun l => P (s :: l))) (B := g ^ n * B) g (fun s _ => cnW_bd (fun l => h (s :: l)))
    rw [Nat.pow_succ, Nat.mul_comm (g ^ n) g, Nat.mul_assoc]
    exact this
theorem be_inj {g : Nat} : ∀ (n : Nat) (l m : List Nat), l.length = n → m.length = n → (∀ s, s ∈ l → s < g) → (∀ s, s ∈ m → s < g) → be g l = be g m → l = m := by
  intro n
  induction n with
  | zero =>
    intro l m hl hm _ _ _
    rw [List.length_eq_zero_iff.mp hl, List.length_eq_zero_iff.mp hm]
  | succ n ih =>
    intro l m hl hm h1 h2 e
    obtain ⟨l', s, e1, l1⟩ := snoc_of hl
    obtain ⟨m', t, e2, m1⟩ := snoc_of hm
    rw [e1] at h1 e ⊢
    rw [e2] at h2 e ⊢
    have hs := h1 s (by simp)
    have ht := h2 t (by simp)
    have g0 : 0 < g := by omega
    rw [be_s, be_s] at e
    have q1 : (be g l' * g + s) % g = s := by rw [Nat.mul_comm, Nat.mul_add_mod, Nat.mod_eq_of_lt hs]
    have q2 : (be g m' * g + t) % g = t := by rw [Nat.mul_comm, Nat.mul_add_mod, Nat.mod_eq_of_lt ht]
    have q3 : (be g l' * g + s) / g = be g l' := by rw [Nat.mul_comm, Nat.mul_add_div g0, Nat.div_eq_of_lt hs, Nat.add_zero]
    have q4 : (be g m' * g + t) / g = be g m' := by rw [Nat.mul_comm, Nat.mul_add_div g0, Nat.div_eq_of_lt ht, Nat.add_zero]
    rw [e] at q1 q3
    have es : s = t := q1.symm.trans q2
    have el : be g l' = be g m' := q3.symm.trans q4
    rw [es, ih l' m' l1 m1 (fun x hx => h1 x (List.mem_append.mpr (Or.inl hx))) (fun x hx => h2 x (List.mem_append.mpr (Or.inl hx))) el]
/-- stems counted by bits -/
theorem pc_cnt {G : gG} {sl : Nat} {rd : List Nat} {Z : Nat} (hl3 : GL G ≤ 3) (hsl : sl ≤ 3) (hZ : ∀ k, Z.testBit k = true ↔ ∃ u, u < GN G ∧ stA G sl u k ∧ rGd G rd u) : sg 32 (bt Z) = cnW (GL G) sl (fun st => tkN G st rd) := by
  have h27 : GL G ^ sl ≤ 27 := by
    have e1 : GL G ^ sl ≤ 3 ^ sl := Nat.pow_le_pow_left hl3 sl
    have e2 : (3 : Nat) ^ sl ≤ 3 ^ 3 := Nat.pow_le_pow_right (by decide) hsl
    omega
  have e0 : sg (32 - GL G ^ sl) (fun k => bt Z (GL G ^ sl + k)) = 0 := by
    have : sg (32 - GL G ^ sl) (fun k => bt Z (GL G ^ sl + k)) = sg (32 - GL G ^ sl) (fun _ => 0) := sg_c (fun k _ => by
      show bt Z (GL G ^ sl + k) = 0
      unfold bt
      refine if_neg (fun q => ?_)
      obtain ⟨u, -, ⟨l, l1, l2, l3, -⟩, -⟩ := (hZ _).mp q
      have := be_lt sl l l1 l2
      omega)
    rw [this, sg_0]
  have e1 : sg 32 (bt Z) = sg (GL G ^ sl) (bt Z) := by
    have := sg_sp (f := bt Z) (GL G ^ sl) (32 - GL G ^ sl)
    rw [show GL G ^ sl + (32 - GL G ^ sl) = 32 by omega, e0] at this
    exact this
  rw [e1, cnW_be]
  refine cnW_c (fun l hl hls => ?_)
  unfold bt tkN
  have iff : Z.testBit (be (GL G) l) = true ↔ tak G l rd := by
    rw [hZ]
    constructor
    · rintro ⟨u, u1, ⟨l', l1, l2, l3, l4⟩, u3⟩
      rw [be_inj sl l' l l1 hl l2 hls l3] at l4
      exact ⟨u, u1, l4, u3⟩
    · rintro ⟨u, u1, u2, u3⟩
      exact ⟨u, u1, ⟨l, hl, hls, rfl, u2⟩, u3⟩
  by_cases c : tak G l rd
  · rw [if_pos (iff.mpr c), if_pos (bP_t.mpr c)]
  · rw [if_neg (fun q => c (iff.mp q)), if_neg (fun q => c (bP_t.mp q))]
/-- a round is spelt -/
theorem y_sp {B : Nat × Nat} {g : Nat} (hg : 1 ≤ g) (hg3 : g ≤ 3) : ∀ (k t : Nat) (pre : List Nat) (τ : sS), pre.length + k ≤ 10 → t < 2 ^ 31 → rWd 49 pre τ → Rm B τ → rWd 49 (pre ++ le' g k t) (r_sp g k (nI t) τ) ∧ (∀ b j, b ≠ 49 → vI (r_sp g k (nI t) τ) b j = vI τ b j) ∧ (∀ b, b ≠ 49 → vC (r_sp g k (nI t) τ) b = vC τ b) ∧ Rm B (r_sp g k (nI t) τ) := by
  intro k
  induction k with
  | zero =>
    intro t pre τ _ _ h hR
    rw [le', List.append_nil]
    exact ⟨h, fun _ _ _ => rfl, fun _ _ => rfl, hR⟩
  | succ k ih =>
    intro t pre τ hl ht h hR
    rw [r_sp, nI_dv ht (by omega), show nI t - nI (t / g) * nI g = nI (t % g) by rw [← nI_dv ht (by omega)]; exact nI_rem ht (by omega)]
    obtain ⟨p1, p2, p3, p4, p5, p6, p7, p8, p9⟩ := rqu_p (r := 49) (k := pre.length) (x := nI (t % g)) h.1 (by omega) (Nat.le_trans (hR.1 49 (by decide)) (by decide))
    have R1 : Rm B (rqu τ 49 (nI (t % g))) := (hR.rx (r := 49) (m := pre.length + 1) (by decide) (Or.inl (by omega))).c p9
    have h1 : rWd 49 (pre ++ [t % g]) (rqu τ 49 (nI (t % g))) := by
      refine ⟨by rw [p1, List.length_append]; rfl, fun i hi => ?_⟩
      rw [List.length_append] at hi
      simp only [List.length_cons, List.length_nil] at hi
      rw [p2]
      by_cases e : i = pre.length
      · rw [if_pos e, e, getD_l]
      · rw [if_neg e, getD_app (by omega)]; exact h.2 i (by omega)
    obtain ⟨r1, r2, r3, r4⟩ := ih (t / g) (pre ++ [t % g]) _ (by rw [List.length_append]; simp only [List.length_cons, List.length_nil]; omega) (Nat.lt_of_le_of_lt (Nat.div_le_self _ _) ht) h1 R1
    rw [List.append_assoc] at r1
    exact ⟨r1, fun b j hb => (r2 b j hb).trans (p3 b j hb), fun b hb => (r3 b hb).trans (p5 b hb), r4⟩
theorem y_spl {B : Nat × Nat} {G : gG} {σ0 τ : sS} {Gi F H g ln w : Nat} {A : Nat → Nat → Prop} (hFH : fh F H) (hg : 1 ≤ g) (hg3 : g ≤ 3) (hl : ln ≤ 3) (hw : w < 2 ^ 31) (h : rdI B G 49 Gi σ0 F H A τ) : rdI B G 49 Gi σ0 F H A (r_spl g ln (nI w) τ) ∧ rWd 49 (le' g ln w) (r_spl g ln (nI w) τ) := by
  obtain ⟨ne, F1, F2, H1, H2, F5, H5⟩ := fh_ne hFH
  obtain ⟨k1, k2⟩ := r_spl_ok (Lc := g) (ln := ln) (w := nI w) (σ := τ)
  obtain ⟨h1, h2, h3, h4, h5, h6, h7⟩ := h
  unfold r_spl at k1 k2 ⊢
  have R0 : Rm B (rz τ 49 10) := h7.rz (by decide) (Or.inl (by decide))
  obtain ⟨z1, z2, z3, z4, z5, z6, z7⟩ := rz_at (σ := τ) (r := 49) (m := 10)
  have z8 : vU (rz τ 49 10) 49 = 0 := by
    show vU (uU (uZ (rx τ 49 10) 49 10) 49 0) 49 = 0
    exact vU_s
  have zc : ∀ b, b ≠ 49 → vC (rz τ 49 10) b = vC τ b := fun b hb => (z3 b).trans (rx_Cn hb)
  generalize rz τ 49 10 = τ1 at R0 z1 z2 z3 z4 z5 z6 z7 z8 zc k1 k2
  obtain ⟨r1, r2, r3, r4⟩ := y_sp (B := B) hg hg3 ln w [] τ1 (by rw [List.length_nil]; omega) hw ⟨z8, fun i hi => nomatch hi⟩ R0
  rw [List.nil_append] at r1
  generalize r_sp g ln (nI w) τ1 = τ2 at r1 r2 r3 r4 k1 k2
  have v : ∀ b j, b ≠ 49 → vI τ2 b j = vI τ b j := fun b j hb => (r2 b j hb).trans (z2 b j hb)
  have c : ∀ b, b ≠ 49 → vC τ2 b = vC τ b := fun b hb => (r3 b hb).trans (zc b hb)
  refine ⟨⟨h1.tr (brl_r k1), h2.c (fun j _ => v F j (by omega)) (c F (by omega)) (fun _ _ _ => Iff.rfl), h3.c (fun j _ => v H j (by omega)) (c H (by omega)) (fun _ _ _ => Iff.rfl), fun u hu => (v 48 u (by decide)).trans (h4 u hu), (v 45 7 (by decide)).trans h5, ?_, r4⟩, r1⟩
  obtain ⟨d1, d2, d3, d4⟩ := h6
  have e : ∀ k, vR τ2 45 k = vR τ 45 k := fun k => by unfold vR; rw [k2]
  exact ⟨(e 1).trans d1, (e 2).trans d2, (e 5).trans d3, (e 6).trans d4⟩
theorem rdI.l {B : Nat × Nat} {G : gG} {P Gi F H : Nat} {σ0 τ υ : sS} {A : Nat → Nat → Prop} (h : rdI B G P Gi σ0 F H A τ) (hFH : fh F H) (f : lrel τ υ) (hR : Rm B υ) : rdI B G P Gi σ0 F H A υ := by
  obtain ⟨ne, F1, F2, H1, H2, F5, H5⟩ := fh_ne hFH
  obtain ⟨h1, h2, h3, h4, h5, h6, h7⟩ := h
  have e : ∀ b, (b < 19 ∨ 25 < b) → vI υ b = vI τ b := fun b hb => (f.1 b hb).1
  refine ⟨h1.tr (brl_l f), h2.c (fun j _ => by rw [e F (by omega)]) ((f.1 F (by omega)).2.2) (fun _ _ _ => Iff.rfl), h3.c (fun j _ => by rw [e H (by omega)]) ((f.1 H (by omega)).2.2) (fun _ _ _ => Iff.rfl), fun v hv => by rw [e 48 (by omega)]; exact h4 v hv, by rw [e 45 (by omega)]; exact h5, ?_, hR⟩
  obtain ⟨d1, d2, d3, d4⟩ := h6
  have e : ∀ k, vR υ 45 k = vR τ 45 k := fun k => by unfold vR; rw [f.2.2]
  exact ⟨(e 1).trans d1, (e 2).trans d2, (e 5).trans d3, (e 6).trans d4⟩
/-- one word's turn -/
theorem y_w1 {B : Nat × Nat} {G : gG} {fF fN fE fM : sS → List Int32 → Int32} {σ0 τ : sS} {Gi F H sl ln w : Nat} (hG : gOk G) (hN : GN G ≤ 300) (hg1 : 1 ≤ GL G) (hsl : sl ≤ 3) (hl1 : 1 ≤ ln) (hl : ln ≤ 3) (hw : w < 2 ^ 31) (hS : ∀ τ, brl σ0 τ → gSt G fF fN fE fM τ) (hFH : fh F H) (h : rdI B G 49 Gi σ0 F H (stA G sl) τ) : (∃ RI : sS → Prop, l_ok (fun σ => brl σ0 σ ∧ r_d F H Gi 49 σ) RI (r_F F) (r_N fN 49) (r_E fE 49) r_M 1 (GN G * ln) ∧ RI (l_ini (r_spl (GL G) ln (nI w) τ) (GN G * ln))) ∧ rdI B G 49 Gi σ0 F H (stA G sl) (l_run (r_F F) (r_N fN 49) (r_E fE 49) r_M 1 (GN G * ln) (r_spl (GL G) ln (nI w) τ)) ∧ bc (r_tk F (l_run (r_F F) (r_N fN 49) (r_E fE 49) r_M 1 (GN G * ln) (r_spl (GL G) ln (nI w) τ)) (GN G) 0 0) = nI (cnW (GL G) sl (fun st => tkN G st (le' (GL G) ln w))) ∧ r_V 49 (r_spl (GL G) ln (nI w) τ) [] = nI (GN G * ln) := by
  have l3 := hG.2.1
  obtain ⟨s1, s2⟩ := y_spl hFH hg1 l3 hl hw h
  generalize r_spl (GL G) ln (nI w) τ = τ1 at s1 s2
  have hlen := le'_len (g := GL G) ln w
  obtain ⟨d1, d2, d3, d4, d5, d6, d7⟩ := id s1
  have hFc : F = 46 ∨ F = 47 := by rcases hFH with q | q <;> omega
  obtain ⟨⟨RI, o1, o2⟩, o3, o4, Z, z1, z2, z3⟩ := y_rnd (B := B) (P := 49) (rd := le' (GL G) ln w) (A := stA G sl) hG hN (by omega) (by omega) (le'_lt (by omega) ln w) hS hFc (Or.inr rfl) ⟨d1, d2, d4, d5, s2⟩ d7 (fun υ => brl σ0 υ ∧ r_d F H Gi 49 υ) (fun υ l => ⟨d1.tr (brl_l l), by
    obtain ⟨q1, q2, q3, q4⟩ := d6
    have e : ∀ k, vR υ 45 k = vR τ1 45 k := fun k => by unfold vR; rw [l.2.2]
    exact ⟨(e 1).trans q1, (e 2).trans q2, (e 5).trans q3, (e 6).trans q4⟩⟩)
  rw [hlen] at o1 o2 o3 o4 z1
  refine ⟨⟨RI, o1, o2⟩, s1.l hFH o3 o4, ?_, ?_⟩
  · rw [z1, bc_n (by omega), pc_cnt l3 hsl z3]
  · show vI τ1 45 7 * vU τ1 49 = _
    rw [d5, s2.1, hlen, nI_mul]
theorem y_wd9 {B : Nat × Nat} {G : gG} {fF fN fE fM : sS → List Int32 → Int32} {σ0 : sS} {Gi F H sl ln : Nat} (hG : gOk G) (hN : GN G ≤ 300) (hg1 : 1 ≤ GL G) (hsl : sl ≤ 3) (hl1 : 1 ≤ ln) (hl : ln ≤ 3) (hS : ∀ τ, brl σ0 τ → gSt G fF fN fE fM τ) (hFH : fh F H) : ∀ (k w acc : Nat) (τ : sS), w + k < 2 ^ 31 → rdI B G 49 Gi σ0 F H (stA G sl) τ → (r_wd fN fE F (GL G) ln (GN G) (GN G * ln) k w (nI acc) τ).1 = nI (acc + sg k (fun j => cnW (GL G) sl (fun st => tkN G st (le' (GL G) ln (w + j))))) ∧ rdI B G 49 Gi σ0 F H (stA G sl) (r_wd fN fE F (GL G) ln (GN G) (GN G * ln) k w (nI acc) τ).2 := by
  intro k
  induction k with
  | zero => intro w acc τ _ h; exact ⟨rfl, h⟩
  | succ k ih =>
    intro w acc τ hw h
    obtain ⟨-, w2, w3, -⟩ := y_w1 (w := w) hG hN hg1 hsl hl1 hl (by omega) hS hFH h
    rw [r_wd, w3, nI_add]
    obtain ⟨i1, i2⟩ := ih (w + 1) (acc + cnW (GL G) sl (fun st => tkN G st (le' (GL G) ln w))) _ (by omega) w2
    refine ⟨?_, i2⟩
    rw [i1]
    congr 1
    have e := sg_sp (f := fun j => cnW (GL G) sl (fun st => tkN G st (le' (GL G) ln (w + j)))) 1 k
    rw [show 1 + k = k + 1 by omega] at e
    rw [e, show sg 1 (fun j => cnW (GL G) sl (fun st => tkN G st (le' (GL G) ln (w + j)))) = cnW (GL G) sl (fun st => tkN G st (le' (GL G) ln w)) by rw [sg, sg, Nat.zero_add, Nat.add_zero]]
    have e2 : (fun j => cnW (GL G) sl (fun st => tkN G st (le' (GL G) ln (w + 1 + j)))) = fun j => cnW (GL G) sl (fun st => tkN G st (le' (GL G) ln (w + (1 + j)))) := funext fun j => by rw [show w + 1 + j = w + (1 + j) by omega]
    rw [e2]
    omega
theorem y_tan {B : Nat × Nat} {G : gG} {Gi sl ln : Nat} {fV fF fL fN fE fM : fG} {σ : sS} (hG : gOk G) (hN : GN G ≤ 300) (hg1 : 1 ≤ GL G) (hsl : sl ≤ 3) (hl1 : 1 ≤ ln) (hl : ln ≤ 3) (hJ : ∀ τ, brl σ τ → gSt G fF fN fE fM τ ∧ fV τ [] = nI (GN G) ∧ fL τ [] = nI (GL G)) (hR : Rm B σ) (hf : rF σ) : Ta_ok Gi fV fF fL fN fE fM sl ln σ ∧ (Ta_r Gi fV fF fL fN fE fM sl ln σ).1 = nI (cntS G sl ln) ∧ brl σ (Ta_r Gi fV fF fL fN fE fM sl ln σ).2 ∧ Rm B (Ta_r Gi fV fF fL fN fE fM sl ln σ).2 ∧ rF (Ta_r Gi fV fF fL fN fE fM sl ln σ).2 := by
  obtain ⟨F, H, hFH, v1, v2⟩ := hf
  obtain ⟨-, jV, jL⟩ := hJ σ brl.rf
  have n3 := hG.1
  have l3 := hG.2.1
  have eV : nV fV σ = GN G := by unfold nV; rw [jV, nI_clamp (by omega)]
  have eL : nV fL σ = GL G := by unfold nV; rw [jL, nI_clamp (by omega)]
  have eF : oF σ = F := by unfold oF; rw [v1]; rfl
  have eH : oH σ = H := by unfold oH; rw [v2]; rfl
  have hS : ∀ τ, brl σ τ → gSt G fF fN fE fM τ := fun τ h => (hJ τ h).1
  have s1 := y_set (B := B) (P := 49) (Gi := Gi) hG hFH hS v1 v2 hR
  have s1' : rdI B G 49 Gi σ F H (stA G 0) (r_set fF fM F H Gi 49 (GN G) σ) := s1.c (fun v k _ => by
    constructor
    · rintro ⟨h1, h2⟩
      exact ⟨[], rfl, fun s hs => (nomatch hs), by rw [h1]; rfl, h2⟩
    · rintro ⟨l, l1, -, l3, l4⟩
      rw [List.length_eq_zero_iff.mp l1] at l3 l4
      exact ⟨l3.symm, l4⟩)
  obtain ⟨s2, s3⟩ := y_rag (B := B) (P := 49) (Gi := Gi) hG hS sl 0 F H _ (by omega) hFH s1'
  rw [Nat.zero_add] at s2
  have h27 : GL G ^ ln ≤ 27 := by
    have e1 : GL G ^ ln ≤ 3 ^ ln := Nat.pow_le_pow_left l3 ln
    have e2 : (3 : Nat) ^ ln ≤ 3 ^ 3 := Nat.pow_le_pow_right (by decide) hl
    omega
  have hb : GN G * ln ≤ 300 * 3 := Nat.mul_le_mul hN hl
  unfold Ta_ok Ta_r Ta_s Ta_F Ta_N
  rw [eV, eL, eF, eH]
  generalize r_ag fN fE (GL G) (GN G) sl F H (r_set fF fM F H Gi 49 (GN G) σ) = τ at s2
  generalize r_ff sl F H = FH at s2 s3
  obtain ⟨w1, w2⟩ := y_wd9 (B := B) (Gi := Gi) hG hN hg1 hsl hl1 hl hS s3 (GL G ^ ln) 0 0 τ (by omega) s2
  have w1 : (r_wd fN fE FH.1 (GL G) ln (GN G) (GN G * ln) (GL G ^ ln) 0 0 τ).1 = _ := w1
  have w2 : rdI B G 49 Gi σ FH.1 FH.2 (stA G sl) (r_wd fN fE FH.1 (GL G) ln (GN G) (GN G * ln) (GL G ^ ln) 0 0 τ).2 := w2
  refine ⟨⟨fun τ => brl σ τ, fun τ => rdI B G 49 Gi σ FH.1 FH.2 (stA G sl) τ, fun _ _ a b => b.tr (brl_r a), fun _ _ a b => b.tr (brl_l a), fun υ q => (hJ υ q).2.1, by omega, fun υ q => (hJ υ q).2.2, l3, hg1, hFH, by omega, by omega, by omega, by omega, fun υ w hT hw => ?_, brl.rf, v1, v2, s2⟩, ?_, w2.1, w2.2.2.2.2.2.2, ⟨FH.1, FH.2, s3, w2.2.2.2.2.2.1.1, w2.2.2.2.2.2.1.2.1⟩⟩
  · obtain ⟨⟨RI, o1, o2⟩, o3, -, o5⟩ := y_w1 (w := w) hG hN hg1 hsl hl1 hl (by omega) hS s3 hT
    refine ⟨hT.1, hT.2.2.2.2.2.1, ?_, o5, RI, o1, o2, o3⟩
    have R1 : Rm B (rz υ 49 10) := hT.2.2.2.2.2.2.rz (by decide) (Or.inl (by decide))
    exact ⟨Nat.le_trans (R1.1 49 (by decide)) (by decide), 0, by decide, by
      show vU (uU (uZ (rx υ 49 10) 49 10) 49 0) 49 = 0
      exact vU_s⟩
  · rw [w1, Nat.zero_add]
    congr 1
    have e : (fun j => cnW (GL G) sl (fun st => tkN G st (le' (GL G) ln (0 + j)))) = fun j => cnW (GL G) sl (fun st => tkN G st (le' (GL G) ln j)) := funext fun j => by rw [Nat.zero_add]
    rw [e, cnW_le (by omega) ln (fun rd => cnW (GL G) sl (fun st => tkN G st rd)), cnW_sw]
    rfl
