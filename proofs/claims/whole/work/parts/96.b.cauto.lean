/-! lines of the tape: a new automaton, all lines (the component) -/
theorem y_kept {b : Nat → Int32} {e q : Nat} {τ : sS} (h : tkD b e q τ) : L_X5_isKept τ = if kpt b e q then 1 else 0 := by
  unfold L_X5_isKept
  rw [y_spells h (i := 0) (by decide), y_spells h (i := 1) (by decide), y_spells h (i := 2) (by decide), y_spells h (i := 3) (by decide), y_spells h (i := 4) (by decide), y_spells h (i := 5) (by decide)]
  by_cases h0 : isW b e q 0
  · rw [if_pos h0, if_neg i1n0, if_pos ⟨0, by decide, h0⟩]
  · rw [if_neg h0, if_pos rfl]
    by_cases h1 : isW b e q 1
    · rw [if_pos h1, if_neg i1n0, if_pos ⟨1, by decide, h1⟩]
    · rw [if_neg h1, if_pos rfl]
      by_cases h2 : isW b e q 2
      · rw [if_pos h2, if_neg i1n0, if_pos ⟨2, by decide, h2⟩]
      · rw [if_neg h2, if_pos rfl]
        by_cases h3 : isW b e q 3
        · rw [if_pos h3, if_neg i1n0, if_pos ⟨3, by decide, h3⟩]
        · rw [if_neg h3, if_pos rfl]
          by_cases h4 : isW b e q 4
          · rw [if_pos h4, if_neg i1n0, if_pos ⟨4, by decide, h4⟩]
          · rw [if_neg h4, if_pos rfl]
            by_cases h5 : isW b e q 5
            · rw [if_pos h5, if_neg i1n0, if_pos ⟨5, by decide, h5⟩]
            · rw [if_neg h5, if_pos rfl, if_neg]
              rintro ⟨i, hi, c⟩
              obtain rfl | rfl | rfl | rfl | rfl | rfl : i = 0 ∨ i = 1 ∨ i = 2 ∨ i = 3 ∨ i = 4 ∨ i = 5 := by omega
              · exact h0 c
              · exact h1 c
              · exact h2 c
              · exact h3 c
              · exact h4 c
              · exact h5 c
theorem y_nmL {b : Nat → Int32} {e q F i w l : Nat} {σ : sS} (h : tkD b e q σ) (hi : i < 3) (h4 : vI σ 4 i = nI w) (h6 : vI σ 1 6 = nI l) (hw : w + l ≤ e) (hq : q + l ≤ e) (kx : Option Int32) : ∀ (n j f : Nat), j + n = l → n < f → L_X5_isNameOf_22 F (nI i) σ kx f (nI j) = if ∀ m, m < n → b (w + (j + m)) = b (q + (j + m)) then kx else some 0 := by
  have he := h.2.2.1
  intro n
  induction n with
  | zero =>
    intro j f hj hf
    obtain ⟨f, rfl⟩ : ∃ g, f = g + 1 := ⟨f - 1, by omega⟩
    rw [L_X5_isNameOf_22, h6, if_pos (nI_le (by omega) (by omega)), if_pos (fun m hm => absurd hm (Nat.not_lt_zero m))]
  | succ n ih =>
    intro j f hj hf
    obtain ⟨f, rfl⟩ : ∃ g, f = g + 1 := ⟨f - 1, by omega⟩
    rw [L_X5_isNameOf_22, h6, if_neg (nI_ge (by omega) (by omega)), rg_nI (by omega), h4, h.2.2.2.2.1, nI_add, nI_add, y_by h.1 h.2.1 he (by omega), y_by h.1 h.2.1 he (by omega), if_pos (show w + j < e by omega), if_pos (show q + j < e by omega), nI_1, ih (j + 1) f (by omega) (by omega)]
    by_cases hc : b (w + j) = b (q + j)
    · rw [if_pos hc]
      by_cases ha : ∀ m, m < n → b (w + (j + 1 + m)) = b (q + (j + 1 + m))
      · rw [if_pos ha, if_pos]
        intro m hm
        cases m with
        | zero => exact hc
        | succ m =>
          have := ha m (by omega)
          rw [show j + 1 + m = j + (m + 1) by omega] at this
          exact this
      · rw [if_neg ha, if_neg]
        intro k
        refine ha (fun m hm => ?_)
        have := k (m + 1) (by omega)
        rw [show j + (m + 1) = j + 1 + m by omega] at this
        exact this
    · rw [if_neg hc, if_neg]
      intro k
      exact hc (k 0 (by omega))
theorem y_nm {b : Nat → Int32} {e q F i : Nat} {D : dD} {σ : sS} (h : tkD b e q σ) (hk : tkk b e q = 2) (hD : cD b e D σ) (hi : i < dK D) (hF : 7 < F) : L_X5_isNameOf F (nI i) σ = some (if smw b (dN D i) (q, tke b e q - q) then 1 else 0) := by
  have h3 := hD.1.2.1
  obtain ⟨-, -, -, k1, k2, k3⟩ := tkk_2 hk h.2.2.2.1
  obtain ⟨w1, w2, w3⟩ := (hD.1.2.2.2 i hi).2
  obtain ⟨-, n4, n5⟩ := hD.2.2.2.2 i hi
  have hl := h.2.2.2.2.2.2.2 ((ck_2 h.2.2.2.1).mpr hk)
  have he := (tke_le (b := b) h.2.2.2.1).2
  unfold L_X5_isNameOf
  rw [rg_nI (by omega), n5, hl]
  by_cases hc : (dN D i).2 = tke b e q - q
  · rw [if_pos (by rw [hc])]
    have := y_nmL (F := F) (l := tke b e q - q) h (by omega) n4 hl (by omega) (by omega) (some 1) (tke b e q - q) 0 F (by omega) (by omega)
    rw [show (0 : Int32) = nI 0 from rfl]
    rw [this]
    simp only [Nat.zero_add]
    by_cases hs : ∀ m, m < tke b e q - q → b ((dN D i).1 + m) = b (q + m)
    · rw [if_pos hs, if_pos ⟨hc, fun j hj => hs j (by rw [← hc]; exact hj)⟩]
    · rw [if_neg hs, if_neg (fun c => hs (fun m hm => c.2 m (by rw [hc]; exact hm)))]
      rfl
  · rw [if_neg (fun c => hc (nI_ij (by omega) (by omega) c)), if_neg (fun c => hc c.1)]
theorem y_43 {b : Nat → Int32} {e q F : Nat} {D : dD} {σ : sS} (h : tkD b e q σ) (hk : tkk b e q = 2) (hD : cD b e D σ) (hF : 7 < F) (kx : sS → Option (Int32 × sS)) : ∀ (n i f : Nat), i + n = dK D → n < f → L_X5_readName_43 F kx f (nI i) σ = if ∃ j, j < n ∧ smw b (dN D (i + j)) (q, tke b e q - q) then some (0, t_blame σ 3 (nI q)) else kx σ := by
  have h3 := hD.1.2.1
  intro n
  induction n with
  | zero =>
    intro i f hi hf
    obtain ⟨f, rfl⟩ : ∃ g, f = g + 1 := ⟨f - 1, by omega⟩
    rw [L_X5_readName_43, hD.2.2.1, if_pos (nI_le (by omega) (by omega)), if_neg]
    rintro ⟨j, hj, -⟩
    omega
  | succ n ih =>
    intro i f hi hf
    obtain ⟨f, rfl⟩ : ∃ g, f = g + 1 := ⟨f - 1, by omega⟩
    rw [L_X5_readName_43, hD.2.2.1, if_neg (nI_ge (by omega) (by omega)), y_nm h hk hD (by omega) hF, nI_1, ih (i + 1) f (by omega) (by omega), h.2.2.2.2.1]
    by_cases hc : smw b (dN D i) (q, tke b e q - q)
    · rw [if_pos hc, bd_o, if_pos ⟨0, by omega, hc⟩]
      rfl
    · rw [if_neg hc, bd_z]
      by_cases hx : ∃ j, j < n ∧ smw b (dN D (i + 1 + j)) (q, tke b e q - q)
      · obtain ⟨j, j1, j2⟩ := hx
        rw [if_pos ⟨j, j1, j2⟩, if_pos ⟨j + 1, by omega, by rw [show i + (j + 1) = i + 1 + j by omega]; exact j2⟩]
      · rw [if_neg hx, if_neg]
        rintro ⟨j, j1, j2⟩
        cases j with
        | zero => exact hc j2
        | succ j => exact hx ⟨j, by omega, by rw [show i + 1 + j = i + (j + 1) by omega]; exact j2⟩
/-- the name is read and kept -/
theorem y_name {b : Nat → Int32} {e q F : Nat} {D : dD} {σ : sS} (h : tkC b e (tke b e q) σ) (h7 : vI σ 1 7 = 0) (hD : cD b e D σ) (hF : 7 < F) (hK : dK D < 3) : match sName b e (nx b e q) D with
    | .inl (k, w) => ∃ τ, L_X5_readName F σ = some (0, τ) ∧ vI τ 1 7 = k ∧ vI τ 1 8 = nI w ∧ fR σ τ
    | .inr q2 => q2 = nx b e (nx b e q) ∧ wok b e (nx b e q, tke b e (nx b e q) - nx b e q) ∧ ∃ τ, L_X5_readName F σ = some (1, τ) ∧ tkC b e (tke b e (nx b e q)) τ ∧ vI τ 1 7 = 0 ∧ cD b e D τ ∧ vI τ 4 (dK D) = nI (nx b e q) ∧ vI τ 5 (dK D) = nI (tke b e (nx b e q) - nx b e q) ∧ fR σ τ := by
  obtain ⟨s1, s2⟩ := y_step h
  have sf : fT σ (t_st e σ) := fT.st
  have s7 : vI (t_st e σ) 1 7 = 0 := h7
  have sD := hD.ft sf
  rw [show tq b e (tke b e q) = nx b e q from rfl] at s2
  unfold sName L_X5_readName
  rw [s1, bd_s]
  generalize nx b e q = q1 at s2
  generalize t_st e σ = ρ at s2 s7 sf sD
  have bad : ∃ τ, L_X5_readName_25 F ρ = some (0, τ) ∧ vI τ 1 7 = 1 ∧ vI τ 1 8 = nI q1 ∧ fR σ τ := by
    unfold L_X5_readName_25
    rw [bnd_s, s2.2.2.2.2.1]
    exact ⟨_, rfl, rfl, rfl, sf.R.tr fT.bl.R⟩
  rw [s2.2.2.2.2.2.1, y_kept s2]
  by_cases hk : tkk b e q1 = 2
  · have hc := (ck_2 s2.2.2.2.1).mpr hk
    rw [if_pos hc]
    by_cases kp : kpt b e q1
    · rw [if_pos kp, if_neg i1n0, if_neg (fun c => c.2 kp)]
      exact bad
    · rw [if_neg kp, if_pos rfl, if_pos ⟨hk, kp⟩]
      have hl := y_43 (F := F) s2 hk sD hF (fun σ5 => bnd (rp σ5 4 (vI σ5 3 6) (vI σ5 1 5)) (fun σ6 => bnd (rp σ6 5 (vI σ6 3 6) (vI σ6 1 6)) (fun σ7 => some (1, σ7)))) (dK D) 0 F (by omega) (by omega)
      simp only [Nat.zero_add] at hl
      rw [show L_X5_readName_43 F _ F 0 ρ = _ from hl]
      by_cases hx : ∃ i, i < dK D ∧ smw b (dN D i) (q1, tke b e q1 - q1)
      · rw [if_pos hx, if_pos hx]
        exact ⟨_, rfl, rfl, rfl, sf.R.tr fT.bl.R⟩
      · rw [if_neg hx, if_neg hx]
        obtain ⟨-, -, -, k1, k2, k3⟩ := tkk_2 hk s2.2.2.2.1
        have he := (tke_le (b := b) s2.2.2.2.1).2
        have hlen := s2.2.2.2.2.2.2.2 hc
        obtain ⟨c1, c4, c5⟩ := sD.2.2.2.1
        refine ⟨rfl, ⟨k1, k2, by show q1 + (tke b e q1 - q1) ≤ e; omega⟩, uI (uI ρ 4 (dK D) (nI q1)) 5 (dK D) (nI (tke b e q1 - q1)), ?_, s2.s hk, s7, ?_, ?_, vI_e, (sf.R.tr (fR.u (by decide) (by decide))).tr (fR.u (by decide) (by decide))⟩
        · simp only [bnd_s]
          rw [sD.2.2.1, s2.2.2.2.2.1, rp_n (by omega) (by omega), show vI (uI ρ 4 (dK D) (nI q1)) 3 6 = nI (dK D) from sD.2.2.1, show vI (uI ρ 4 (dK D) (nI q1)) 1 6 = nI (tke b e q1 - q1) from hlen, rp_n (by show dK D < vC ρ 5; omega) (by omega)]
        · obtain ⟨a, a1, a2, a3, a4⟩ := sD
          refine ⟨a, a1, a2, a3, fun i hi => ?_⟩
          obtain ⟨m, n, l⟩ := a4 i hi
          have hi : i < dK D := hi
          refine ⟨m.c (fun j => ?_) (fun j => ?_), ?_, ?_⟩
          · rw [vI_q (fun c => by have := c.1; omega), vI_q (fun c => by have := c.1; omega)]
          · rw [vI_q (fun c => by have := c.1; omega), vI_q (fun c => by have := c.1; omega)]
          · rw [vI_q (fun c => by have := c.1; omega), vI_q (fun c => by have := c.2; omega)]
            exact n
          · rw [vI_q (fun c => by have := c.2; omega), vI_q (fun c => by have := c.1; omega)]
            exact l
        · rw [vI_q (fun c => by have := c.1; omega)]
          exact vI_e
  · rw [if_neg (fun c => hk ((ck_2 s2.2.2.2.1).mp c)), if_neg (fun c => hk c.1)]
    exact bad
/-- an automaton laid anew -/
theorem y_ly {σ : sS} {a : Nat} {n m : Int32} (h : vC σ (a + 3) = 12) : a_ly σ a n m = uU (uZ (uI (uI (uI (uI σ a 1 n) a 2 m) a 3 0) a 4 0) (a + 3) 12) (a + 3) 0 := by
  unfold a_ly rz rx
  rw [if_neg (fun c => by have : vC σ (a + 3) < 12 := c.1; omega)]
theorem y_lyv {σ : sS} {a c j : Nat} {n m : Int32} (h : vC σ (a + 3) = 12) (h1 : c ≠ a) (h2 : c ≠ a + 3) : vI (a_ly σ a n m) c j = vI σ c j := by
  rw [y_ly h]
  show (if c = a + 3 ∧ j < 12 then 0 else vI (uI (uI (uI (uI σ a 1 n) a 2 m) a 3 0) a 4 0) c j) = _
  rw [if_neg (fun c => h2 c.1), vI_q (fun c => h1 c.1), vI_q (fun c => h1 c.1), vI_q (fun c => h1 c.1), vI_q (fun c => h1 c.1)]
theorem y_lyz {σ : sS} {a j : Nat} {n m : Int32} (h : vC σ (a + 3) = 12) (hj : j < 12) : vI (a_ly σ a n m) (a + 3) j = 0 := by
  rw [y_ly h]
  show (if a + 3 = a + 3 ∧ j < 12 then 0 else _) = _
  rw [if_pos ⟨rfl, hj⟩]
theorem y_lyf {σ : sS} {a : Nat} {n m : Int32} (h : vC σ (a + 3) = 12) : vI (a_ly σ a n m) a 1 = n ∧ vI (a_ly σ a n m) a 2 = m ∧ vI (a_ly σ a n m) a 3 = 0 ∧ vI (a_ly σ a n m) a 4 = 0 := by
  rw [y_ly h]
  have e : ∀ j, vI (uU (uZ (uI (uI (uI (uI σ a 1 n) a 2 m) a 3 0) a 4 0) (a + 3) 12) (a + 3) 0) a j = vI (uI (uI (uI (uI σ a 1 n) a 2 m) a 3 0) a 4 0) a j := by
    intro j
    show (if a = a + 3 ∧ j < 12 then 0 else _) = _
    rw [if_neg (fun c => by have := c.1; omega)]
    rfl
  rw [e, e, e, e]
  refine ⟨?_, ?_, ?_, vI_e⟩
  · rw [vI_q (fun c => by have := c.2; omega), vI_q (fun c => by have := c.2; omega), vI_q (fun c => by have := c.2; omega), vI_e]
  · rw [vI_q (fun c => by have := c.2; omega), vI_q (fun c => by have := c.2; omega), vI_e]
  · rw [vI_q (fun c => by have := c.2; omega), vI_e]
theorem y_lyR {σ : sS} {a : Nat} {n m : Int32} (h : vC σ (a + 3) = 12) (ha : a ∈ rdM) (h3 : a + 3 ∈ rdM) (h1 : a ≠ 1) : fR σ (a_ly σ a n m) := by
  refine ⟨fun c j hc => y_lyv h (fun q => hc (q ▸ ha)) (fun q => hc (q ▸ h3)), y_lyv h (fun q => h1 q.symm) (by omega), fun c hc => ?_, ?_, ?_, ?_⟩
  · rw [y_ly h]
    show (if c = a + 3 then (0 : Int32) else vU σ c) = _
    rw [if_neg (fun q : c = a + 3 => hc (q ▸ h3))]
  · rw [y_ly h]; rfl
  · rw [y_ly h]; rfl
  · rw [y_ly h]; rfl
theorem cD.new {b : Nat → Int32} {e v : Nat} {w : Nat × Nat} {D : dD} {σ : sS} (h : cD b e D σ) (hK : dK D < 3) (hL : dL D ≠ 0) (hv : 1 ≤ v) (hv4 : v ≤ 4) (hw : wok b e w) (h4 : vI σ 4 (dK D) = nI w.1) (h5 : vI σ 5 (dK D) = nI w.2) : cD b e (dNew D v w) (uI (a_ly σ (9 + dK D) (nI v) (nI (dL D))) 3 6 (nI (dK D + 1))) := by
  have hC : vC σ (9 + dK D + 3) = 12 := by rw [show 9 + dK D + 3 = 12 + dK D by omega]; exact h.2.2.2.1.1 _ hK
  obtain ⟨⟨o1, o2, o3, o4⟩, a1, a2, a3, a4⟩ := h
  have hM : mOk (dL D) (v, 0, 0, fun _ _ => 0) := ⟨hv, hv4, Nat.two_pow_pos _, Nat.two_pow_pos _, fun _ _ => Nat.two_pow_pos _, fun _ _ _ => rfl⟩
  have n : ∀ {c j : Nat}, (c < 9 ∧ c ≠ 3 ∨ (9 ≤ c ∧ c < 12 ∧ c ≠ 9 + dK D) ∨ (12 ≤ c ∧ c ≠ 12 + dK D)) → vI (uI (a_ly σ (9 + dK D) (nI v) (nI (dL D))) 3 6 (nI (dK D + 1))) c j = vI σ c j := fun {c j} hc => (vI_q (fun q => by have := q.1; omega)).trans (y_lyv hC (by omega) (by omega))
  have hCC : ∀ c, vC (uI (a_ly σ (9 + dK D) (nI v) (nI (dL D))) 3 6 (nI (dK D + 1))) c = vC σ c := fun c => by rw [y_ly hC]; rfl
  refine ⟨⟨o1, show dK D + 1 ≤ 3 by omega, fun c => absurd c hL, fun i hi => ?_⟩, ?_, rfl, ⟨fun a ha => (hCC _).trans (a3.1 a ha), by rw [hCC]; exact a3.2.1, by rw [hCC]; exact a3.2.2⟩, fun i hi => ?_⟩
  · have hi : i < dK D + 1 := hi
    rw [dM_new, dN_new]
    by_cases c : i = dK D
    · rw [if_pos c, if_pos c]; exact ⟨hM, hw⟩
    · rw [if_neg c, if_neg c]; exact o4 i (by omega)
  · rw [vI_q (fun c => by have := c.2; omega), y_lyv hC (by omega) (by omega)]
    exact a1
  · have hi : i < dK D + 1 := hi
    rw [dM_new, dN_new]
    by_cases c : i = dK D
    · rw [if_pos c, if_pos c, c]
      obtain ⟨l1, l2, l3, l4⟩ := y_lyf (n := nI v) (m := nI (dL D)) hC
      have n9 : ∀ {j : Nat}, vI (uI (a_ly σ (9 + dK D) (nI v) (nI (dL D))) 3 6 (nI (dK D + 1))) (9 + dK D) j = vI (a_ly σ (9 + dK D) (nI v) (nI (dL D))) (9 + dK D) j := fun {j} => vI_q (fun q => by have := q.1; omega)
      refine ⟨⟨hM, n9.trans l1, n9.trans l2, n9.trans l3, n9.trans l4, fun s f hs hf => ?_⟩, (n (by omega)).trans h4, (n (by omega)).trans h5⟩
      rw [vI_q (fun q => by have := q.1; omega), show 12 + dK D = 9 + dK D + 3 by omega]
      exact y_lyz hC (by omega)
    · rw [if_neg c, if_neg c]
      obtain ⟨m, n4, n5⟩ := a4 i (by omega)
      exact ⟨m.c (fun j => n (by omega)) (fun j => n (by omega)), (n (by omega)).trans n4, (n (by omega)).trans n5⟩
theorem yl_auto {b : Nat → Int32} {e q F : Nat} {D : dD} {σ : sS} (h : tkC b e (tke b e q) σ) (h7 : vI σ 1 7 = 0) (hD : cD b e D σ) (hF : 7 < F) : yP b e σ (sAuto b e q D) (L_X5_readAuto F (nI q) σ) := by
  obtain ⟨o1, o2, o3, o4⟩ := hD.1
  unfold sAuto L_X5_readAuto
  rw [hD.2.1, hD.2.2.1]
  by_cases h3 : dK D = 3
  · have hL : dL D ≠ 0 := fun c => by have := o3 c; omega
    rw [if_pos h3, if_neg (nI_n0 hL (by omega)), if_neg (show ¬ nI (dK D) < 3 by rw [h3]; decide)]
    exact yP.bl fR.rf
  · rw [if_neg h3]
    by_cases hL : dL D = 0
    · rw [if_pos hL, if_pos (by rw [hL]; rfl)]
      exact yP.bl fR.rf
    · rw [if_neg hL, if_neg (nI_n0 hL (by omega)), if_pos (show nI (dK D) < 3 from nI_lt (b := 3) (by omega) (by omega))]
      have hn := y_name (F := F) h h7 hD hF (by omega)
      cases hs : sName b e (nx b e q) D with
      | inl k =>
        obtain ⟨k, w⟩ := k
        rw [hs] at hn
        obtain ⟨υ, u1, u2, u3, u4⟩ := hn
        rw [u1, bd2_s, if_pos rfl]
        exact ⟨υ, rfl, u2, u3, u4⟩
      | inr q2 =>
        rw [hs] at hn
        obtain ⟨rfl, hw, υ, u1, u2, u3, uD, u4, u5, u6⟩ := hn
        rw [u1, bd2_s, if_neg i1n0]
        obtain ⟨s1, s2⟩ := y_step u2
        have sf : fT υ (t_st e υ) := fT.st
        have s7 : vI (t_st e υ) 1 7 = 0 := u3
        have sD := uD.ft sf
        have f1 := u6.tr sf.R
        have s4 : vI (t_st e υ) 4 (dK D) = nI (nx b e q) := u4
        have s5 : vI (t_st e υ) 5 (dK D) = nI (tke b e (nx b e q) - nx b e q) := u5
        rw [s1, bd_s]
        rw [show tq b e (tke b e (nx b e q)) = nx b e (nx b e q) from rfl] at s2
        show yP b e σ (if isW b e (nx b e (nx b e q)) 2 then _ else _) _
        generalize nx b e (nx b e q) = q2 at s2
        generalize t_st e υ = ρ at s2 s7 sf sD f1 s4 s5
        rw [y_spells s2 (i := 2) (by decide)]
        by_cases hw2 : isW b e q2 2
        · rw [if_pos hw2, if_pos hw2, if_neg i1n0]
          have hx := y_whole (l := 1) (m := 4) (s2.s hw2.1) s7 (by decide) (by decide)
          rw [show tq b e (tke b e q2) = nx b e q2 from rfl] at hx
          cases hv : sWhole b e (nx b e q2) 1 4 with
          | inl k =>
            obtain ⟨k, w⟩ := k
            rw [hv] at hx
            obtain ⟨ω, w1, w2, w3, w4⟩ := hx
            rw [show L_X9_whole 1 4 ρ = some (-1, ω) from w1, bd2_s, if_pos rfl]
            exact ⟨ω, rfl, w2, w3, f1.tr w4.R⟩
          | inr v =>
            have vl := sWhole_le hv
            rw [hv] at hx
            obtain ⟨ω, w1, w2, w3, w4⟩ := hx
            have wD := sD.ft w4
            have e4 : vI ω 4 (dK D) = nI (nx b e q) := (w4.1 4 _ (by decide)).trans s4
            have e5 : vI ω 5 (dK D) = nI (tke b e (nx b e q) - nx b e q) := (w4.1 5 _ (by decide)).trans s5
            have hC : vC ω (9 + dK D + 3) = 12 := by rw [show 9 + dK D + 3 = 12 + dK D by omega]; exact wD.2.2.2.1.1 _ (by omega)
            rw [show L_X9_whole 1 4 ρ = some (nI v, ω) from w1, bd2_s, if_neg (nI_ne1 (by omega)), wD.2.2.1, wD.2.1, inb_n (by omega) (by omega), grd_s, nI_clamp (by omega)]
            simp only [bnd_s]
            have n3 : vI (a_ly ω (9 + dK D) (nI v) (nI (dL D))) 3 6 = nI (dK D) := (y_lyv hC (by omega) (by omega)).trans wD.2.2.1
            rw [isAu_9 (by omega), grd_s, n3, nI_1]
            have n1 : ∀ {j : Nat}, vI (uI (a_ly ω (9 + dK D) (nI v) (nI (dL D))) 3 6 (nI (dK D + 1))) 1 j = vI ω 1 j := fun {j} => (vI_q (fun c => by have := c.1; omega)).trans (y_lyv hC (by omega) (by omega))
            have n2 : ∀ {j : Nat}, vI (uI (a_ly ω (9 + dK D) (nI v) (nI (dL D))) 3 6 (nI (dK D + 1))) 2 j = vI ω 2 j := fun {j} => (vI_q (fun c => by have := c.1; omega)).trans (y_lyv hC (by omega) (by omega))
            have r9 := rdM_9 (i := dK D) (by omega)
            refine ⟨_, tke b e (nx b e q2), rfl, ⟨fun j hj => n2.trans (w2.1 j hj), n1.trans w2.2.1, n1.trans w2.2.2.1, w2.2.2.2⟩, rfl, n1.trans w3, wD.new (by omega) hL vl.1 vl.2 hw e4 e5, f1.tr (w4.R.tr ((y_lyR hC r9.1 (by rw [show 9 + dK D + 3 = 12 + dK D by omega]; exact r9.2) (by omega)).tr (fR.u (by decide) (by decide))))⟩
        · rw [if_neg hw2, if_neg hw2, if_pos rfl, s2.2.2.2.2.1]
          exact yP.bl f1
theorem y_01 {b : Nat → Int32} {e : Nat} {σ : sS} {x : pE (Nat × dD)} {o : Option (Int32 × sS)} (h : yP b e σ x o) : yP b e σ x (bd2 o (fun r t => grd (is01 r) (some (r, t)))) := by
  cases x with
  | inl k =>
    obtain ⟨τ, t1, t2⟩ := h
    exact ⟨τ, by rw [t1]; rfl, t2⟩
  | inr z =>
    obtain ⟨τ, p, t1, t2⟩ := h
    exact ⟨τ, p, by rw [t1]; rfl, t2⟩
theorem yl_line {b : Nat → Int32} {e p F : Nat} {D : dD} {σ : sS} (h : tkC b e p σ) (h7 : vI σ 1 7 = 0) (hD : cD b e D σ) (hF : 7 < F) : yP b e σ (sLine b e (tq b e p) D) (L_X5_readLine F σ) := by
  obtain ⟨s1, s2⟩ := y_step h
  have sf : fT σ (t_st e σ) := fT.st
  have s7 : vI (t_st e σ) 1 7 = 0 := h7
  have sD := hD.ft sf
  unfold L_X5_readLine
  rw [s1, bd_s, bnd_s]
  generalize tq b e p = q at s2
  generalize t_st e σ = ρ at s2 s7 sf sD
  refine yP.ft ?_ sf.R
  unfold sLine
  rw [y_spells s2 (i := 0) (by decide), y_spells s2 (i := 1) (by decide), y_spells s2 (i := 3) (by decide), y_spells s2 (i := 4) (by decide), y_spells s2 (i := 5) (by decide), s2.2.2.2.2.1]
  by_cases h0 : isW b e q 0
  · rw [if_pos h0, if_pos h0, if_neg i1n0]
    exact y_01 (yl_let (s2.s h0.1) s7 sD)
  · rw [if_neg h0, if_neg h0, if_pos rfl]
    by_cases h1 : isW b e q 1
    · rw [if_pos h1, if_pos h1, if_neg i1n0]
      exact y_01 (yl_auto (s2.s h1.1) s7 sD hF)
    · rw [if_neg h1, if_neg h1, if_pos rfl]
      by_cases h3 : isW b e q 3
      · rw [if_pos h3, if_pos h3, if_neg i1n0]
        exact y_01 (yl_mark (z := 1) (s2.s h3.1) s7 sD (Or.inr rfl))
      · rw [if_neg h3, if_neg h3, if_pos rfl]
        by_cases h4 : isW b e q 4
        · rw [if_pos h4, if_pos h4, if_neg i1n0]
          exact y_01 (yl_mark (z := 0) (s2.s h4.1) s7 sD (Or.inl rfl))
        · rw [if_neg h4, if_neg h4, if_pos rfl]
          by_cases h5 : isW b e q 5
          · rw [if_pos h5, if_pos h5, if_neg i1n0]
            exact y_01 (yl_edge (s2.s h5.1) s7 sD)
          · rw [if_neg h5, if_neg h5, if_pos rfl]
            exact yP.bl fR.rf
/-- the component after all lines -/
def yQ (b : Nat → Int32) (e : Nat) (σ : sS) (x : pE dD) (o : Option (Int32 × sS)) : Prop := match x with
  | .inl (k, w) => ∃ τ, o = some (0, τ) ∧ vI τ 1 7 = k ∧ vI τ 1 8 = nI w ∧ fR σ τ
  | .inr D => ∃ τ, o = some (1, τ) ∧ vI τ 1 7 = 0 ∧ cD b e D τ ∧ dK D ≠ 0 ∧ fR σ τ
theorem yQ.ft {b : Nat → Int32} {e : Nat} {σ τ : sS} {x : pE dD} {o : Option (Int32 × sS)} (h : yQ b e τ x o) (f : fR σ τ) : yQ b e σ x o := by
  cases x with
  | inl k =>
    obtain ⟨τ, t1, t2, t3, t4⟩ := h
    exact ⟨τ, t1, t2, t3, f.tr t4⟩
  | inr z =>
    obtain ⟨τ, t1, t2, t3, t4, t5⟩ := h
    exact ⟨τ, t1, t2, t3, t4, f.tr t5⟩
theorem ck_59 {b : Nat → Int32} {e q : Nat} (hq : q ≤ e) : (ckk b e q = 0 ↔ tkk b e q = 1) ∧ (ckk b e q = 59 ↔ tkk b e q = 4 ∧ b q = 59) := by
  rcases tk_cases (b := b) hq with ⟨-, c, c'⟩ | ⟨-, c, c'⟩ | ⟨-, c, c', -⟩ | ⟨-, c, c', d⟩ | ⟨-, c, c'⟩
  · rw [c, c']; exact ⟨by decide, ⟨fun h => absurd h (by decide), fun h => absurd h.1 (by decide)⟩⟩
  · rw [c, c']; exact ⟨by decide, ⟨fun h => absurd h (by decide), fun h => absurd h.1 (by decide)⟩⟩
  · rw [c, c']; exact ⟨by decide, ⟨fun h => absurd h (by decide), fun h => absurd h.1 (by decide)⟩⟩
  · rw [c, c']
    rcases d with d | d | d <;> rw [d] <;> decide
  · rw [c, c']; exact ⟨by decide, ⟨fun h => absurd h (by decide), fun h => absurd h.1 (by decide)⟩⟩
theorem sLine_lt {b : Nat → Int32} {e q : Nat} {D : dD} {z : Nat × dD} (hq : q ≤ e) (h : sLine b e q D = .inr z) : q < z.1 := by
  have key : ∀ i, isW b e q i → q < nx b e q := by
    intro i hi
    obtain ⟨-, -, -, -, -, k⟩ := tkk_2 hi.1 hq
    have h1 := tke_le (b := b) hq
    have h2 := scn_le (P := kBl b) (e := e) (e - tke b e q) (tke b e q) (by omega)
    show q < scn (kBl b) e (tke b e q)
    omega
  have hk : q < nx b e q := by
    unfold sLine at h
    by_cases h0 : isW b e q 0
    · exact key 0 h0
    · rw [if_neg h0] at h
      by_cases h1 : isW b e q 1
      · exact key 1 h1
      · rw [if_neg h1] at h
        by_cases h3 : isW b e q 3
        · exact key 3 h3
        · rw [if_neg h3] at h
          by_cases h4 : isW b e q 4
          · exact key 4 h4
          · rw [if_neg h4] at h
            by_cases h5 : isW b e q 5
            · exact key 5 h5
            · rw [if_neg h5] at h
              exact nomatch h
  have n1 := nx_le (b := b) hq
  have n2 := nx_le (b := b) n1.2
  have n3 := nx_le (b := b) n2.2
  have n4 := nx_le (b := b) n3.2
  have hMk : ∀ k, sMark b e q D k = .inr z → q < z.1 := by
    intro k h
    unfold sMark at h
    split at h
    · exact nomatch h
    · obtain ⟨v, -, h⟩ := pbd_r h
      by_cases ht : (if k = 0 then mF (dA D) else mB (dA D)).testBit v = true
      · rw [if_pos ht] at h
        exact nomatch h
      · rw [if_neg ht] at h
        injection h with h
        rw [← h]
        show q < nx b e (nx b e q)
        omega
  unfold sLine at h
  split at h
  · unfold sLet at h
    split at h
    · obtain ⟨v, -, h⟩ := pbd_r h
      injection h with h
      rw [← h]
      show q < nx b e (nx b e q)
      omega
    · exact nomatch h
  · split at h
    · unfold sAuto at h
      split at h
      · exact nomatch h
      · split at h
        · exact nomatch h
        · obtain ⟨q2, h2, h⟩ := pbd_r h
          unfold sName at h2
          split at h2
          · split at h2
            · exact nomatch h2
            · injection h2 with h2
              split at h
              · obtain ⟨v, -, h⟩ := pbd_r h
                injection h with h
                rw [← h, ← h2]
                show q < nx b e (nx b e (nx b e (nx b e q)))
                omega
              · exact nomatch h
          · exact nomatch h2
    · split at h
      · exact hMk 1 h
      · split at h
        · exact hMk 0 h
        · split at h
          · unfold sEdge at h
            split at h
            · exact nomatch h
            · obtain ⟨v, -, h⟩ := pbd_r h
              dsimp only at h
              split at h
              · obtain ⟨t, -, h⟩ := pbd_r h
                split at h
                · exact nomatch h
                · injection h with h
                  rw [← h]
                  show q < nx b e (nx b e (nx b e (nx b e q)))
                  omega
              · exact nomatch h
          · exact nomatch h
/-- all lines: the component counts them, to 400; there are never so many -/
theorem yl_all {b : Nat → Int32} {e F : Nat} (hF : 401 < F) (he : e ≤ 400) : ∀ (n i p f : Nat) (D : dD) (σ : sS), tkC b e p σ → vI σ 1 7 = 0 → cD b e D σ → e < tq b e p + n → tq b e p ≤ e → 2 * i ≤ tq b e p → n ≤ f → yQ b e σ (sAll b e n (tq b e p) D) (L_X5_readAutomata_12 F (fun σ3 => L_X5_readAutomata_97 F σ3) f (nI i) σ) := by
  intro n
  induction n with
  | zero => intro i p f D σ h _ _ hn h1; omega
  | succ n ih =>
    intro i p f D σ h h7 hD hn hq hi hf
    obtain ⟨f, rfl⟩ : ∃ g, f = g + 1 := ⟨f - 1, by omega⟩
    have hl := yl_line h h7 hD (by omega : 7 < F)
    rw [sAll, L_X5_readAutomata_12]
    rw [if_neg (by rw [show (400 : Int32) = nI 400 from rfl]; exact nI_ge (by omega) (by omega))]
    cases hs : sLine b e (tq b e p) D with
    | inl k =>
      obtain ⟨k, w⟩ := k
      rw [hs] at hl
      obtain ⟨τ, t1, t2, t3, t4⟩ := hl
      rw [t1, bd2_s, if_pos rfl]
      exact ⟨τ, rfl, t2, t3, t4⟩
    | inr z =>
      have hle := sLine_le hq hs
      have hlt := sLine_lt hq hs
      obtain ⟨q', D'⟩ := z
      rw [hs] at hl
      obtain ⟨τ, p', t1, t2, rfl, t4, t5, t6⟩ := hl
      rw [t1, bd2_s, if_neg i1n0]
      obtain ⟨s1, s2⟩ := y_step t2
      have sf : fT τ (t_st e τ) := fT.st
      have s7 : vI (t_st e τ) 1 7 = 0 := t4
      have sD := t5.ft sf
      have f1 := t6.tr sf.R
      have hle : tq b e p ≤ tq b e p' ∧ tq b e p' ≤ e := hle
      have hlt : tq b e p < tq b e p' := hlt
      rw [s1, bd_s]
      show yQ b e σ (if tkk b e (tq b e p') = 1 then (if dK D' = 0 then .inl (5, tq b e p') else .inr D') else if tkk b e (tq b e p') = 4 ∧ b (tq b e p') = 59 then sAll b e n (nx b e (tq b e p')) D' else .inl (1, tq b e p')) _
      generalize tq b e p' = q' at s2 hle hlt
      generalize t_st e τ = ρ at s2 s7 sf sD f1
      obtain ⟨c0, c59⟩ := ck_59 (b := b) s2.2.2.2.1
      rw [s2.2.2.2.2.2.1, sD.2.2.1, s2.2.2.2.2.1]
      by_cases k1 : tkk b e q' = 1
      · rw [if_pos k1, if_pos (c0.mpr k1)]
        by_cases kz : dK D' = 0
        · rw [if_pos kz, if_neg (by rw [kz]; decide)]
          exact ⟨_, rfl, rfl, rfl, f1.tr fT.bl.R⟩
        · rw [if_neg kz, if_pos (by have := sD.1.2.1; exact nI_lt (a := 0) (by omega) (by omega))]
          exact ⟨ρ, rfl, s7, sD, kz, f1⟩
      · rw [if_neg k1, if_neg (fun c => k1 (c0.mp c))]
        by_cases k4 : tkk b e q' = 4 ∧ b q' = 59
        · rw [if_pos k4, if_pos (c59.mpr k4), nI_1]
          have h5 := tke_4 hle.2 k4.1
          have h6 := tke_le (b := b) hle.2
          have h8 := scn_le (P := kBl b) (e := e) (e - tke b e q') (tke b e q') (by omega)
          have h9 : tq b e (tke b e q') = scn (kBl b) e (tke b e q') := rfl
          have hr := ih (i + 1) (tke b e q') f D' ρ (s2.c (by rw [c59.mpr k4]; decide)) s7 sD (by omega) (by omega) (by omega) (by omega)
          exact hr.ft f1
        · rw [if_neg k4, if_neg (fun c => k4 (c59.mp c))]
          unfold L_X5_readAutomata_97
          rw [bnd_s, s2.2.2.2.2.1]
          exact ⟨_, rfl, rfl, rfl, f1.tr fT.bl.R⟩
