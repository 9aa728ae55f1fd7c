/-! lines of the tape: a new automaton, to its end (the reference) -/
theorem x_needs {b : Nat → Int32} {e q F i : Nat} {σ : sS} (h : tkT b e q σ) (h7 : vI σ 90 7 = 0) (hF : 400 < F) (hi : i < 6) : (isW b e q i → ∃ τ, L_X12_needs F i σ = some τ ∧ tkT b e (nx b e q) τ ∧ vI τ 90 7 = 0 ∧ fm [] kG σ τ) ∧ (¬ isW b e q i → L_X12_needs F i σ = some (uI (uI σ 90 7 1) 90 8 (nI q))) := by
  unfold L_X12_needs
  rw [x_isWord h h7 (by omega) hi]
  refine ⟨fun hw => ?_, fun hw => ?_⟩
  · rw [if_pos hw, bd_o]
    obtain ⟨τ, t1, t2⟩ := x_goOn h.1 h7 hF
    have f1 := f_L_X12_goOn t1
    exact ⟨τ, by rw [t1, bd_s], t2, (f1.f (by decide) (fun h => nomatch h)).trans h7, f1⟩
  · rw [if_neg hw, bd_z, x_flaw h7, bd_s, h.2.2.1, x_goN (σ := uI (uI σ 90 7 1) 90 8 (nI q)) (show (0 : Int32) < 1 by decide), bd_s]
theorem dM_new {D : dD} {n i : Nat} {w : Nat × Nat} : dM (dNew D n w) i = if i = dK D then (n, 0, 0, fun _ _ => 0) else dM D i := rfl
theorem dN_new {D : dD} {n i : Nat} {w : Nat × Nat} : dN (dNew D n w) i = if i = dK D then w else dN D i := rfl
theorem rD.new {b : Nat → Int32} {e v : Nat} {w : Nat × Nat} {D : dD} {σ : sS} (h : rD b e D σ) (hK : dK D < 3) (hL : dL D ≠ 0) (hv : 1 ≤ v) (hv4 : v ≤ 4) (hw : wok b e w) : rD b e (dNew D v w) (uI (uI (uI (uI (uL σ 118 (dK D) (wdv b w.1 w.2)) 114 (3 + dK D) (nI v)) 115 (3 + dK D) 0) 116 (3 + dK D) 0) 90 22 (nI (dK D + 1))) := by
  obtain ⟨⟨o1, o2, o3, o4⟩, a1, a2, a3, a4⟩ := h
  have hM : mOk (dL D) (v, 0, 0, fun _ _ => 0) := ⟨hv, hv4, Nat.two_pow_pos _, Nat.two_pow_pos _, fun _ _ => Nat.two_pow_pos _, fun _ _ _ => rfl⟩
  refine ⟨⟨o1, show dK D + 1 ≤ 3 by omega, fun c => absurd c hL, fun i hi => ?_⟩, a1, rfl, fun i hi => ?_, fun i h1 h2 j hj => a4 i (by have : dK D + 1 ≤ i := h1; omega) h2 j hj⟩
  · have hi : i < dK D + 1 := hi
    rw [dM_new, dN_new]
    by_cases c : i = dK D
    · rw [if_pos c, if_pos c]; exact ⟨hM, hw⟩
    · rw [if_neg c, if_neg c]; exact o4 i (by omega)
  · have hi : i < dK D + 1 := hi
    rw [dM_new, dN_new]
    by_cases c : i = dK D
    · rw [if_pos c, if_pos c, c]
      refine ⟨⟨hM, ?_, ?_, ?_, fun s f hs hf => ?_⟩, ?_⟩
      · show u2 σ.1 114 (3 + dK D) (nI v) 114 (3 + dK D) = _
        rw [u2_s]; rfl
      · show u2 _ 115 (3 + dK D) 0 115 (3 + dK D) = _
        rw [u2_s]; rfl
      · show u2 _ 116 (3 + dK D) 0 116 (3 + dK D) = _
        rw [u2_s]; rfl
      · have := a4 (dK D) (by omega) hK (4 * s + f) (by omega)
        rw [← Nat.add_assoc] at this
        exact this
      · show u2 σ.2.1 118 (dK D) _ 118 (dK D) = _
        rw [u2_s]
    · rw [if_neg c, if_neg c]
      obtain ⟨⟨m0, n1, n2, n3, n4⟩, l⟩ := a3 i (by omega)
      refine ⟨⟨m0, ?_, ?_, ?_, n4⟩, ?_⟩
      · refine Eq.trans ?_ n1
        show u2 σ.1 114 (3 + dK D) (nI v) 114 (3 + i) = vI σ 114 (3 + i)
        unfold u2
        rw [if_neg (fun q => c (by have := q.2; omega))]
        rfl
      · refine Eq.trans ?_ n2
        show u2 σ.1 115 (3 + dK D) 0 115 (3 + i) = vI σ 115 (3 + i)
        unfold u2
        rw [if_neg (fun q => c (by have := q.2; omega))]
        rfl
      · refine Eq.trans ?_ n3
        show u2 σ.1 116 (3 + dK D) 0 116 (3 + i) = vI σ 116 (3 + i)
        unfold u2
        rw [if_neg (fun q => c (by have := q.2; omega))]
        rfl
      · refine Eq.trans ?_ l
        show u2 σ.2.1 118 (dK D) (wdv b w.1 w.2) 118 i = vL σ 118 i
        unfold u2
        rw [if_neg (fun q => c q.2)]
        rfl
theorem nI_3a {k : Nat} (h : k < 3) : (3 : Int32) + nI k = nI (3 + k) := by rw [show (3 : Int32) = nI 3 from rfl, nI_add]
theorem fo_new {ω : sS} {k : Nat} {l : Int64} {x y : Int32} : fo ω (uI (uI (uI (uI (uL ω 118 k l) 114 (3 + k) x) 115 (3 + k) 0) 116 (3 + k) 0) 90 22 y) := by
  refine ⟨fun j hj => ?_, fun j hj => ?_, fun j hj => ?_, fun j hj => rfl⟩
  · show u2 ω.1 114 (3 + k) x 114 j = vI ω 114 j
    unfold u2
    rw [if_neg (fun q => by have := q.2; omega)]
    rfl
  · show u2 ω.1 115 (3 + k) 0 115 j = vI ω 115 j
    unfold u2
    rw [if_neg (fun q => by have := q.2; omega)]
    rfl
  · show u2 ω.1 116 (3 + k) 0 116 j = vI ω 116 j
    unfold u2
    rw [if_neg (fun q => by have := q.2; omega)]
    rfl
theorem x_kxA {b : Nat → Int32} {e q F : Nat} {D : dD} {σ : sS} (h : tkT b e q σ) (h7 : vI σ 90 7 = 0) (hD : rD b e D σ) (hF : 400 < F) (hk : tkk b e q = 2) (hK : dK D < 3) (hL : dL D ≠ 0) : rP b e σ (if isW b e (nx b e q) 2 then pbd (sWhole b e (nx b e (nx b e q)) 1 4) (fun v => .inr (nx b e (nx b e (nx b e q)), dNew D v (q, tke b e q - q))) else .inl (1, nx b e q)) (kxA F σ) := by
  obtain ⟨-, -, -, k1, k2, k3⟩ := tkk_2 hk h.2.1
  have kw : wok b e (q, tke b e q - q) := ⟨k1, k2, by have := (tke_le (b := b) h.2.1).2; show q + (tke b e q - q) ≤ e; omega⟩
  unfold kxA
  simp only [bnd_s]
  rw [h.2.2.2.2.1 hk]
  obtain ⟨τ, t1, t2⟩ := x_goOn h.1 h7 hF
  have f1 := f_L_X12_goOn t1
  have t7 : vI τ 90 7 = 0 := (f1.f (by decide) (fun h => nomatch h)).trans h7
  have tD := hD.fm f1 (by decide) (by decide)
  rw [t1, bd_s]
  rw [show tq b e (tke b e q) = nx b e q from rfl] at t2
  generalize nx b e q = q1 at t2
  obtain ⟨hy, hn⟩ := x_needs (i := 2) t2 t7 hF (by decide)
  by_cases hw : isW b e q1 2
  · obtain ⟨υ, u1, u2, u3, u4⟩ := hy hw
    have uD := tD.fm u4 (by decide) (by decide)
    rw [if_pos hw, u1, bd_s]
    have hx := x_whole (l := 1) (m := 4) u2 u3 hF (by decide) (by decide)
    cases hs : sWhole b e (nx b e q1) 1 4 with
    | inl k =>
      obtain ⟨k, w⟩ := k
      rw [hs] at hx
      obtain ⟨v, ω, w1, w2, w3, w4, w5⟩ := hx
      rw [show L_X12_readWhole F 1 4 υ = some (v, ω) from w1, bd2_s, if_neg (f7_n w2 w3)]
      exact ⟨ω, rfl, w2, w3, w4, (fo.fm f1).tr ((fo.fm u4).tr (fo.fm w5))⟩
    | inr v =>
      rw [hs] at hx
      obtain ⟨v4, v1, ω, w1, w2, w3, w4⟩ := hx
      have wD := uD.fm w4 (by decide) (by decide)
      have e22 := wD.2.2.1
      rw [show L_X12_readWhole F 1 4 υ = some (nI v, ω) from w1, bd2_s, if_pos (f7_0 w3)]
      have g1 : ∀ (x : Int64), vI (uL ω 118 (nI (dK D)).toNatClampNeg x) 90 22 = nI (dK D) := fun x => e22
      have g2 : ∀ (x : Int64) (y : Int32) (j : Nat), vI (uI (uL ω 118 (nI (dK D)).toNatClampNeg x) 114 j y) 90 22 = nI (dK D) := fun x y j => e22
      have g3 : ∀ (x : Int64) (y y' : Int32) (j j' : Nat), vI (uI (uI (uL ω 118 (nI (dK D)).toNatClampNeg x) 114 j y) 115 j' y') 90 22 = nI (dK D) := fun x y y' j j' => e22
      have g4 : ∀ (x : Int64) (y y' y'' : Int32) (j j' j'' : Nat), vI (uI (uI (uI (uL ω 118 (nI (dK D)).toNatClampNeg x) 114 j y) 115 j' y') 116 j'' y'') 90 22 = nI (dK D) := fun x y y' y'' j j' j'' => e22
      simp only [e22, g1, g2, g3, g4, nI_3a hK, nI_1]
      rw [inb_n (by omega) (by omega), inb_n (by omega) (by omega), nI_clamp (by omega), nI_clamp (by omega)]
      simp only [grd_s]
      exact ⟨_, rfl, w2, w3, wD.new hK hL v1 v4 kw, ((fo.fm f1).tr ((fo.fm u4).tr (fo.fm w4))).tr fo_new⟩
  · rw [if_neg hw, hn hw, bd_s]
    have p1 : 0 < vI (uI (uI τ 90 7 1) 90 8 (nI q1)) 90 7 := show (0 : Int32) < 1 by decide
    obtain ⟨v, hv⟩ := x_wholeN (F := F) (l := 1) (m := 4) p1
    rw [hv, bd2_s, if_neg (Int32.not_le.mpr p1)]
    exact ⟨_, rfl, rfl, by decide, rfl, by have g := fo.fm f1; exact g⟩
