/-! lines of the tape: edges (the reference) -/
theorem x_stateN {b : Nat → Int32} {e F : Nat} {D : dD} {σ : sS} (hD : rD b e D σ) (hK : dK D ≠ 0) (h : 0 < vI σ 90 7) : ∃ v, L_X12_readState F σ = some (v, σ) := by
  have h3 := hD.1.2.1
  unfold L_X12_readState
  rw [hD.2.2.1, nI_3k hK h3, inb_n (by omega) (by omega), grd_s, bd2_id]
  exact x_wholeN h
theorem x_edgeN {b : Nat → Int32} {e F : Nat} {D : dD} {x y z : Int32} {σ : sS} (hD : rD b e D σ) (hK : dK D ≠ 0) (h : 0 < vI σ 90 7) : L_X12_readEdge_62 F x y z σ = some σ := by
  obtain ⟨v, hv⟩ := x_stateN (F := F) hD hK h
  unfold L_X12_readEdge_62
  simp only [bnd_s]
  rw [x_goN h]
  simp only [bd_s]
  rw [hv, bd2_s, bd2_s, if_neg (Int32.not_le.mpr h), if_neg (Int32.not_le.mpr h)]
  split
  · rfl
  · rfl
theorem x_edgeN1 {b : Nat → Int32} {e F : Nat} {D : dD} {x y : Int32} {σ : sS} (hD : rD b e D σ) (hK : dK D ≠ 0) (h : 0 < vI σ 90 7) : L_X12_readEdge_51 F x y σ = some σ := by
  unfold L_X12_readEdge_51
  rw [x_flawN h, bd_s, x_edgeN hD hK h]
theorem wN_1 {b : Nat → Int32} {q k : Nat} (h : smA b q (k + 1)) : 1 ≤ wN b q (k + 1) := by
  obtain ⟨x, e, h2, h3⟩ := kSm_n (h k (by omega))
  rw [wN, e, nI_clamp (by omega)]
  omega
theorem l3_64 : ∀ l, l < 4 → (nI l).toInt64 = Int64.ofNat l := by decide +kernel
theorem c26 : ∀ x, x < 123 → 97 ≤ x → ((0 : Int64) * 32 + (nI x).toInt64 - 97 + 1).toInt32 - 1 = nI (x - 97) ∧ nI x - 97 = nI (x - 97) := by decide +kernel
theorem wd_let {b : Nat → Int32} {e q l : Nat} (h : tkk b e q = 2) (hq : q ≤ e) (hl : l ≤ 3) : (0 < lg_cmp (wdv b q (tke b e q - q)) (nI l).toInt64) ↔ ¬ (tke b e q - q = 1 ∧ (b q - 97).toNatClampNeg < l) := by
  obtain ⟨-, hs, -, k1, k2, k3⟩ := tkk_2 h hq
  obtain ⟨x, e1, x1, x2⟩ := kSm_n hs
  obtain ⟨n, hn⟩ : ∃ n, tke b e q - q = n + 1 := ⟨tke b e q - q - 1, by omega⟩
  rw [hn] at k1 k2 ⊢
  rw [lg_cmp_gt, l3_64 l (by omega), wdv_N _ k1 k2, Int64.lt_iff_toInt_lt, Int64.toInt_ofNat_of_lt (by omega), Int64.toInt_ofNat_of_lt (wN_63 k1 k2), e1, (c26 x (by omega) x1).2, nI_clamp (by omega)]
  cases n with
  | zero =>
    have e2 : wN b q (0 + 1) = x - 96 := by
      rw [wN, wN, Nat.add_zero, e1, nI_clamp (by omega)]
      omega
    rw [e2]
    omega
  | succ n =>
    have h1 := wN_1 (k := n) (fun j hj => k2 j (by omega))
    rw [wN]
    omega
theorem wd_c {b : Nat → Int32} {e q : Nat} (h : tkk b e q = 2) (hq : q ≤ e) (h1 : tke b e q - q = 1) : (wdv b q (tke b e q - q)).toInt32 - 1 = nI (b q - 97).toNatClampNeg := by
  obtain ⟨-, hs, -, k1, k2, k3⟩ := tkk_2 h hq
  obtain ⟨x, e1, x1, x2⟩ := kSm_n hs
  rw [h1, e1, (c26 x (by omega) x1).2, nI_clamp (by omega), wdv, if_pos (by omega), wdv, Nat.add_zero, e1]
  exact (c26 x (by omega) x1).1
theorem xl_edge {b : Nat → Int32} {e q F : Nat} {D : dD} {σ : sS} (h : tkT b e q σ) (h7 : vI σ 90 7 = 0) (hD : rD b e D σ) (hF : 400 < F) : rP b e σ (sEdge b e q D) (L_X12_readEdge F σ) := by
  have h3 := hD.1.2.1
  have hL := hD.1.1
  unfold sEdge L_X12_readEdge
  simp only [bnd_s]
  rw [x_needsA h h7 hD, bd_s, h.2.2.1]
  by_cases hK : dK D = 0
  · rw [if_pos hK, if_pos hK, if_neg (f7_n (x := vI (uI (uI σ 90 7 5) 90 8 (nI q)) 90 7) (k := 5) rfl (by decide))]
    exact ⟨_, rfl, rfl, by decide, rfl, fo.rf⟩
  · rw [if_neg hK, if_neg hK, if_pos (f7_0 h7)]
    obtain ⟨τ, t1, t2⟩ := x_goOn h.1 h7 hF
    have f1 := f_L_X12_goOn t1
    have t7 : vI τ 90 7 = 0 := (f1.f (by decide) (fun h => nomatch h)).trans h7
    have tD := hD.fm f1 (by decide) (by decide)
    rw [t1, bd_s]
    have hw := x_state t2 t7 tD hK hF
    rw [show tq b e (tke b e q) = nx b e q from rfl] at hw
    cases hs : sWhole b e (nx b e q) 0 (mN (dA D) - 1) with
    | inl k =>
      obtain ⟨k, w⟩ := k
      rw [hs] at hw
      obtain ⟨v, υ, u1, u2, u3, u4, u5⟩ := hw
      have uD := tD.fm u5 (by decide) (by decide)
      have up : 0 < vI υ 90 7 := by rw [u2]; exact u3
      rw [u1, bd2_s, x_edgeN uD hK up, x_edgeN1 uD hK up]
      refine ⟨υ, ?_, u2, u3, u4, (fo.fm f1).tr (fo.fm u5)⟩
      split
      · split
        · rfl
        · rfl
      · rfl
    | inr f =>
      rw [hs] at hw
      obtain ⟨v1, υ, u1, u2, u3, u4⟩ := hw
      have uD := tD.fm u4 (by decide) (by decide)
      rw [u1, bd2_s, u2.2.2.2.1, uD.2.1]
      show rP b e σ (if tkk b e (nx b e (nx b e q)) = 2 ∧ tke b e (nx b e (nx b e q)) - nx b e (nx b e q) = 1 ∧ (b (nx b e (nx b e q)) - 97).toNatClampNeg < dL D then _ else _) _
      have bad : rP b e σ (.inl (1, nx b e (nx b e q))) (L_X12_readEdge_51 F (nI q) (nI f) υ) := by
        unfold L_X12_readEdge_51
        have g : rD b e D (uI (uI υ 90 7 1) 90 8 (nI (nx b e (nx b e q)))) := uD.fm (fm_flaw) (by decide) (by decide)
        rw [x_flaw u3, bd_s, u2.2.2.1, x_edgeN g hK (show (0 : Int32) < 1 by decide)]
        exact ⟨_, rfl, rfl, by decide, rfl, by have g := (fo.fm f1).tr (fo.fm u4); exact g⟩
      generalize nx b e (nx b e q) = q2 at u2 bad
      by_cases k2 : tkk b e q2 = 2
      · rw [if_pos k2, u2.2.2.2.2.1 k2]
        by_cases kl : tke b e q2 - q2 = 1 ∧ (b q2 - 97).toNatClampNeg < dL D
        · rw [if_pos ⟨k2, kl⟩, if_neg (fun c => (wd_let k2 u2.2.1 hL).mp c kl)]
          unfold L_X12_readEdge_62
          rw [if_neg i1n0]
          simp only [bnd_s]
          rw [u2.2.2.2.2.1 k2, wd_c k2 u2.2.1 kl.1]
          generalize (b q2 - 97).toNatClampNeg = c at kl
          obtain ⟨ρ, r1, r2⟩ := x_goOn u2.1 u3 hF
          have f2 := f_L_X12_goOn r1
          have r7 : vI ρ 90 7 = 0 := (f2.f (by decide) (fun h => nomatch h)).trans u3
          have rDD := uD.fm f2 (by decide) (by decide)
          rw [r1, bd_s]
          have hw2 := x_state r2 r7 rDD hK hF
          rw [show tq b e (tke b e q2) = nx b e q2 from rfl] at hw2
          cases hs2 : sWhole b e (nx b e q2) 0 (mN (dA D) - 1) with
          | inl k =>
            obtain ⟨k, w⟩ := k
            rw [hs2] at hw2
            obtain ⟨v, ω, w1, w2, w3, w4, w5⟩ := hw2
            rw [w1, bd2_s, if_neg (f7_n w2 w3)]
            exact ⟨ω, rfl, w2, w3, w4, ((fo.fm f1).tr (fo.fm u4)).tr ((fo.fm f2).tr (fo.fm w5))⟩
          | inr t =>
            rw [hs2] at hw2
            obtain ⟨t3, ω, w1, w2, w3, w4⟩ := hw2
            have wD := rDD.fm w4 (by decide) (by decide)
            obtain ⟨m0, n1, n2, n3, n4⟩ := wD.a hK
            have hb := m0.b
            have hn := m0.2.1
            have ei : (16 : Int32) * ((3 : Int32) + nI (dK D) - 1) + (4 : Int32) * nI c + nI f = nI (16 * (3 + (dK D - 1)) + 4 * c + f) := by
              rw [nI_3k hK h3, show (16 : Int32) = nI 16 from rfl, show (4 : Int32) = nI 4 from rfl, nI_mul, nI_mul, nI_add, nI_add]
            rw [w1, bd2_s, if_pos (f7_0 w3), wD.2.2.1, ei, inb_n (by omega) (by omega), grd_s, nI_clamp (by omega), n4 c f (by omega) (by omega)]
            show rP b e σ (if (mE (dA D) c f).testBit t = true then _ else _) _
            by_cases ht : (mE (dA D) c f).testBit t = true
            · rw [if_pos ht, if_pos ((tb1 (hb.2.2 c f) (by omega)).mpr ht)]
              unfold L_X12_flawAt L_X12_readEdge_139
              rw [if_pos (f7_0 w3)]
              simp only [bnd_s, bd_s]
              rw [inb_n (by omega) (by omega), grd_s, grd_s, nI_clamp (by omega)]
              exact ⟨_, rfl, rfl, by decide, rfl, fo_fl fo_117 (((fo.fm f1).tr (fo.fm u4)).tr ((fo.fm f2).tr (fo.fm w4)))⟩
            · rw [if_neg ht, if_neg (fun c => ht ((tb1 (hb.2.2 _ f) (by omega)).mp c))]
              unfold L_X12_readEdge_139
              rw [inb_n (by omega) (by omega), grd_s, grd_s, nI_clamp (by omega), n4 c f (by omega) (by omega), b_st _ (hb.2.2 c f) _ (by omega) ht]
              exact ⟨_, rfl, w2, w3, wD.mE hK kl.2 v1 t3, (((fo.fm f1).tr (fo.fm u4)).tr ((fo.fm f2).tr (fo.fm w4))).tr fo_117⟩
        · rw [if_neg (fun c => kl c.2), if_pos ((wd_let k2 u2.2.1 hL).mpr kl)]
          exact bad
      · rw [if_neg (fun c => k2 c.1), if_neg k2]
        exact bad
