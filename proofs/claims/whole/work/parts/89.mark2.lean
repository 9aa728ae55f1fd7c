/-! lines of the tape: marks, edges (the reference) -/
theorem f7_0 {x : Int32} (h : x = 0) : x ≤ 0 := by rw [h]; decide
theorem f7_n {x k : Int32} (h : x = k) (hk : 0 < k) : ¬ x ≤ 0 := by rw [h]; exact Int32.not_le.mpr hk
theorem tb1 {x s : Nat} (hx : x < 16) (hs : s < 4) : ((nI x >>> (nI s &&& 31)) &&& 1) = 1 ↔ x.testBit s = true := by
  rw [b_tb x hx s hs]
  by_cases h : x.testBit s = true
  · rw [if_pos h]; simp [h]
  · rw [if_neg h]; simp [h]
theorem fo_115 {υ : sS} {k : Nat} {x : Int32} : fo υ (uI υ 115 (3 + k) x) := ⟨fun _ _ => rfl, fun j hj => by rw [vI_u, if_neg (fun c => by have := c.2; omega)], fun _ _ => rfl, fun _ _ => rfl⟩
theorem fo_116 {υ : sS} {k : Nat} {x : Int32} : fo υ (uI υ 116 (3 + k) x) := ⟨fun _ _ => rfl, fun _ _ => rfl, fun j hj => by rw [vI_u, if_neg (fun c => by have := c.2; omega)], fun _ _ => rfl⟩
theorem fo_117 {υ : sS} {k c f : Nat} {x : Int32} : fo υ (uI υ 117 (16 * (3 + k) + 4 * c + f) x) := ⟨fun _ _ => rfl, fun _ _ => rfl, fun _ _ => rfl, fun j hj => by rw [vI_u, if_neg (fun c => by have := c.2; omega)]⟩
theorem fo_fl {σ υ τ : sS} {k w : Int32} (h : fo (uI (uI υ 90 7 k) 90 8 w) τ) (g : fo σ υ) : fo σ τ := g.tr h
theorem xl_mark {b : Nat → Int32} {e q F z : Nat} {D : dD} {σ : sS} (h : tkT b e q σ) (h7 : vI σ 90 7 = 0) (hD : rD b e D σ) (hF : 400 < F) (hz : z = 0 ∨ z = 1) : rP b e σ (sMark b e q D z) (L_X12_readMark F (nI z) σ) := by
  have h3 := hD.1.2.1
  unfold sMark L_X12_readMark
  simp only [bnd_s]
  rw [x_needsA h h7 hD, bd_s, h.2.2.1]
  by_cases hK : dK D = 0
  · rw [if_pos hK, if_pos hK, if_neg (f7_n (x := vI (uI (uI σ 90 7 5) 90 8 (nI q)) 90 7) (k := 5) rfl (by decide))]
    exact ⟨_, rfl, rfl, by decide, rfl, fo.rf⟩
  · rw [if_neg hK, if_neg hK, if_pos (f7_0 h7)]
    obtain ⟨τ, t1, t2⟩ := x_goOn h.1 h7 hF
    have f1 := f_L_X12_goOn t1
    have t7 : vI τ 90 7 = 0 := (f1.f (by decide) (fun h => nomatch h)).trans h7
    have tD := hD.fm f1 (by decide) (by decide)
    rw [t1, bd_s]
    have hw := x_state t2 t7 tD hK hF
    rw [show tq b e (tke b e q) = nx b e q from rfl] at hw
    cases hs : sWhole b e (nx b e q) 0 (mN (dA D) - 1) with
    | inl k =>
      obtain ⟨k, w⟩ := k
      rw [hs] at hw
      obtain ⟨v, υ, u1, u2, u3, u4, u5⟩ := hw
      rw [u1, bd2_s, if_neg (f7_n u2 u3)]
      exact ⟨υ, rfl, u2, u3, u4, (fo.fm f1).tr (fo.fm u5)⟩
    | inr v =>
      rw [hs] at hw
      obtain ⟨v1, υ, u1, u2, u3, u4⟩ := hw
      have uD := tD.fm u4 (by decide) (by decide)
      obtain ⟨m0, n1, n2, n3, n4⟩ := uD.a hK
      have hb := m0.b
      have hn := m0.2.1
      rw [u1, bd2_s, if_pos (f7_0 u3), uD.2.2.1, nI_3k hK h3, inb_n (by omega) (by omega), grd_s, grd_s, nI_clamp (by omega), n2, n3]
      show rP b e σ (if _ then _ else _) _
      rcases hz with rfl | rfl
      · rw [if_pos (show nI 0 = 0 from rfl), if_pos (show (0 : Nat) = 0 from rfl), if_pos (show (0 : Nat) = 0 from rfl)]
        by_cases ht : (mF (dA D)).testBit v = true
        · rw [if_pos ht, if_pos ((tb1 hb.2.1 (by omega)).mpr ht)]
          unfold L_X12_flawAt L_X12_readMark_79
          rw [if_pos (f7_0 u3)]
          simp only [bnd_s, bd_s]
          rw [if_pos (show nI 0 = 0 from rfl), inb_n (by omega) (by omega), grd_s, grd_s, nI_clamp (by omega)]
          exact ⟨_, rfl, rfl, by decide, rfl, fo_fl fo_116 ((fo.fm f1).tr (fo.fm u4))⟩
        · rw [if_neg ht, if_neg (fun c => ht ((tb1 hb.2.1 (by omega)).mp c))]
          unfold L_X12_readMark_79
          rw [if_pos (show nI 0 = 0 from rfl), inb_n (by omega) (by omega), grd_s, grd_s, nI_clamp (by omega), n3, b_st _ hb.2.1 _ (by omega) ht]
          exact ⟨_, rfl, u2, u3, uD.mF hK v1, ((fo.fm f1).tr (fo.fm u4)).tr fo_116⟩
      · rw [if_neg (show ¬ nI 1 = 0 from i1n0), if_neg (show ¬ (1 : Nat) = 0 by decide), if_neg (show ¬ (1 : Nat) = 0 by decide)]
        by_cases ht : (mB (dA D)).testBit v = true
        · rw [if_pos ht, if_pos ((tb1 hb.1 (by omega)).mpr ht)]
          unfold L_X12_flawAt L_X12_readMark_79
          rw [if_pos (f7_0 u3)]
          simp only [bnd_s, bd_s]
          rw [if_neg (show ¬ nI 1 = 0 from i1n0), inb_n (by omega) (by omega), grd_s, grd_s, nI_clamp (by omega)]
          exact ⟨_, rfl, rfl, by decide, rfl, fo_fl fo_115 ((fo.fm f1).tr (fo.fm u4))⟩
        · rw [if_neg ht, if_neg (fun c => ht ((tb1 hb.1 (by omega)).mp c))]
          unfold L_X12_readMark_79
          rw [if_neg (show ¬ nI 1 = 0 from i1n0), inb_n (by omega) (by omega), grd_s, grd_s, nI_clamp (by omega), n2, b_st _ hb.1 _ (by omega) ht]
          exact ⟨_, rfl, u2, u3, uD.mB hK v1, ((fo.fm f1).tr (fo.fm u4)).tr fo_115⟩
