/-! rank, next, nodes (the reference) -/
theorem x_rank {A : aS} {σ : sS} {F : Nat} (hF : 4097 < F) (h : RI A σ) (hI : aI A) (a n s : Int32) : xRI (sp_rank A a n s) (L_X12_rank F a n s σ) := by
  have h := h.z 0
  have h3 := h.1.c
  unfold L_X12_rank sp_rank
  simp only [bnd_s]
  rw [x_isState h.1, bd_s]
  generalize uI σ 90 0 0 = ρ at h ⊢
  by_cases ha : aOk (aC A) a = true ∧ aOk (mN (aMa A a.toNatClampNeg)) s = true
  · rw [if_pos ha, if_pos ha, if_neg i1n0]
    obtain ⟨ha, hs⟩ := ha
    obtain ⟨i, hi, rfl⟩ := aOk_t ha (by omega)
    have hm4 := (h.1.m hi).1.2.1
    rw [nI_clamp (by omega)] at hs ⊢
    obtain ⟨s, hs4, rfl⟩ := aOk_t hs (by omega)
    rw [nI_clamp (show s < 2 ^ 31 by omega)]
    by_cases hn0 : n < 0
    · rw [if_pos hn0, if_neg (Int32.not_le.mpr hn0)]
      exact xRI.r h 1
    · rw [if_neg hn0, if_pos (Int32.not_lt.mp hn0)]
      obtain ⟨n, hn, rfl⟩ := nI_of hn0
      rw [nI_clamp hn]
      unfold L_X12_whyNot
      rcases x_std hF h hI hi with ⟨hq, τ, t1, t2, -⟩ | ⟨v, τ, hq, t1, t2, t3, t4, -⟩
      · rw [hq, t1, bd2_s, if_pos rfl, bd2_s, if_neg (by decide)]
        exact xRI.r t2 3
      · have hN := t4.1.2.1
        rw [hq, t1, bd2_s, if_neg i1n0, t3.1.2.1]
        show xRI (if n < zN v.1 then _ else _) _
        by_cases hlt : n < zN v.1
        · rw [if_pos hlt, if_pos (nI_lt hlt (by omega)), bd2_s, if_pos (show (0 : Int32) ≤ 0 by decide)]
          obtain ⟨o, r1, r2, r3, r4⟩ := t3.1.2.2.2.2.1 n hlt
          have n2 : ∀ k, k < 8 → ¬ nI k = -2 := by decide +kernel
          rw [inb_n (by omega) (by omega), grd_s, grd_s, grd_s, r1, r2, r3, b_tb _ o.1 s (by omega), x_rankIn o.P.1 (by omega)]
          unfold ndT
          by_cases g0 : (zX v.1 n).2.1 = 0
          · rw [if_pos g0, if_pos g0, if_pos rfl]
            exact xRI.g t2 _
          · rw [if_neg g0, if_neg g0, if_neg (n2 _ o.P.2)]
            by_cases b : (zX v.1 n).1.testBit s = true
            · rw [if_pos b, if_pos b, if_neg i1n0]
              exact xRI.g t2 _
            · rw [if_neg b, if_neg b, if_pos rfl]
              exact xRI.g t2 _
        · rw [if_neg hlt, if_neg (fun q => hlt ((nI_ltI hn (by omega)).mp q)), bd2_s, if_neg (by decide)]
          exact xRI.r t2 1
  · rw [if_neg ha, if_neg ha, if_pos rfl]
    exact xRI.r h 1
theorem x_fan {G n s : Nat} {M : aM} {v : zS × (Nat → Nat)} {σ : sS} (h : rCv G v σ) (hO : cO M G v) (hG : 1 ≤ G) (hG3 : G ≤ 3) (hn : n < zN v.1) (hs : s < G) : L_X12_edgesFrom (nI n) (nI s) σ = some (nI (v.2 (n * G + s + 1) - v.2 (n * G + s))) ∧ vI σ 130 (3 * n + s) = nI (v.2 (n * G + s)) ∧ v.2 (n * G + s) ≤ v.2 (n * G + s + 1) ∧ v.2 (n * G + s + 1) ≤ zE v.1 := by
  have hN := hO.1.2.1
  obtain ⟨s1, s2⟩ := x_st (n := n) h hG hG3
  have e1 := s1 s hn (by omega)
  rw [show min s G = s from Nat.min_eq_left (by omega)] at e1
  have hb : n * G + G ≤ zN v.1 * G := by
    have : (n + 1) * G ≤ zN v.1 * G := Nat.mul_le_mul_right _ (by omega)
    rw [Nat.succ_mul] at this
    exact this
  have m1 := hO.2.2.1.le (a := n * G + s) (b := n * G + s + 1) (by omega) (by omega)
  have m2 := hO.2.2.1.le (a := n * G + s + 1) (b := zN v.1 * G) (by omega) (by omega)
  rw [hO.2.2.2] at m2
  have e2 : vI σ 130 (3 * n + s + 1) = nI (v.2 (n * G + s + 1)) := by
    by_cases c : s + 1 < 3
    · have := s1 (s + 1) hn c
      rw [show min (s + 1) G = s + 1 from Nat.min_eq_left (by omega)] at this
      exact this
    · have es : s = 2 := by omega
      have eG : G = 3 := by omega
      subst es
      subst eG
      have := s2 hn
      rw [show 3 * (n + 1) = 3 * n + 2 + 1 by omega, show (n + 1) * 3 = n * 3 + 2 + 1 by omega] at this
      exact this
  refine ⟨?_, e1, m1, m2⟩
  unfold L_X12_edgesFrom
  rw [i3n, nI_1, inb_n (by omega) (by omega), inb_n (by omega) (by omega), grd_s, grd_s, nI_clamp (by omega), nI_clamp (by omega), e1, e2, nI_sb m1]
theorem x_next {A : aS} {σ : sS} {F : Nat} (hF : 4097 < F) (h : RI A σ) (hI : aI A) (a n s k : Int32) : xRI (sp_next A a n s k) (L_X12_next F a n s k σ) := by
  have h := h.z 0
  have h3 := h.1.c
  unfold L_X12_next sp_next
  simp only [bnd_s]
  rw [x_isAuto h.1, bd_s]
  generalize uI σ 90 0 0 = ρ at h ⊢
  by_cases ha : aOk (aC A) a = true
  · obtain ⟨i, hi, rfl⟩ := aOk_t ha (by omega)
    have hG1 : 1 ≤ aG A := hI.resolve_left (by omega)
    rw [if_pos ha, if_pos ha, if_neg i1n0, nI_clamp (by omega)]
    by_cases hn0 : n < 0
    · rw [if_pos hn0, if_pos hn0]
      exact xRI.r h 1
    · rw [if_neg hn0, if_neg hn0, x_isLetter h.1, bd_s]
      by_cases hs : aOk (aG A) s = true
      · rw [if_pos hs, if_pos hs, if_neg i1n0]
        obtain ⟨s, hs3, rfl⟩ := aOk_t hs (by omega)
        by_cases hk0 : k < 0
        · rw [if_pos hk0, if_neg (Int32.not_le.mpr hk0)]
          exact xRI.r h 1
        · rw [if_neg hk0, if_pos (Int32.not_lt.mp hk0)]
          obtain ⟨n, hn, rfl⟩ := nI_of hn0
          obtain ⟨k, hk, rfl⟩ := nI_of hk0
          rw [nI_clamp hn, nI_clamp hk, nI_clamp (show s < 2 ^ 31 by omega)]
          unfold L_X12_whyNot
          rcases x_std hF h hI hi with ⟨hq, τ, t1, t2, -⟩ | ⟨v, τ, hq, t1, t2, t3, t4, -⟩
          · rw [hq, t1, bd2_s, if_pos rfl, bd2_s, if_neg (by decide)]
            exact xRI.r t2 3
          · have hN := t4.1.2.1
            have hE := t4.2.1
            rw [hq, t1, bd2_s, if_neg i1n0, t3.1.2.1]
            show xRI (if n < zN v.1 then _ else _) _
            by_cases hlt : n < zN v.1
            · obtain ⟨f1, f2, f3, f4⟩ := x_fan t3 t4 hG1 h3.2 hlt hs3
              rw [if_pos hlt, if_pos (nI_lt hlt (by omega)), bd2_s, if_pos (show (0 : Int32) ≤ 0 by decide), f1, bd_s]
              by_cases hc : k < v.2 (n * aG A + s + 1) - v.2 (n * aG A + s)
              · rw [if_neg (nI_ge hc (by omega)), if_pos hc, i3n, inb_n (by omega) (by omega), grd_s, nI_clamp (by omega), f2, nI_add, inb_n (by omega) (by omega), grd_s, nI_clamp (by omega), t3.1.2.2.2.2.2.2.2 _ (by omega)]
                exact xRI.g t2 _
              · rw [if_pos (nI_le (by omega) hk), if_neg hc]
                exact xRI.g t2 _
            · rw [if_neg hlt, if_neg (fun q => hlt ((nI_ltI hn (by omega)).mp q)), bd2_s, if_neg (by decide)]
              exact xRI.r t2 1
      · rw [if_neg hs, if_neg hs, if_pos rfl]
        exact xRI.r h 1
  · rw [if_neg ha, if_neg ha, if_pos rfl]
    exact xRI.r h 1
theorem x_47 {z : zS} {x0 : nd} {S : Nat → Nat} {w : Int32} {σ : sS} {F : Nat} (hF : 300 < F) (h : rZ z σ) (hO : zO x0 z) (hw : aOk 3 w = true) (kx : Int32 → Option (Int32 × sS)) : ∀ (k m f : Nat), m + k = zN z → k < f → L_X12_nodes_47 F w σ kx f (nI (cntF (nsel (z, S) w) (zX z) m)) (nI m) = kx (nI (cntF (nsel (z, S) w) (zX z) (zN z))) := by
  have hN := h.1
  obtain ⟨j, hj, rfl⟩ := aOk_t hw (by omega)
  have n2 : ∀ k, k < 8 → ¬ nI k = -2 := by decide +kernel
  intro k
  induction k with
  | zero =>
    intro m f hm hf
    obtain ⟨f, rfl⟩ : ∃ k, f = k + 1 := ⟨f - 1, by omega⟩
    rw [L_X12_nodes_47, h.2.1, if_pos (nI_le (by omega) (by omega)), show m = zN z by omega]
  | succ k ih =>
    intro m f hm hf
    obtain ⟨f, rfl⟩ : ∃ k, f = k + 1 := ⟨f - 1, by omega⟩
    have hmz : m < zN z := by omega
    obtain ⟨o, r1, r2, r3, r4⟩ := h.2.2.2.2.1 m hmz
    have key := ih (m + 1) f (by omega) (by omega)
    rw [cntF] at key
    rw [L_X12_nodes_47, h.2.1, if_neg (nI_ge (by omega) (by omega)), inb_n (by omega) (by omega), grd_s, nI_clamp (by omega), r2, x_fin h hmz, x_below hF h hO hmz]
    simp only [bnd_s, bd_s]
    simp only [nI_1, Int32.add_zero]
    have yes : nsel (z, S) (nI j) (zX z m) = true → L_X12_nodes_47 F (nI j) σ kx f (nI (cntF (nsel (z, S) (nI j)) (zX z) m + 1)) (nI (m + 1)) = kx (nI (cntF (nsel (z, S) (nI j)) (zX z) (zN z))) := fun b => by rw [if_pos b] at key; exact key
    have no : ¬ nsel (z, S) (nI j) (zX z m) = true → L_X12_nodes_47 F (nI j) σ kx f (nI (cntF (nsel (z, S) (nI j)) (zX z) m)) (nI (m + 1)) = kx (nI (cntF (nsel (z, S) (nI j)) (zX z) (zN z))) := fun b => by rw [if_neg b] at key; exact key
    have eS : ∀ x, nsel (z, S) (nI j) x = if nI j = 0 then decide (x.2.1 = 0) else if nI j = 1 then nfin x else decide (x.2.1 ≠ 0) && decide (cntF (nbel x) (zX z) (zN z) = 0) := fun x => rfl
    have hT : ndT (zX z m) = -2 ↔ (zX z m).2.1 = 0 := by
      unfold ndT
      by_cases g0 : (zX z m).2.1 = 0
      · rw [if_pos g0]; exact ⟨fun _ => g0, fun _ => rfl⟩
      · rw [if_neg g0]; exact ⟨fun q => absurd q (n2 _ o.P.2), fun q => absurd q g0⟩
    have hj' : j = 0 ∨ j = 1 ∨ j = 2 := by omega
    rcases hj' with rfl | rfl | rfl
    · rw [if_pos (show nI 0 = 0 from rfl), if_pos (show nI 0 = 0 from rfl)]
      have e0 : ∀ x, nsel (z, S) (nI 0) x = decide (x.2.1 = 0) := fun x => rfl
      by_cases g0 : (zX z m).2.1 = 0
      · rw [if_pos (hT.mpr g0)]
        exact yes (by rw [e0]; exact decide_eq_true g0)
      · rw [if_neg (fun q => g0 (hT.mp q))]
        exact no (by rw [e0, decide_eq_false g0]; decide)
    · rw [if_neg (show ¬ nI 1 = 0 by decide), if_neg (show ¬ nI 1 = 0 by decide), if_pos (show nI 1 = 1 from rfl), if_pos (show nI 1 = 1 from rfl)]
      have e0 : ∀ x, nsel (z, S) (nI 1) x = nfin x := fun x => rfl
      by_cases b : nfin (zX z m) = true
      · rw [if_pos b, if_neg i1n0]
        split
        · exact yes (by rw [e0]; exact b)
        · exact yes (by rw [e0]; exact b)
      · rw [if_neg b, if_pos rfl]
        split
        · exact no (by rw [e0]; exact b)
        · exact no (by rw [e0]; exact b)
    · rw [if_neg (show ¬ nI 2 = 0 by decide), if_neg (show ¬ nI 2 = 0 by decide), if_neg (show ¬ nI 2 = 1 by decide), if_neg (show ¬ nI 2 = 1 by decide)]
      have e0 : ∀ x, nsel (z, S) (nI 2) x = (decide (x.2.1 ≠ 0) && decide (cntF (nbel x) (zX z) (zN z) = 0)) := fun x => rfl
      by_cases g0 : (zX z m).2.1 = 0
      · rw [if_pos (hT.mpr g0)]
        exact no (by rw [e0]; simp [g0])
      · rw [if_neg (fun q => g0 (hT.mp q))]
        have hc := cntF_le (p := nbel (zX z m)) (X := zX z) (zN z)
        by_cases b : cntF (nbel (zX z m)) (zX z) (zN z) = 0
        · rw [if_pos (by rw [b]; rfl)]
          exact yes (by rw [e0]; simp [g0, b])
        · rw [if_neg (fun q => b ((nI_k0 (by omega)).mp q))]
          exact no (by rw [e0]; simp [b])
theorem x_nodes {A : aS} {σ : sS} {F : Nat} (hF : 4097 < F) (h : RI A σ) (hI : aI A) (a w : Int32) : xRI (sp_nodes A a w) (L_X12_nodes F a w σ) := by
  have h := h.z 0
  have h3 := h.1.c
  unfold L_X12_nodes sp_nodes
  simp only [bnd_s]
  rw [x_isAuto h.1, bd_s]
  generalize uI σ 90 0 0 = ρ at h ⊢
  by_cases ha : aOk (aC A) a = true
  · obtain ⟨i, hi, rfl⟩ := aOk_t ha (by omega)
    rw [if_pos ha, if_pos ha, if_neg i1n0, nI_clamp (by omega), show L_X12_in w 0 2 = _ from x_long (n := 2) (by decide)]
    by_cases hw : aOk 3 w = true
    · rw [if_pos hw, if_pos (show aOk (2 + 1) w = true from hw), if_neg i1n0]
      rcases x_std hF h hI hi with ⟨hq, τ, t1, t2, -⟩ | ⟨v, τ, hq, t1, t2, t3, t4, -⟩
      · rw [hq, t1, bd2_s, if_pos rfl]
        exact xRI.r t2 3
      · have hN := t4.1.2.1
        rw [hq, t1, bd2_s, if_neg i1n0]
        have e := x_47 (F := F) (S := v.2) (by omega) t3.1 t4.1 hw (fun yq13 => bd2 (L_X12_good yq13 τ) (fun rq15 σ16 => some (rq15, σ16))) (zN v.1) 0 F (by omega) (by omega)
        rw [show L_X12_nodes_47 F w τ _ F 0 0 = _ from e]
        exact xRI.g t2 _
    · rw [if_neg hw, if_neg (show ¬ aOk (2 + 1) w = true from hw), if_pos rfl]
      exact xRI.r h 1
  · rw [if_neg ha, if_neg ha, if_pos rfl]
    exact xRI.r h 1
