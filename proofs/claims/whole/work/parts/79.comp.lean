/-! the component's small calls: link, feed -/
theorem b_cl : ∀ x, x < 16 → ∀ t, t < 4 → x.testBit t = true → nI x &&& (((1 : Int32) <<< (nI t &&& 31)) ^^^ (-1)) = nI (x ^^^ 2 ^ t) := by decide +kernel
theorem b_st : ∀ x, x < 16 → ∀ t, t < 4 → ¬ x.testBit t = true → nI x ||| ((1 : Int32) <<< (nI t &&& 31)) = nI (x ^^^ 2 ^ t) := by decide +kernel
theorem rp_n {σ : sS} {r k : Nat} {x : Int32} (hk : k < vC σ r) (hk2 : k < 2 ^ 31) : rp σ r (nI k) x = uI σ r k x := by
  unfold rp
  rw [if_neg, nI_clamp hk2]
  rintro (q | q)
  · exact nI_pos hk2 q
  · rw [nI_clamp hk2] at q
    omega
theorem y_link {A : aS} {σ : sS} (h : C0 A σ) (a f c t z : Int32) (hz01 : z = 0 ∨ z = 1) : yAct A σ a (sp_link A a f c t z) (L_X11_link a f c t z σ) := by
  have h3 := h.c
  unfold L_X11_link sp_link
  rw [y_at h]
  simp only [bnd_s]
  by_cases ha : aOk (aC A) a = true
  · rw [if_pos ha]
    obtain ⟨i, hi, rfl⟩ := aOk_t ha (by omega)
    have hm := (h.m hi).1
    have h4 := hm.2.1
    rw [nI_clamp (by omega), isAu_n (by omega), grd_s, y_ha h hi]
    by_cases hq : aOk (mN (aMa A i)) f = true ∧ aOk (aG A) c = true ∧ aOk (mN (aMa A i)) t = true
    · rw [if_pos hq, if_neg i1n0]
      obtain ⟨hf, hc, ht⟩ := hq
      rw [if_pos ⟨ha, hf⟩, if_pos hc, if_pos ⟨ha, ht⟩]
      obtain ⟨j, hj, rfl⟩ := aOk_t hf (by omega)
      obtain ⟨k, hk, rfl⟩ := aOk_t ht (by omega)
      obtain ⟨g, hg, rfl⟩ := aOk_t hc (by omega)
      have he := hm.b.2.2 g j
      have hE := (h.mkE hi hg hj hk)
      have e : nI g * 4 + nI j = nI (g * 4 + j) := by rw [show (4 : Int32) = nI 4 from rfl, nI_mul, nI_add]
      have hcap : g * 4 + j < vC σ (27 + i + 3) := by
        rw [show 27 + i + 3 = 30 + i by omega, h.2.2.1.2.2.2.1 i (by omega)]
        omega
      unfold a_jn bit1
      rw [y_ar h hi (by omega) (by omega), y_in he (by omega), nI_clamp (by omega), nI_clamp (by omega), nI_clamp (by omega)]
      by_cases hz : (if (mE (aMa A i) g j).testBit k = true then (1 : Int32) else 0) = z
      · rw [if_pos hz, if_pos hz]
        exact yAct.r h 5 (by decide)
      · rw [if_neg hz, if_neg hz]
        have hsa : a_sa σ (27 + i) (nI j) (nI g) (nI k) z = uI σ (30 + i) (g * 4 + j) (nI (mE (aMa A i) g j ^^^ 2 ^ k)) := by
          unfold a_sa
          rw [y_ar h hi (by omega) (by omega), e, rp_n hcap (by omega), rp_n hcap (by omega), show 27 + i + 3 = 30 + i by omega]
          by_cases hb : (mE (aMa A i) g j).testBit k = true
          · rw [if_pos hb] at hz
            rcases hz01 with rfl | rfl
            · rw [if_pos rfl, b_cl _ he k (by omega) hb]
            · exact absurd rfl hz
          · rw [if_neg hb] at hz
            rcases hz01 with rfl | rfl
            · exact absurd rfl hz
            · rw [if_neg i1n0, b_st _ he k (by omega) hb]
        rw [hsa, y_changed hE (i := i) hi]
        simp only [bd_s]
        have hct := y_ct (hE.fg (i := i) (by omega) 0) (i := i) hi
        rw [setM_s] at hct
        refine ⟨uI (uI (uI σ (30 + i) (g * 4 + j) (nI (mE (aMa A i) g j ^^^ 2 ^ k))) (33 + i) 6 0) 0 10 0, ?_, (hE.fg (by omega) 0).ans (by decide), Or.inr ⟨i, _, _, _, hi, rfl, by omega, by omega, rfl⟩⟩
        rw [hct]
        rfl
    · rw [if_neg hq, if_pos rfl]
      by_cases h1 : aOk (mN (aMa A i)) f = true
      · rw [if_pos ⟨ha, h1⟩]
        by_cases h2 : aOk (aG A) c = true
        · rw [if_pos h2, if_neg (fun q => hq ⟨h1, h2, q.2⟩)]
          exact yAct.r h 1 (by decide)
        · rw [if_neg h2]
          exact yAct.r h 1 (by decide)
      · rw [if_neg (fun q => h1 q.2)]
        exact yAct.r h 1 (by decide)
  · rw [if_neg ha, if_neg (fun q => ha q.1)]
    exact yAct.r h 1 (by decide)
/-! feed -/
/-- k bytes are on the tape behind t -/
def fdP (t : Nat) (b : Nat → Int32) (s0 : sS) (k : Nat) (σ : sS) : Prop := vI σ 1 3 = nI (t + k) ∧ (∀ j, vI σ 2 j = if t ≤ j ∧ j < t + k then b (j - t) else vI s0 2 j) ∧ (∀ a j, a ≠ 2 → (a ≠ 1 ∨ j ≠ 3) → vI σ a j = vI s0 a j) ∧ σ.2 = s0.2
theorem fdP.st {t k : Nat} {b : Nat → Int32} {s0 σ : sS} {x s : Int32} (h : fdP t b s0 k σ) (hC : vC s0 2 = 400) (hk : t + k < 400) (hb : (x >>> (s &&& 31)) &&& 255 = b k) : fdP t b s0 (k + 1) (t_ap1 σ x s) := by
  obtain ⟨h1, h2, h3, h4⟩ := h
  have hv : vC σ 2 = 400 := by
    show σ.2.2.2.2.1 2 = 400
    rw [h4]
    exact hC
  have e : t_ap1 σ x s = uI (uI σ 2 (t + k) (b k)) 1 3 (nI (t + (k + 1))) := by
    unfold t_ap1
    rw [h1, rp_n (by rw [hv]; exact hk) (by omega), hb]
    have e2 : vI (uI σ 2 (t + k) (b k)) 1 3 = nI (t + k) := by rw [vI_u, if_neg (fun q => absurd q.1 (by decide))]; exact h1
    rw [e2, nI_1]
    rfl
  rw [e]
  refine ⟨rfl, fun j => ?_, fun a j ha hj => ?_, h4⟩
  · rw [vI_u, if_neg (fun q => absurd q.1 (by decide)), vI_u]
    by_cases hj : j = t + k
    · subst hj
      rw [if_pos ⟨rfl, rfl⟩, if_pos (by omega), Nat.add_sub_cancel_left]
    · rw [if_neg (fun q => hj q.2), h2 j]
      by_cases hj2 : t ≤ j ∧ j < t + k
      · rw [if_pos hj2, if_pos (by omega)]
      · rw [if_neg hj2, if_neg (by omega)]
  · rw [vI_u, if_neg (fun q => by rcases hj with p | p; exact p q.1; exact p q.2), vI_u, if_neg (fun q => ha q.1)]
    exact h3 a j ha hj
theorem fdP.ap {t k : Nat} {b : Nat → Int32} {s0 σ : sS} {x : Int32} (h : fdP t b s0 k σ) (hC : vC s0 2 = 400) (hk : t + k + 3 < 400) (h0 : (x >>> ((24 : Int32) &&& 31)) &&& 255 = b k) (h1 : (x >>> ((16 : Int32) &&& 31)) &&& 255 = b (k + 1)) (h2 : (x >>> ((8 : Int32) &&& 31)) &&& 255 = b (k + 2)) (h3 : (x >>> ((0 : Int32) &&& 31)) &&& 255 = b (k + 3)) : fdP t b s0 (k + 4) (t_ap σ x) :=
  (((h.st hC (by omega) h0).st hC (by omega) h1).st hC (by omega) h2).st hC (by omega) h3
theorem y_feed {A : aS} {σ : sS} (h : C0 A σ) (a b c d e : Int32) : ∃ τ, L_X11_feed a b c d e σ = some ((sp_feed A a b c d e).1, τ) ∧ C0 (sp_feed A a b c d e).2 τ ∧ (∀ x j, x ≠ 1 → x ≠ 2 → vI τ x j = vI σ x j) ∧ τ.2 = σ.2 := by
  obtain ⟨⟨t1, t2, t3, t4⟩, ⟨a1, a2, a3, a4, a5⟩, ⟨m1, m2, m3, m4, m5⟩, hs⟩ := id h
  have e20 : vI σ 1 3 + 20 = nI (aT A + 20) := by rw [t2, show (20 : Int32) = nI 20 from rfl, nI_add]
  have hcc : (400 : Int32) < nI (aT A + 20) ↔ 400 < aT A + 20 := nI_ltI (a := 400) (b := aT A + 20) (by decide) (by omega)
  unfold L_X11_feed sp_feed
  rw [e20]
  simp only [bnd_s]
  by_cases hc : aT A + 20 ≤ 400
  · rw [if_neg (show ¬ (400 : Int32) < nI (aT A + 20) from fun q => by have := hcc.mp q; omega), if_neg i1n0, if_pos hc]
    have p0 : fdP (aT A) (fdb a b c d e) σ 0 σ := ⟨t2, fun j => by rw [if_neg (by omega)], fun _ _ _ _ => rfl, rfl⟩
    have p1 := p0.ap (x := a) t4 (by omega) rfl rfl rfl rfl
    have p2 := p1.ap (x := b) t4 (by omega) rfl rfl rfl rfl
    have p3 := p2.ap (x := c) t4 (by omega) rfl rfl rfl rfl
    have p4 := p3.ap (x := d) t4 (by omega) rfl rfl rfl rfl
    have p5 := p4.ap (x := e) t4 (by omega) rfl rfl rfl rfl
    generalize t_ap (t_ap (t_ap (t_ap (t_ap σ a) b) c) d) e = τ at p5 ⊢
    obtain ⟨q1, q2, q3, q4⟩ := p5
    have q : ∀ {x j : Nat}, x ≠ 1 → x ≠ 2 → vI τ x j = vI σ x j := fun h1 h2 => q3 _ _ h2 (Or.inl h1)
    refine ⟨τ, by rw [q1], ⟨⟨hc, q1, fun j hj => ?_, ?_⟩, ⟨(q3 1 7 (by decide) (Or.inr (by decide))).trans a1, (q (by decide) (by decide)).trans a2, fun e => (q3 1 8 (by decide) (Or.inr (by decide))).trans (a3 e), a4, (q (by decide) (by decide)).trans a5⟩, ⟨m1, m2, (q (by decide) (by decide)).trans m3, fun x hx => ?_, fun x hx => ?_⟩, ?_⟩, fun x j h1 h2 => q h1 h2, q4⟩
    · show vI τ 2 j = if aT A ≤ j ∧ j < aT A + 20 then _ else aB A j
      rw [q2 j]
      by_cases hj2 : aT A ≤ j ∧ j < aT A + 20
      · rw [if_pos (by omega), if_pos hj2]
      · rw [if_neg (by omega), if_neg hj2]
        exact t3 j hj
    · show τ.2.2.2.2.1 2 = 400
      rw [q4]
      exact t4
    · show τ.2.2.2.2.1 (30 + x) = 12
      rw [q4]
      exact m4 x hx
    · obtain ⟨n0, n1, n2, n3, n4, n5⟩ := m5 x hx
      exact ⟨n0, (q (by omega) (by omega)).trans n1, (q (by omega) (by omega)).trans n2, (q (by omega) (by omega)).trans n3, (q (by omega) (by omega)).trans n4, fun s g hs hg => (q (by omega) (by omega)).trans (n5 s g hs hg)⟩
    · unfold cS0 at hs ⊢
      show match aSh A with
        | none => vI τ 56 6 = 0
        | some w => _
      cases hq : aSh A with
      | none => rw [hq] at hs; exact (q (by decide) (by decide)).trans hs
      | some w =>
        rw [hq] at hs
        obtain ⟨s1, s2, s3, s4, s5, s6⟩ := hs
        exact ⟨(q (by decide) (by decide)).trans s1, s2, s3, (q (by decide) (by decide)).trans s4, (q (by decide) (by decide)).trans s5, fun j hj => (q (by decide) (by decide)).trans (s6 j hj)⟩
  · rw [if_pos (hcc.mpr (by omega)), if_pos rfl, if_neg hc]
    exact ⟨σ, rfl, h, fun _ _ _ _ => rfl, rfl⟩
