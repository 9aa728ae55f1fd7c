/-! takes, lacks: the component -/
noncomputable def tkv (G : gG) (u v : List Nat) : Int32 := if bP (tak G u v) = true then 1 else 0
noncomputable def sp_takes (A : aS) (a x : Int32) : Int32 × aS := if aOk (aC A) a = true then sp_las A x (fun B u v => aGood B (tkv (G0 (aMa A a.toNatClampNeg) (aG A)) u v)) else aRef A 1
noncomputable def sp_lacks (A : aS) (a x : Int32) : Int32 × aS := if aOk (aC A) a = true then sp_las A x (fun B u v => match cpl (aMa A a.toNatClampNeg) (aG A) with
  | none => aRef B 3
  | some z => aGood B (tkv (G1 z (aG A)) u v)) else aRef A 1
theorem CI.b {B : cB} {A : aS} {σ τ : sS} (h : CI B A σ) (f : brl σ τ) (hR : Rm B.1 τ) (hf : rF τ) : CI B A τ := by
  have hs : cShw (aSh A) τ := by
    have h0 : cS0 A σ := h.1.2.2.2
    unfold cS0 at h0
    unfold cShw
    rw [(f.1 56 (by omega)).1, (f.1 61 (by omega)).1]
    exact h0
  exact h.j (o := aSh A) (fun b k hb => by rw [(f.1 b (by omega)).1]) (fun b hb => (f.1 b (by omega)).2.2) hR hs ⟨fun a k ha => by rw [(f.1 a (by omega)).1]; exact h.2.2.2.2.1 a k ha, hf⟩
/-- what is kept besides, whatever the tape and the word do -/
theorem CI.lz {B : cB} {A A' : aS} {σ τ : sS} (h : CI B A σ) (f : fL0 σ τ) (h0 : C0 A' τ) (e : A'.2.2.1 = A.2.2.1) : CI B A' τ := by
  obtain ⟨-, ⟨⟨i1, i2, i3⟩, ⟨i4, i5⟩, i6⟩, hR, hc, hK⟩ := h
  obtain ⟨f1, f2, f3, f4, f5⟩ := f
  have hV : ∀ a, vC τ a = vC σ a := fun a => by show τ.2.2.2.2.1 a = σ.2.2.2.2.1 a; rw [f5]
  have e1 : aC A' = aC A := by unfold aC; rw [e]
  have e2 : aG A' = aG A := by unfold aG; rw [e]
  have e3 : aMa A' = aMa A := by unfold aMa; rw [e]
  refine ⟨h0, ⟨⟨fun a ha => (hV _).trans (i1 a ha), by rw [hV]; exact i2, by rw [hV]; exact i3⟩, ⟨(hV _).trans i4, (hV _).trans i5⟩, (hV _).trans i6⟩, hR.c f5, fun i hi => ?_, hK.c (fun a j ha => f1 a j (by omega) (by omega) (by omega)) (fun k => by unfold vR; rw [f4])⟩
  rw [e1] at hi
  rw [e2, e3]
  have hv : ∀ b j, 33 ≤ b → vI τ b j = vI σ b j := fun b j hb => f1 b j (by omega) (by omega) (by omega)
  rcases hc i hi with q | q
  · exact Or.inl ((hv _ _ (by omega)).trans q)
  · refine Or.inr ?_
    unfold cCpl at q ⊢
    cases hq : cpl (aMa A i) (aG A) with
    | none => rw [hq] at q; exact (hv _ _ (by omega)).trans q
    | some z =>
      rw [hq] at q
      obtain ⟨b1, b2, b3, b4, b5⟩ := q
      exact ⟨(hv _ _ (by omega)).trans b1, (hv _ _ (by omega)).trans b2, fun n hn => (hv _ _ (by omega)).trans (b3 n hn), fun j hj => (hv _ _ (by omega)).trans (b4 j hj), fun j hj => (hv _ _ (by omega)).trans (b5 j hj)⟩
theorem cRw.w {r : Nat} {u : List Nat} {σ : sS} (h : cRw r u σ) : rWd r u σ := ⟨h.2.1, h.2.2.2⟩
/-- the component's rounds over an automaton, over a complement -/
theorem y_tk0 {B : cB} {A : aS} {σ : sS} {i : Nat} {u v : List Nat} (h : CI B A σ) (hf : rF σ) (hi : i < aC A) (hw : wdO (aG A) u v) (c6 : cRw 6 u σ) (c7 : cRw 7 v σ) (hv : v ≠ []) : ∃ τ, L_tk0 (27 + i) σ = some (tkv (G0 (aMa A i) (aG A)) u v, τ) ∧ CI B A τ ∧ rF τ := by
  have hg := h.1.c.2
  have h3 := h.1.c.1
  have hm := h.1.m hi
  have hT := G0_ok hm.1 hg
  have eN : nV (m_V (27 + i)) σ = mN (aMa A i) := by
    unfold nV
    rw [show m_V (27 + i) σ [] = nI (mN (aMa A i)) from hm.2.1, nI_clamp (by have := hm.1.2.1; omega)]
  obtain ⟨k1, k2, k3, k4, k5⟩ := y_tkn (B := B.1) (Gi := 27 + i) (σ := σ) (fV := m_V (27 + i)) (fF := m_F (27 + i)) (fL := h_L (27 + i)) (fN := m_N (27 + i)) (fE := m_E (27 + i) (mN (aMa A i))) (fM := m_M (27 + i)) (w := u) (rd := v) hT.1 (by show mN (aMa A i) ≤ 300; have := hm.1.2.1; omega) (fun τ j => y_G0 (i := i) ⟨hm.1, by rw [(j.1 (27 + i) (by omega)).1]; exact hm.2.1, by rw [(j.1 (27 + i) (by omega)).1]; exact hm.2.2.1, by rw [(j.1 (27 + i) (by omega)).1]; exact hm.2.2.2.1, by rw [(j.1 (27 + i) (by omega)).1]; exact hm.2.2.2.2.1, fun s f hs hf => by rw [(j.1 (30 + i) (by omega)).1]; exact hm.2.2.2.2.2 s f hs hf⟩ hg) h.2.2.1 hf c6.w hw.2.1 hw.1 c7.w hw.2.2.2 (List.length_pos_iff.mpr hv) hw.2.2.1
  refine ⟨Tk_e (27 + i) (m_V (27 + i)) (m_F (27 + i)) (h_L (27 + i)) (m_N (27 + i)) (m_E (27 + i) (mN (aMa A i))) (m_M (27 + i)) σ, ?_, h.b k3 k4 k5, k5⟩
  unfold L_tk0
  rw [eN, grP_t ⟨hm.1.2.1, k1⟩, k2]
  rfl
theorem y_tk1 {B : cB} {A : aS} {σ : sS} {i : Nat} {z : zS × (Nat → Nat)} {u v : List Nat} (h : CI B A σ) (hf : rF σ) (hi : i < aC A) (hq : cpl (aMa A i) (aG A) = some z) (hc : cCv (33 + i) (aG A) z σ) (hO : cO (aMa A i) (aG A) z) (hw : wdO (aG A) u v) (c6 : cRw 6 u σ) (c7 : cRw 7 v σ) (hv : v ≠ []) : ∃ τ, L_tk1 (33 + i) σ = some (tkv (G1 z (aG A)) u v, τ) ∧ CI B A τ ∧ rF τ := by
  have hg := h.1.c.2
  have h3 := h.1.c.1
  have hm := h.1.m hi
  have c3 := cpl_3 hm.1 hg hq
  have hT := G1_ok hO c3 hg
  obtain ⟨k1, k2, k3, k4, k5⟩ := y_tkn (B := B.1) (Gi := 33 + i) (σ := σ) (fV := n_V (33 + i)) (fF := n_F) (fL := n_L (33 + i)) (fN := n_N (33 + i)) (fE := n_E (33 + i)) (fM := n_M (33 + i)) (w := u) (rd := v) hT.1 (by show zN z.1 ≤ 300; exact hO.1.2.1) (fun υ j => y_G1 (M := aMa A i) (c := 33 + i) ⟨by rw [(j.1 (33 + i) (by omega)).1]; exact hc.1, fun n hn => by rw [(j.1 (33 + i + 3) (by omega)).1]; exact hc.2.1 n hn, fun k hk => by rw [(j.1 (33 + i + 9) (by omega)).1]; exact hc.2.2.1 k hk, fun k hk => by rw [(j.1 (33 + i + 6) (by omega)).1]; exact hc.2.2.2 k hk⟩ hO c3 hg (by
    rw [show 33 + i - 6 = 27 + i by omega, (j.1 (27 + i) (by omega)).1]; exact hm.2.2.1)) h.2.2.1 hf c6.w hw.2.1 hw.1 c7.w hw.2.2.2 (List.length_pos_iff.mpr hv) hw.2.2.1
  refine ⟨Tk_e (33 + i) (n_V (33 + i)) n_F (n_L (33 + i)) (n_N (33 + i)) (n_E (33 + i)) (n_M (33 + i)) σ, ?_, h.b k3 k4 k5, k5⟩
  unfold L_tk1
  rw [grP_t k1, k2]
  rfl
def yCF (B : cB) (q : Int32 × aS) (o : Option (Int32 × sS)) : Prop := ∃ τ, o = some (q.1, τ) ∧ CI B q.2 τ ∧ rF τ
theorem tkv_y {B : cB} {A' : aS} {G : gG} {u v : List Nat} {τ : sS} (h : CI B A' τ) (hf : rF τ) : ∃ υ, (if tkv G u v = 0 then (bd2 (L_X11_answer 0 τ) (fun rq13 σ14 => some ((rq13, σ14)))) else (bd2 (L_X11_answer 1 τ) (fun rq16 σ17 => some ((rq16, σ17))))) = some (tkv G u v, υ) ∧ CI B (sAns A' 0 (-1)) υ ∧ rF υ := by
  refine ⟨uI τ 0 10 0, ?_, h.ans (by decide), hf.c (fun _ => rfl)⟩
  unfold tkv
  by_cases c : bP (tak G u v) = true
  · rw [if_pos c, if_neg (by decide)]; rfl
  · rw [if_neg c, if_pos rfl]; rfl
theorem y_takes {B : cB} {A : aS} {σ : sS} {F : Nat} (hF : 402 < F) (h : CI B A σ) (hf : rF σ) (a x : Int32) : yCF B (sp_takes A a x) (L_X11_takes F a x σ) := by
  have h3 := h.1.c.1
  unfold L_X11_takes sp_takes
  rw [y_at h.1]
  by_cases ha : aOk (aC A) a = true
  · obtain ⟨i, hi, rfl⟩ := aOk_t ha (by omega)
    rw [if_pos ha, if_pos ha]
    simp only [bnd_s]
    rw [nI_clamp (by omega), isAu_n (by omega), grd_s]
    obtain ⟨υ, u1, u2, u3⟩ := y_las hF h.1 h.2.1.2.1 hi x (fun B u v => aGood B (tkv (G0 (aMa A i) (aG A)) u v)) (fun σ6 => bd2 (L_tk0 (27 + i) σ6) (fun rq9 σ10 => if rq9 = 0 then (bd2 (L_X11_answer 0 σ10) (fun rq13 σ14 => some ((rq13, σ14)))) else (bd2 (L_X11_answer 1 σ10) (fun rq16 σ17 => some ((rq16, σ17)))))) (fun υ => ∀ A', A'.2.2.1 = A.2.2.1 → C0 A' υ → CI B A' υ ∧ rF υ) (fun τ hτ u A' e h0 => by
        have k : fL0 σ (uI τ 0 10 u) ∨ True := Or.inr trivial
        refine ⟨?_, hf.c (fun k => by show τ.2.2.1 45 k = _; rw [hτ.2.2.2.1]; rfl)⟩
        obtain ⟨-, ⟨⟨i1, i2, i3⟩, ⟨i4, i5⟩, i6⟩, hR, hc, hK⟩ := h
        have hV : ∀ a, vC (uI τ 0 10 u) a = vC σ a := fun a => by show τ.2.2.2.2.1 a = σ.2.2.2.2.1 a; rw [hτ.2.2.2.2]
        have hv : ∀ b j, 33 ≤ b → vI (uI τ 0 10 u) b j = vI σ b j := fun b j hb => (vI_q (fun q => by omega)).trans (hτ.1 b j (by omega) (by omega) (by omega))
        have e1 : aC A' = aC A := by unfold aC; rw [e]
        have e2 : aG A' = aG A := by unfold aG; rw [e]
        have e3 : aMa A' = aMa A := by unfold aMa; rw [e]
        refine ⟨h0, ⟨⟨fun a ha => (hV _).trans (i1 a ha), by rw [hV]; exact i2, by rw [hV]; exact i3⟩, ⟨(hV _).trans i4, (hV _).trans i5⟩, (hV _).trans i6⟩, hR.c hτ.2.2.2.2, fun i hi => ?_, hK.c (fun a j ha => hv a j (by omega)) (fun k => by show τ.2.2.1 45 k = _; rw [hτ.2.2.2.1]; rfl)⟩
        rw [e1] at hi
        rw [e2, e3]
        rcases hc i hi with q | q
        · exact Or.inl ((hv _ _ (by omega)).trans q)
        · refine Or.inr ?_
          unfold cCpl at q ⊢
          cases hq : cpl (aMa A i) (aG A) with
          | none => rw [hq] at q; exact (hv _ _ (by omega)).trans q
          | some z =>
            rw [hq] at q
            obtain ⟨b1, b2, b3, b4, b5⟩ := q
            exact ⟨(hv _ _ (by omega)).trans b1, (hv _ _ (by omega)).trans b2, fun n hn => (hv _ _ (by omega)).trans (b3 n hn), fun j hj => (hv _ _ (by omega)).trans (b4 j hj), fun j hj => (hv _ _ (by omega)).trans (b5 j hj)⟩) (fun u v w τ _ hC hl hw c6 c7 hv => by
        have C2 := h.lz hl hC rfl
        have hf2 := hf.c (τ := τ) (fun k => by unfold vR; rw [hl.2.2.2.1])
        obtain ⟨τ2, t1, t2, t3⟩ := y_tk0 (i := i) C2 hf2 hi hw c6 c7 hv
        have t1 : L_tk0 (27 + i) τ = some (tkv (G0 (aMa A i) (aG A)) u v, τ2) := t1
        obtain ⟨υ, v1, v2, v3⟩ := tkv_y (G := G0 (aMa A i) (aG A)) (u := u) (v := v) t2 t3
        refine ⟨υ, ?_, v2.1, fun A' e h0 => ⟨?_, v3⟩⟩
        · rw [t1, bd2_s]; exact v1
        · have e' : A'.2.2.1 = (sAns (aLy A w) 0 (-1)).2.2.1 := e
          exact v2.lz ⟨fun _ _ _ _ _ => rfl, fun _ _ _ => rfl, rfl, rfl, rfl⟩ h0 e')
    refine ⟨υ, u1, ?_⟩
    refine u3 _ ?_ u2
    unfold sp_las
    split
    · split <;> rfl
    · rfl
  · rw [if_neg ha, if_neg ha]
    exact ⟨uI σ 0 10 1, rfl, h.ans (by decide), hf.c (fun _ => rfl)⟩
