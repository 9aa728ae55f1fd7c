/-! lacks, follows: the component -/
theorem CI.lz1 {B : cB} {A A' : aS} {σ τ : sS} {u : Int32} (h : CI B A σ) (hτ : fL0 σ τ) (h0 : C0 A' (uI τ 0 10 u)) (e : A'.2.2.1 = A.2.2.1) : CI B A' (uI τ 0 10 u) := by
  obtain ⟨-, ⟨⟨i1, i2, i3⟩, ⟨i4, i5⟩, i6⟩, hR, hc, hK⟩ := h
  have hV : ∀ a, vC (uI τ 0 10 u) a = vC σ a := fun a => by show τ.2.2.2.2.1 a = σ.2.2.2.2.1 a; rw [hτ.2.2.2.2]
  have hv : ∀ b j, 33 ≤ b → vI (uI τ 0 10 u) b j = vI σ b j := fun b j hb => (vI_q (fun q => by omega)).trans (hτ.1 b j (by omega) (by omega) (by omega))
  have e1 : aC A' = aC A := by unfold aC; rw [e]
  have e2 : aG A' = aG A := by unfold aG; rw [e]
  have e3 : aMa A' = aMa A := by unfold aMa; rw [e]
  refine ⟨h0, ⟨⟨fun a ha => (hV _).trans (i1 a ha), by rw [hV]; exact i2, by rw [hV]; exact i3⟩, ⟨(hV _).trans i4, (hV _).trans i5⟩, (hV _).trans i6⟩, hR.c hτ.2.2.2.2, fun i hi => ?_, hK.c (fun a j ha => hv a j (by omega)) (fun k => by show τ.2.2.1 45 k = _; rw [hτ.2.2.2.1]; rfl)⟩
  rw [e1] at hi
  rw [e2, e3]
  rcases hc i hi with q | q
  · exact Or.inl ((hv _ _ (by omega)).trans q)
  · refine Or.inr ?_
    unfold cCpl at q ⊢
    cases hq : cpl (aMa A i) (aG A) with
    | none => rw [hq] at q; exact (hv _ _ (by omega)).trans q
    | some z =>
      rw [hq] at q
      obtain ⟨b1, b2, b3, b4, b5⟩ := q
      exact ⟨(hv _ _ (by omega)).trans b1, (hv _ _ (by omega)).trans b2, fun n hn => (hv _ _ (by omega)).trans (b3 n hn), fun j hj => (hv _ _ (by omega)).trans (b4 j hj), fun j hj => (hv _ _ (by omega)).trans (b5 j hj)⟩
theorem cRw.z {r i : Nat} {u : List Nat} {σ τ : sS} (h : cRw r u σ) (hr : r = 6 ∨ r = 7) (f : fz (L3 (33 + i)) σ τ) : cRw r u τ := by
  have hn : r ∉ L3 (33 + i) := fun q => by
    unfold L3 at q
    simp only [List.mem_cons, List.not_mem_nil, or_false] at q
    omega
  obtain ⟨h1, h2, h3, h4⟩ := h
  exact ⟨h1, (f.2.1 r hn).trans h2, (f.2.2.1 r (Or.inl hn)).trans h3, fun j hj => (f.1 r j hn).trans (h4 j hj)⟩
theorem sp_las_c {A : aS} {x : Int32} {f : aS → List Nat → List Nat → Int32 × aS} (hf : ∀ u v, (f (aLz A 0) u v).2.2.2.1 = A.2.2.1) : (sp_las A x f).2.2.2.1 = A.2.2.1 := by
  unfold sp_las
  split
  · split
    · rfl
    · exact hf _ _
  · rfl
theorem y_lacks {B : cB} {A : aS} {σ : sS} {F : Nat} (hF : 402 < F) (h : CI B A σ) (hf : rF σ) (a x : Int32) : yCF B (sp_lacks A a x) (L_X11_lacks F a x σ) := by
  have h3 := h.1.c.1
  unfold L_X11_lacks sp_lacks
  rw [y_at h.1]
  by_cases ha : aOk (aC A) a = true
  · obtain ⟨i, hi, rfl⟩ := aOk_t ha (by omega)
    rw [if_pos ha, if_pos ha]
    simp only [bnd_s]
    rw [nI_clamp (by omega), isCo_n (by omega), grd_s, if_pos ha, isAu_n (by omega), grd_s]
    obtain ⟨υ, u1, u2, u3⟩ := y_las hF h.1 h.2.1.2.1 hi x (fun B u v => match cpl (aMa A i) (aG A) with
      | none => aRef B 3
      | some z => aGood B (tkv (G1 z (aG A)) u v)) (fun σ9 => bd2 (L_X1_stands (33 + i) σ9) (fun rq12 σ13 => if rq12 = 0 then (bd2 (L_X11_refuse 3 σ13) (fun rq26 σ27 => some ((rq26, σ27)))) else (bd2 (L_tk1 (33 + i) σ13) (fun rq16 σ17 => if rq16 = 0 then (bd2 (L_X11_answer 0 σ17) (fun rq20 σ21 => some ((rq20, σ21)))) else (bd2 (L_X11_answer 1 σ17) (fun rq23 σ24 => some ((rq23, σ24)))))))) (fun υ => ∀ A', A'.2.2.1 = A.2.2.1 → C0 A' υ → CI B A' υ ∧ rF υ) (fun τ hτ u A' e h0 => ⟨h.lz1 hτ h0 e, hf.c (fun k => by show τ.2.2.1 45 k = _; rw [hτ.2.2.2.1]; rfl)⟩) (fun u v w τ _ hC hl hw c6 c7 hv => by
        have C2 := h.lz hl hC rfl
        have hf2 := hf.c (τ := τ) (fun k => by unfold vR; rw [hl.2.2.2.1])
        have fin : ∀ {A1 : aS} {υ : sS}, CI B A1 υ → rF υ → A1.2.2.1 = A.2.2.1 → ∀ A', A'.2.2.1 = A.2.2.1 → C0 A' υ → CI B A' υ ∧ rF υ := fun {A1 υ} k1 k2 k3 A' e h0 => ⟨k1.lz ⟨fun _ _ _ _ _ => rfl, fun _ _ _ => rfl, rfl, rfl, rfl⟩ h0 (e.trans k3.symm), k2⟩
        rcases y_std (i := i) C2 hi with ⟨hq, τ2, t1, t2, t3⟩ | ⟨z, τ2, hq, t1, t2, t3, t4, t5⟩
        · have hq : cpl (aMa A i) (aG A) = none := hq
          rw [t1, bd2_s, if_pos rfl, hq]
          have k := t2.ans (u := 3) (by decide)
          have k2 : rF (uI τ2 0 10 3) := hf2.c (fun k => by show τ2.2.2.1 45 k = _; rw [t3.2.2.2.2]; rfl)
          exact ⟨uI τ2 0 10 3, rfl, k.1, fin k k2 rfl⟩
        · have hq : cpl (aMa A i) (aG A) = some z := hq
          rw [t1, bd2_s, if_neg i1n0, hq]
          have hf3 : rF τ2 := hf2.c (fun k => by unfold vR; rw [t5.2.2.2.2])
          obtain ⟨τ3, s1, s2, s3⟩ := y_tk1 (i := i) t2 hf3 hi hq t3 t4 hw (c6.z (Or.inl rfl) t5) (c7.z (Or.inr rfl) t5) hv
          have s1 : L_tk1 (33 + i) τ2 = some (tkv (G1 z (aG A)) u v, τ3) := s1
          obtain ⟨υ, v1, v2, v3⟩ := tkv_y (G := G1 z (aG A)) (u := u) (v := v) s2 s3
          rw [s1, bd2_s]
          exact ⟨υ, v1, v2.1, fin v2 v3 rfl⟩)
    refine ⟨υ, u1, u3 _ (sp_las_c (fun u v => ?_)) u2⟩
    cases cpl (aMa A i) (aG A) <;> rfl
  · rw [if_neg ha, if_neg ha, if_neg ha]
    exact ⟨uI σ 0 10 1, rfl, h.ans (by decide), hf.c (fun _ => rfl)⟩
theorem y_followsI {B : cB} {A : aS} {σ : sS} {F : Nat} (hF : 402 < F) (h : CI B A σ) (hf : rF σ) (a n x : Int32) : yCF B (sp_follows A a n x) (L_X11_follows F a n x σ) := by
  obtain ⟨τ, t1, t2, υ, u, t3, t4⟩ := y_follows hF h.1 h.2.1.2.1 a n x
  rw [t4] at t1 t2
  refine ⟨_, t1, h.lz1 t3 t2 ?_, hf.c (fun k => by show υ.2.2.1 45 k = _; rw [t3.2.2.2.1]; rfl)⟩
  unfold sp_follows
  split
  · split
    · exact sp_las_c (fun u v => rfl)
    · rfl
  · rfl
