/-! link, automata, letter; the calls that read -/
theorem pc4_4 (x : Nat) : pc4 x ≤ 4 := by
  unfold pc4
  repeat' split
  all_goals omega
theorem ecn_le4 {M : aM} : ∀ k, ecn M k ≤ 4 * k
  | 0 => Nat.le_refl _
  | k + 1 => by
    have h1 := ecn_le4 (M := M) k
    have h2 := pc4_4 (mE M (k / 4) (k % 4))
    show ecn M k + pc4 _ ≤ _
    omega
theorem e_link {A : aS} {a f c t z : Int32} (q : (sp_link A a f c t z).1 = -1) : (sp_link A a f c t z).2.2.2.1 = A.2.2.1 := by
  unfold sp_link at q ⊢
  split
  · rename_i c1
    rw [if_pos c1] at q
    split
    · rename_i c2
      rw [if_pos c2] at q
      split
      · rename_i c3
        rw [if_pos c3] at q
        split
        · rfl
        · rename_i c4
          rw [if_neg c4] at q
          have h := ecn_le4 (M := mkE (aMa A a.toNatClampNeg) c.toNatClampNeg f.toNatClampNeg t.toNatClampNeg) 16
          exact absurd q (nI_n1' (by omega))
      · rfl
    · rfl
  · rfl
theorem xi_mark {A : aS} {σ : sS} (h : RI A σ) (a s z : Int32) : xRI (sp_mark A a s z) (L_X12_mark a s z σ) := x_act h (x_mark h.1 a s z) (fun _ g => fl_mark g) aAc_mark (e_mark h)
theorem xi_begin {A : aS} {σ : sS} (h : RI A σ) (a s z : Int32) : xRI (sp_begin A a s z) (L_X12_begin a s z σ) := x_act h (x_begin h.1 a s z) (fun _ g => fl_begin g) aAc_begin (e_begin h)
theorem xi_link {A : aS} {σ : sS} {F : Nat} (hF : 16 < F) (h : RI A σ) (a f c t z : Int32) : xRI (sp_link A a f c t z) (L_X12_link F a f c t z σ) := x_act h (x_link hF h.1 a f c t z) (fun _ g => fl_link g) aAc_link e_link
theorem fl_au {A : aS} {σ : sS} {F : Nat} (hF : 401 < F) (h : R0 A σ) (hI : aI A) (x : Int32) {z : Int32 × sS} (hz : L_X12_automata F x σ = some z) : aI (sp_automata A x).2 ∧ (((sp_automata A x).2.2.2.1 = A.2.2.1 ∧ fm [114, 115, 116, 117, 118] [0, 1, 2, 4, 5, 6, 7, 8, 9, 10, 11, 12, 13, 21, 22] σ z.2) ∨ vI z.2 90 32 = -1) := by
  have f0 : fm [114, 115, 116, 117, 118] [0, 1, 2, 4, 5, 6, 7, 8, 9, 10, 11, 12, 13, 21, 22] σ (uI σ 90 0 0) := fm.uI (Or.inr ⟨rfl, by decide⟩)
  unfold L_X12_automata at hz
  simp only [bnd_s] at hz
  have h400 := h.1.1
  have hl : L_X12_isLong x (uI σ 90 0 0) = if aOk (aT A + 1) x = true then 0 else 1 := by
    unfold L_X12_isLong
    rw [show vI (uI σ 90 0 0) 90 4 = nI (aT A) from h.1.2.1, x_long (by omega)]
    split
    · rw [if_neg i1n0]
    · rw [if_pos rfl]
  rw [hl] at hz
  unfold sp_automata
  by_cases ha : aOk (aT A + 1) x = true
  · rw [if_pos ha, if_pos rfl] at hz
    rw [if_pos ha]
    obtain ⟨e, he, rfl⟩ := aOk_t ha (by omega)
    rw [nI_clamp (by omega)]
    have r0 : tkR (aB A) e 0 (uI (uI (uI (uI (uI σ 90 0 0) 90 5 (nI e)) 90 4 0) 90 6 0) 90 7 0) := ⟨fun j hj => h.1.2.2 j hj, rfl, rfl, by omega, by omega⟩
    obtain ⟨τ, t1, t2⟩ := x_goOn r0 rfl (by omega : 400 < F)
    have t3 : L_X12_begins F (nI e) (uI σ 90 0 0) = some τ := by
      unfold L_X12_begins
      simp only [bnd_s]
      rw [t1, bd_s]
    have f1 := f_L_X12_goOn t1
    have n : ∀ {x : Nat}, x ∉ ([] : List Nat) := fun h => nomatch h
    have t7 : vI τ 90 7 = 0 := f1.f (by decide) n
    have hr := x_readAll t2 t7 hF
    have f3 := f0.tr ((f_L_X12_begins t3).mo (fun _ h => nomatch h) (by decide))
    rw [t3, bd_s] at hz
    cases hs : sAll (aB A) e 401 (tq (aB A) e 0) dD0 with
    | inl k =>
      obtain ⟨k, w⟩ := k
      rw [hs] at hr
      obtain ⟨υ, u1, u2, u3, u4, u5⟩ := hr
      rw [u1, bd_s, if_neg (f7_n u2 u3)] at hz
      obtain ⟨r, ρ, g, hz⟩ := bd2_at hz
      cases hz
      exact ⟨hI, Or.inl ⟨rfl, f3.tr (((f_L_X12_readAll u1).mo (by decide) (by decide)).tr ((f_L_X12_faulty g).mo (fun _ h => nomatch h) (by decide)))⟩⟩
    | inr D =>
      rw [hs] at hr
      obtain ⟨υ, u1, u2, uD, u4, u5⟩ := hr
      have hK := uD.1.2.1
      rw [u1, bd_s, if_pos (f7_0 u2)] at hz
      have c20 : vI (uI (uI υ 90 19 (vI υ 90 21)) 90 20 (vI (uI υ 90 19 (vI υ 90 21)) 90 22)) 90 20 = nI (dK D) := uD.2.2.1
      obtain ⟨ρ, r1, -⟩ := x_cpd (F := F) (K := dK D) hK (by omega) (fun σ10 => bd2 (L_X12_good (vI (uI σ10 90 32 (-1)) 90 20) (uI σ10 90 32 (-1))) (fun rq13 σ14 => some (rq13, σ14))) (dK D) 0 F (uI (uI υ 90 19 (vI υ 90 21)) 90 20 (vI (uI υ 90 19 (vI υ 90 21)) 90 22)) c20 (by omega) (by omega)
      refine ⟨?_, Or.inr ?_⟩
      · show dK D = 0 ∨ 1 ≤ dL D
        have := uD.1.2.2.1
        omega
      · have hz := r1.symm.trans hz
        obtain ⟨r, ρ2, g, hz⟩ := bd2_at hz
        cases hz
        exact ((f_L_X12_good g).f (by decide) n).trans vI_e
  · rw [if_neg ha, if_neg i1n0] at hz
    rw [if_neg ha]
    obtain ⟨r, ρ, g, hz⟩ := bd2_at hz
    cases hz
    exact ⟨hI, Or.inl ⟨rfl, f0.tr ((f_L_X12_refused g).mo (fun _ h => nomatch h) (by decide))⟩⟩
theorem xi_automata {A : aS} {σ : sS} {F : Nat} (hF : 401 < F) (h : RI A σ) (hI : aI A) (x : Int32) : xRI (sp_automata A x) (L_X12_automata F x σ) ∧ aI (sp_automata A x).2 := by
  obtain ⟨τ, t1, t2⟩ := x_automata hF h.1 x
  obtain ⟨q1, q2⟩ := fl_au hF h.1 hI x t1
  refine ⟨⟨τ, t1, t2, ?_⟩, q1⟩
  rcases q2 with ⟨m, f⟩ | q
  · exact h.2.f f (by decide) (by decide) (by decide) m
  · exact rB_0 t2.c.1 q
/-! the law's step -/
theorem LW.rd {b : Nat × Nat} {A : aS} {σ : sS} {q : sS → Option (Int32 × sS)} {v : Int32} (h : LW b A σ) (x : q σ = some (v, uI σ 90 0 0)) : ∃ υ, q σ = some (v, υ) ∧ LW b A υ := by
  have f : fm [] [0] σ (uI σ 90 0 0) := fm.uI (Or.inr ⟨rfl, by decide⟩)
  exact ⟨_, x, h.1.fm f (fun _ h => nomatch h), h.2.1.z 0, h.2.2⟩
def lwS (b : Nat × Nat) (K : sS → Option (Int32 × sS)) (o : Option (Int32 × sS)) : Prop := ∃ b' A' σ', o = K σ' ∧ LW b' A' σ' ∧ b'.1 ≤ b.1 + 1 ∧ b'.2 ≤ b.2 + 6
theorem lwS.k {b : Nat × Nat} {K : sS → Option (Int32 × sS)} {A : aS} {σ : sS} (h : LW b A σ) : lwS b K (K σ) := ⟨b, A, σ, rfl, h, by omega, by omega⟩
theorem lwS.p {b : Nat × Nat} {K : sS → Option (Int32 × sS)} {c : Prop} [Decidable c] {o o' : Option (Int32 × sS)} (hc : c) (h : lwS b K o) : lwS b K (if c then o else o') := by rw [if_pos hc]; exact h
theorem lwS.n {b : Nat × Nat} {K : sS → Option (Int32 × sS)} {c : Prop} [Decidable c] {o o' : Option (Int32 × sS)} (hc : ¬ c) (h : lwS b K o') : lwS b K (if c then o else o') := by rw [if_neg hc]; exact h
theorem lwS.g {b : Nat × Nat} {K : sS → Option (Int32 × sS)} {x : Bool} {o : Option (Int32 × sS)} (hx : x = true) (h : lwS b K o) : lwS b K (grd x o) := by rw [hx]; exact h
theorem lwS.b {b : Nat × Nat} {K : sS → Option (Int32 × sS)} {o : Option (Int32 × sS)} {v : Int32} {τ : sS} {G : Int32 → sS → Option (Int32 × sS)} (e : o = some (v, τ)) (h : lwS b K (G v τ)) : lwS b K (bd2 o G) := by rw [e]; exact h
theorem CI.t {b : Nat × Nat} {A : aS} {σ0 σ : sS} (h : CI (b, σ0) A σ) : CI ((b.1 + 1, b.2 + 6), σ0) A (uT σ) := by
  obtain ⟨h0, h1, ⟨r1, r2, r3⟩, h3, h4⟩ := h
  refine ⟨h0, h1, ⟨r1, ?_, ?_⟩, h3, h4⟩
  · show (vk σ).1 + 1 ≤ b.1 + 1 + sm (fun r => gc (vC σ r)) grR
    have : (vk σ).1 ≤ b.1 + sm (fun r => gc (vC σ r)) grR := r2
    omega
  · show (vk σ).2 + 6 ≤ b.2 + 6 + sm (fun r => gw (vC σ r)) grR
    have : (vk σ).2 ≤ b.2 + sm (fun r => gw (vC σ r)) grR := r3
    omega
