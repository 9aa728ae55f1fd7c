/-! the complement: where the reference goes from a node -/
def gM : List Nat := [123, 124, 125, 126, 127, 128, 129, 131, 136]
def gR (σ : sS) (o : Option zS) (τ : sS) : Prop := fm gM cpK σ τ ∧ match o with
  | some y => rZ y τ
  | none => rFu τ
theorem R0.g {A : aS} {σ τ : sS} (h : R0 A σ) (f : fm gM cpK σ τ) : R0 A τ := h.keep f (by decide) (by decide) (by decide)
theorem fm.g {σ τ : sS} (h : fm cpM cpK σ τ) : fm gM cpK σ τ := h.mo (by decide) (fun _ h => h)
theorem fm.g1 {σ τ : sS} (h : fm [123] [] σ τ) : fm gM cpK σ τ := h.mo (by decide) (fun _ h => nomatch h)
theorem rZ.f {z : zS} {σ τ : sS} (h : rZ z σ) (f : fm [123] [] σ τ) : rZ z τ := by
  obtain ⟨a1, a2, a3, a4, a5, a6, a7, a8⟩ := h
  refine ⟨a1, (f.f (by decide) (by decide)).trans a2, (f.f (by decide) (by decide)).trans a3, (f.f (by decide) (by decide)).trans a4, fun n hn => ?_, fun k hk => (f.r (by decide) (by decide)).trans (a6 k hk), fun n hn => (f.r (by decide) (by decide)).trans (a7 n hn), fun j hj => (f.r (by decide) (by decide)).trans (a8 j hj)⟩
  obtain ⟨o, r1, r2, r3, r4⟩ := a5 n hn
  exact ⟨o, (f.r (by decide) (by decide)).trans r1, (f.r (by decide) (by decide)).trans r2, (f.r (by decide) (by decide)).trans r3, (f.r (by decide) (by decide)).trans r4⟩
theorem rV.f {P : Nat} {σ τ : sS} (h : rV P σ) (f : fm cpM cpK σ τ) : rV P τ := ⟨h.1, fun s hs => (f.r (by decide) (by decide)).trans (h.2 s hs)⟩
theorem ndT_g {t g P o : Nat} (hg : odd7 g) : ndT (t, g, P, o) = nI g := by
  unfold ndT
  rw [if_neg (show ¬ g = 0 by rcases hg with rfl | rfl | rfl | rfl <;> decide)]
theorem x_s40 {A : aS} {F i t g : Nat} (hF : 300 < F) (hi : i < aC A) (ht : t < 16) (hg : odd7 g) (kx : sS → Option sS) : ∀ (l : List Nat) (P f : Nat) (σ : sS) (z : zS), R0 A σ → rZ z σ → Wk t g (P :: l) (0, 0) → dOK t g P → rV P σ → l.length + 1 < f → okE (((P :: l).filter (tgB t (mF (aMa A i)) g (fun _ => 7))).map (fun P => (t, g, P, 0))) z → ∃ τ, L_X12_goesFromSet_40 F (nI i) (nI t) (nI g) kx f 1 σ = kx τ ∧ gR σ (goL (((P :: l).filter (tgB t (mF (aMa A i)) g (fun _ => 7))).map (fun P => (t, g, P, 0))) z) τ := by
  have g8 : g < 8 := by rcases hg with h | h | h | h <;> omega
  intro l
  induction l with
  | nil =>
    intro P f σ z h hz hW hD hV hf hE
    obtain ⟨f, rfl⟩ : ∃ k, f = k + 1 := ⟨f - 1, by omega⟩
    have hf0 : 0 < f := by simp only [List.length_nil] at hf; omega
    have hW : nxD t g 4 P = (0, 0) := hW
    have cont : ∀ υ, rV P υ → ∃ τ, bd2 (L_X12_nextRanking F (nI t) (nI g) υ) (fun r s => L_X12_goesFromSet_40 F (nI i) (nI t) (nI g) kx f r s) = kx τ ∧ fm [123] [] υ τ := by
      intro υ hυ
      obtain ⟨τ, t1, t2, t3⟩ := x_nextR (F := F) (by omega) ht g8 hD hυ
      rw [hW] at t1
      obtain ⟨f, rfl⟩ : ∃ k, f = k + 1 := ⟨f - 1, by omega⟩
      refine ⟨τ, ?_, t3⟩
      rw [t1, bd2_s, L_X12_goesFromSet_40, if_pos (show nI (0, 0).1 = 0 from rfl)]
    rw [L_X12_goesFromSet_40, if_neg i1n0, if_pos hz.2.2.2.1, x_tight (by omega) h hi ht hg hD hV, bd_s, x_packed (by omega) ht hD hV, bd_s]
    rw [List.filter_cons, List.filter_nil] at hE ⊢
    by_cases hb : tgB t (mF (aMa A i)) g (fun _ => 7) P = true
    · rw [if_pos hb] at hE
      rw [if_pos hb, if_neg i1n0, if_pos hb]
      obtain ⟨e1, e2⟩ := hE
      obtain ⟨r, υ, τ, u1, u2, u3, u4⟩ := x_go1 (F := F) (x := (t, g, P, 0)) hF hz e1 (fun y hy => by rw [hy] at e2; have := e2.1; omega)
      rw [ndT_g hg] at u1
      rw [show L_X12_nodeOf F (nI t) (nI g) (nI P) 0 σ = some (r, υ) from u1, bd2_s, u2, bd_s]
      obtain ⟨ω, w1, w2⟩ := cont τ (hV.f u3)
      refine ⟨ω, w1, u3.g.tr w2.g1, ?_⟩
      show match (match go1 z (t, g, P, 0) with | none => none | some y => goL [] y) with | some y => rZ y ω | none => rFu ω
      cases hgo : go1 z (t, g, P, 0) with
      | none => rw [hgo] at u4; exact u4.k w2 (by decide) (by decide) (by decide)
      | some y => rw [hgo] at u4; exact u4.f w2
    · rw [if_neg hb, if_pos rfl, if_neg hb]
      obtain ⟨ω, w1, w2⟩ := cont σ hV
      exact ⟨ω, w1, w2.g1, hz.f w2⟩
  | cons Q l ih =>
    intro P f σ z h hz hW hD hV hf hE
    obtain ⟨f, rfl⟩ : ∃ k, f = k + 1 := ⟨f - 1, by omega⟩
    have hl : l.length + 1 < f := by simp only [List.length_cons] at hf; omega
    obtain ⟨hn, hQ⟩ := hW.ok g8 hD
    have cont : ∀ υ, rV P υ → ∃ ρ, L_X12_nextRanking F (nI t) (nI g) υ = some (1, ρ) ∧ rV Q ρ ∧ fm [123] [] υ ρ := by
      intro υ hυ
      obtain ⟨ρ, t1, t2, t3⟩ := x_nextR (F := F) (by omega) ht g8 hD hυ
      rw [hn] at t1 t2
      exact ⟨ρ, t1, t2, t3⟩
    rw [L_X12_goesFromSet_40, if_neg i1n0, if_pos hz.2.2.2.1, x_tight (by omega) h hi ht hg hD hV, bd_s, x_packed (by omega) ht hD hV, bd_s]
    rw [List.filter_cons] at hE ⊢
    by_cases hb : tgB t (mF (aMa A i)) g (fun _ => 7) P = true
    · rw [if_pos hb] at hE
      rw [if_pos hb, if_neg i1n0, if_pos hb]
      obtain ⟨e1, e2⟩ := hE
      obtain ⟨r, υ, τ, u1, u2, u3, u4⟩ := x_go1 (F := F) (x := (t, g, P, 0)) hF hz e1 (fun y hy => by rw [hy] at e2; have := e2.1; omega)
      rw [ndT_g hg] at u1
      rw [show L_X12_nodeOf F (nI t) (nI g) (nI P) 0 σ = some (r, υ) from u1, bd2_s, u2, bd_s]
      obtain ⟨ρ, w1, w2, w3⟩ := cont τ (hV.f u3)
      rw [w1, bd2_s, List.map_cons]
      show ∃ τ, _ ∧ gR σ (match go1 z (t, g, P, 0) with | none => none | some y => goL _ y) τ
      cases hgo : go1 z (t, g, P, 0) with
      | none =>
        rw [hgo] at u4
        have rf : rFu ρ := u4.k w3 (by decide) (by decide) (by decide)
        have r35 := rf.1
        obtain ⟨f, rfl⟩ : ∃ k, f = k + 1 := ⟨f - 1, by omega⟩
        refine ⟨ρ, ?_, u3.g.tr w3.g1, rf⟩
        rw [L_X12_goesFromSet_40, if_neg i1n0, if_neg (by rw [r35]; decide)]
      | some y =>
        rw [hgo] at u4 e2
        obtain ⟨ω, o1, o2, o3⟩ := ih Q f ρ y ((h.g u3.g).g w3.g1) (u4.f w3) hW.2 hQ w2 hl e2.2
        exact ⟨ω, o1, (u3.g.tr w3.g1).tr o2, o3⟩
    · rw [if_neg hb] at hE
      rw [if_neg hb, if_pos rfl, if_neg hb]
      obtain ⟨ρ, w1, w2, w3⟩ := cont σ hV
      rw [w1, bd2_s]
      obtain ⟨ω, o1, o2, o3⟩ := ih Q f ρ z (h.g w3.g1) (hz.f w3) hW.2 hQ w2 hl hE
      exact ⟨ω, o1, w3.g1.tr o2, o3⟩
theorem b_bd : ∀ b, b < 5 → ∀ k, k < 5 → (2 * nI b - 1 < nI (2 * k + 1) ↔ b ≤ k) := by decide +kernel
theorem b_nf0 : ∀ t, t < 16 → ∀ f, f < 16 → t = 0 → nfb t f = 0 := by decide +kernel
/-- it is full: nothing more happens -/
theorem x_s15N {A : aS} {F i t : Nat} (hF : 300 < F) (hi : i < aC A) (ht : t < 16) (kx : sS → Option sS) : ∀ (n k f : Nat) (σ : sS), R0 A σ → rFu σ → k + n = nfb t (mF (aMa A i)) → n < f → ∃ τ, L_X12_goesFromSet_15 F (nI i) (nI t) kx f (nI (2 * k + 1)) σ = kx τ ∧ fm gM cpK σ τ ∧ rFu τ := by
  intro n
  induction n with
  | zero =>
    intro k f σ h h35 hk hf
    obtain ⟨f, rfl⟩ : ∃ k, f = k + 1 := ⟨f - 1, by omega⟩
    have hm := (h.m hi).1
    have h4 := nfb_4 t ht _ hm.b.2.1
    refine ⟨σ, ?_, fm.rf, h35⟩
    rw [L_X12_goesFromSet_15, x_boundOf h hi ht, bd_s, if_pos ((b_bd _ (by omega) k (by omega)).mpr (by omega))]
  | succ n ih =>
    intro k f σ h h35 hk hf
    obtain ⟨f, rfl⟩ : ∃ k, f = k + 1 := ⟨f - 1, by omega⟩
    have hm := (h.m hi).1
    have h4 := nfb_4 t ht _ hm.b.2.1
    obtain ⟨υ, u1, u2, u3⟩ := x_first (F := F) (σ := σ) (by omega)
    have uf : rFu υ := h35.k u3 (by decide) (by decide) (by decide)
    have u35 := uf.1
    rw [L_X12_goesFromSet_15, x_boundOf h hi ht, bd_s, if_neg (fun c => by have := (b_bd _ (by omega) k (by omega)).mp c; omega), u1, bd_s]
    obtain ⟨τ, t1, t2, t3⟩ := ih (k + 1) f υ (h.g u3.g1) uf (by omega) (by omega)
    have e : nI (2 * k + 1) + 2 = nI (2 * (k + 1) + 1) := by rw [show (2 : Int32) = nI 2 from rfl, nI_add]; congr 1
    refine ⟨τ, ?_, u3.g1.tr t2, t3⟩
    obtain ⟨G, rfl⟩ : ∃ G, F = G + 1 := ⟨F - 1, by omega⟩
    rw [L_X12_goesFromSet_40, L_X12_goesFromSet_40, if_pos (show (0 : Int32) = 0 from rfl), if_neg i1n0, if_neg (show ¬ vI υ 90 35 = 0 by rw [u35]; decide), e]
    split
    · exact t1
    · exact t1
theorem x_s15 {A : aS} {F i t : Nat} (hF : 4097 < F) (hi : i < aC A) (ht : t < 16) (kx : sS → Option sS) : ∀ (n k f : Nat) (σ : sS) (z : zS), R0 A σ → rZ z σ → k + n = nfb t (mF (aMa A i)) → n < f → okE (((List.range' k n).map (fun k => 2 * k + 1)).flatMap (fun g => (rkS t (mF (aMa A i)) g (fun _ => 7)).map (fun P => (t, g, P, 0)))) z → ∃ τ, L_X12_goesFromSet_15 F (nI i) (nI t) kx f (nI (2 * k + 1)) σ = kx τ ∧ gR σ (goL (((List.range' k n).map (fun k => 2 * k + 1)).flatMap (fun g => (rkS t (mF (aMa A i)) g (fun _ => 7)).map (fun P => (t, g, P, 0)))) z) τ := by
  intro n
  induction n with
  | zero =>
    intro k f σ z h hz hk hf _
    obtain ⟨f, rfl⟩ : ∃ k, f = k + 1 := ⟨f - 1, by omega⟩
    have hm := (h.m hi).1
    have h4 := nfb_4 t ht _ hm.b.2.1
    refine ⟨σ, ?_, fm.rf, hz⟩
    rw [L_X12_goesFromSet_15, x_boundOf h hi ht, bd_s, if_pos ((b_bd _ (by omega) k (by omega)).mpr (by omega))]
  | succ n ih =>
    intro k f σ z h hz hk hf hE
    obtain ⟨f, rfl⟩ : ∃ k, f = k + 1 := ⟨f - 1, by omega⟩
    have hm := (h.m hi).1
    have h4 := nfb_4 t ht _ hm.b.2.1
    have ht0 : ¬ t = 0 := fun c => by have := b_nf0 t ht _ hm.b.2.1 c; omega
    have ho : odd7 (2 * k + 1) := by unfold odd7; omega
    have g8 : 2 * k + 1 < 8 := by omega
    have e : nI (2 * k + 1) + 2 = nI (2 * (k + 1) + 1) := by rw [show (2 : Int32) = nI 2 from rfl, nI_add]; congr 1
    rw [List.range'_succ, List.map_cons, List.flatMap_cons] at hE ⊢
    obtain ⟨υ, u1, u2, u3⟩ := x_first (F := F) (σ := σ) (by omega)
    obtain ⟨l, l1, l2, l3⟩ := vs_0 (t := t) g8
    have eR : (rkS t (mF (aMa A i)) (2 * k + 1) (fun _ => 7)) = (0 :: l).filter (tgB t (mF (aMa A i)) (2 * k + 1) (fun _ => 7)) := by unfold rkS; rw [l1]
    rw [L_X12_goesFromSet_15, x_boundOf h hi ht, bd_s, if_neg (fun c => by have := (b_bd _ (by omega) k (by omega)).mp c; omega), u1, bd_s, if_neg (fun c => ht0 ((nI_k0 (by omega)).mp c)), e]
    have hE1 := hE.app1
    rw [eR] at hE1
    obtain ⟨τ, t1, t2, t3⟩ := x_s40 (A := A) (F := F) (by omega) hi ht ho (fun σ13 => L_X12_goesFromSet_15 F (nI i) (nI t) kx f (nI (2 * (k + 1) + 1)) σ13) l 0 F υ z (h.g u3.g1) (hz.f u3) l2 dOK_0 u2 (by omega) hE1
    rw [t1, goL_app]
    rw [← eR] at t3
    cases hgo : goL ((rkS t (mF (aMa A i)) (2 * k + 1) (fun _ => 7)).map (fun P => (t, 2 * k + 1, P, 0))) z with
    | none =>
      rw [hgo] at t3
      obtain ⟨ω, w1, w2, w3⟩ := x_s15N (A := A) (F := F) (by omega) hi ht kx n (k + 1) f τ ((h.g u3.g1).g t2) t3 (by omega) (by omega)
      exact ⟨ω, w1, (u3.g1.tr t2).tr w2, w3⟩
    | some y =>
      rw [hgo] at t3
      obtain ⟨ω, w1, w2, w3⟩ := ih (k + 1) f τ y ((h.g u3.g1).g t2) t3 (by omega) (by omega) (hE.app2 hgo)
      exact ⟨ω, w1, (u3.g1.tr t2).tr w2, w3⟩
theorem x_fromSet {A : aS} {F i t : Nat} {σ : sS} {z : zS} (hF : 4097 < F) (hi : i < aC A) (ht : t < 16) (h : R0 A σ) (hz : rZ z σ) (hE : okE (sucS (aMa A i) t) z) : ∃ τ, L_X12_goesFromSet F (nI i) (nI t) σ = some τ ∧ gR σ (goL (sucS (aMa A i) t) z) τ := by
  unfold sucS at hE ⊢
  rw [List.range_eq_range'] at hE ⊢
  obtain ⟨e1, e2⟩ := hE
  obtain ⟨r, υ, τ, u1, u2, u3, u4⟩ := x_go1 (F := F) (x := (t, 0, 0, 0)) (by omega) hz e1 (fun y hy => by rw [hy] at e2; have := e2.1; omega)
  unfold L_X12_goesFromSet
  rw [show L_X12_nodeOf F (nI t) (-2) 0 0 σ = some (r, υ) from u1, bd2_s, u2, bd_s]
  show ∃ τ, _ ∧ gR σ (match go1 z (t, 0, 0, 0) with | none => none | some y => goL _ y) τ
  cases hgo : go1 z (t, 0, 0, 0) with
  | none =>
    rw [hgo] at u4
    obtain ⟨ω, w1, w2, w3⟩ := x_s15N (A := A) (F := F) (i := i) (t := t) (by omega) hi ht (fun σ6 => some σ6) (nfb t (mF (aMa A i))) 0 F τ (h.g u3.g) u4 (by omega) (by have := nfb_4 t ht _ (h.m hi).1.b.2.1; omega)
    exact ⟨ω, w1, u3.g.tr w2, w3⟩
  | some y =>
    rw [hgo] at u4 e2
    obtain ⟨ω, w1, w2, w3⟩ := x_s15 (A := A) (F := F) hF hi ht (fun σ6 => some σ6) (nfb t (mF (aMa A i))) 0 F τ y (h.g u3.g) u4 (by omega) (by have := nfb_4 t ht _ (h.m hi).1.b.2.1; omega) e2.2
    exact ⟨ω, w1, u3.g.tr w2, w3⟩
