/-! the complement: where the reference goes from a pair -/
theorem b_an : ∀ x, x < 16 → ∀ y, y < 16 → nI x &&& nI y = nI (x &&& y) := by decide +kernel
def rMo (cap : Nat → Nat) (σ : sS) : Prop := ∀ s, s < 4 → vI σ 136 s = nI (cap s) ∧ cap s < 8
theorem rMo.f {cap : Nat → Nat} {σ τ : sS} {M K : List Nat} (h : rMo cap σ) (f : fm M K σ τ) (h1 : 136 ∉ M) : rMo cap τ := fun s hs => ⟨(f.r h1 (by decide)).trans (h s hs).1, (h s hs).2⟩
theorem x_p83 {A : aS} {F i t g w : Nat} {cap : Nat → Nat} (hF : 300 < F) (hi : i < aC A) (ht : t < 16) (hw : w < 16) (hg : odd7 g) (kx : sS → Option sS) : ∀ (l : List Nat) (P f : Nat) (σ : sS) (z : zS), R0 A σ → rZ z σ → rMo cap σ → Wk t g (P :: l) (0, 0) → dOK t g P → rV P σ → l.length + 1 < f → okE (((P :: l).filter (tgB t (mF (aMa A i)) g cap)).map (fun Q => (t, g, Q, evn t Q &&& w))) z → ∃ τ, L_X12_goesFromPair_83 F (nI i) (nI t) (nI g) (nI w) kx f 1 σ = kx τ ∧ gR σ (goL (((P :: l).filter (tgB t (mF (aMa A i)) g cap)).map (fun Q => (t, g, Q, evn t Q &&& w))) z) τ := by
  have g8 : g < 8 := by rcases hg with h | h | h | h <;> omega
  intro l
  induction l with
  | nil =>
    intro P f σ z h hz hc hW hD hV hf hE
    obtain ⟨f, rfl⟩ : ∃ k, f = k + 1 := ⟨f - 1, by omega⟩
    have hf0 : 0 < f := by simp only [List.length_nil] at hf; omega
    have hW : nxD t g 4 P = (0, 0) := hW
    have cont : ∀ υ, rV P υ → ∃ τ, bd2 (L_X12_nextRanking F (nI t) (nI g) υ) (fun r s => L_X12_goesFromPair_83 F (nI i) (nI t) (nI g) (nI w) kx f r s) = kx τ ∧ fm [123] [] υ τ := by
      intro υ hυ
      obtain ⟨τ, t1, t2, t3⟩ := x_nextR (F := F) (by omega) ht g8 hD hυ
      rw [hW] at t1
      obtain ⟨f, rfl⟩ : ∃ k, f = k + 1 := ⟨f - 1, by omega⟩
      refine ⟨τ, ?_, t3⟩
      rw [t1, bd2_s, L_X12_goesFromPair_83, if_pos (show nI (0, 0).1 = 0 from rfl)]
    rw [L_X12_goesFromPair_83, if_neg i1n0, if_pos hz.2.2.2.1, x_under (by omega) ht hV hc, bd_s, x_tight (by omega) h hi ht hg hD hV, bd_s, x_packed (by omega) ht hD hV, bd_s, x_evens (by omega) ht hV, bd_s, b_an _ (evn_lt t P) _ hw]
    rw [List.filter_cons, List.filter_nil] at hE ⊢
    have skip : tgB t (mF (aMa A i)) g cap P = false → ∃ τ, bd2 (L_X12_nextRanking F (nI t) (nI g) σ) (fun r s => L_X12_goesFromPair_83 F (nI i) (nI t) (nI g) (nI w) kx f r s) = kx τ ∧ gR σ (goL ((if tgB t (mF (aMa A i)) g cap P = true then [P] else []).map (fun Q => (t, g, Q, evn t Q &&& w))) z) τ := by
      intro hb
      obtain ⟨ω, w1, w2⟩ := cont σ hV
      rw [if_neg (by rw [hb]; decide)]
      exact ⟨ω, w1, w2.g1, hz.f w2⟩
    have hU := tgB_und (t := t) (f := mF (aMa A i)) (g := g) (P := P) (cap := cap)
    by_cases hu : und t cap P 4 0 = true
    · rw [if_pos hu, if_neg i1n0]
      rw [hu, Bool.true_and] at hU
      by_cases hb : tgB t (mF (aMa A i)) g (fun _ => 7) P = true
      · rw [hb] at hU
        rw [if_pos hb, if_neg i1n0]
        rw [if_pos hU] at hE ⊢
        obtain ⟨e1, e2⟩ := hE
        obtain ⟨r, υ, τ, u1, u2, u3, u4⟩ := x_go1 (F := F) (x := (t, g, P, evn t P &&& w)) hF hz e1 (fun y hy => by rw [hy] at e2; have := e2.1; omega)
        rw [ndT_g hg] at u1
        rw [show L_X12_nodeOf F (nI t) (nI g) (nI P) (nI (evn t P &&& w)) σ = some (r, υ) from u1, bd2_s, u2, bd_s]
        obtain ⟨ω, w1, w2⟩ := cont τ (hV.f u3)
        refine ⟨ω, w1, u3.g.tr w2.g1, ?_⟩
        show match (match go1 z (t, g, P, evn t P &&& w) with | none => none | some y => goL [] y) with | some y => rZ y ω | none => rFu ω
        cases hgo : go1 z (t, g, P, evn t P &&& w) with
        | none => rw [hgo] at u4; exact u4.k w2 (by decide) (by decide) (by decide)
        | some y => rw [hgo] at u4; exact u4.f w2
      · rw [(Bool.not_eq_true _).mp hb] at hU
        rw [if_neg hb, if_pos rfl]
        exact skip hU
    · rw [(Bool.not_eq_true _).mp hu, Bool.false_and] at hU
      rw [if_neg hu, if_pos rfl]
      exact skip hU
  | cons Q l ih =>
    intro P f σ z h hz hc hW hD hV hf hE
    obtain ⟨f, rfl⟩ : ∃ k, f = k + 1 := ⟨f - 1, by omega⟩
    have hl : l.length + 1 < f := by simp only [List.length_cons] at hf; omega
    obtain ⟨hn, hQ⟩ := hW.ok g8 hD
    have cont : ∀ υ, rV P υ → ∃ ρ, L_X12_nextRanking F (nI t) (nI g) υ = some (1, ρ) ∧ rV Q ρ ∧ fm [123] [] υ ρ := by
      intro υ hυ
      obtain ⟨ρ, t1, t2, t3⟩ := x_nextR (F := F) (by omega) ht g8 hD hυ
      rw [hn] at t1 t2
      exact ⟨ρ, t1, t2, t3⟩
    rw [L_X12_goesFromPair_83, if_neg i1n0, if_pos hz.2.2.2.1, x_under (by omega) ht hV hc, bd_s, x_tight (by omega) h hi ht hg hD hV, bd_s, x_packed (by omega) ht hD hV, bd_s, x_evens (by omega) ht hV, bd_s, b_an _ (evn_lt t P) _ hw]
    rw [List.filter_cons] at hE ⊢
    have skip : tgB t (mF (aMa A i)) g cap P = false → ∃ τ, bd2 (L_X12_nextRanking F (nI t) (nI g) σ) (fun r s => L_X12_goesFromPair_83 F (nI i) (nI t) (nI g) (nI w) kx f r s) = kx τ ∧ gR σ (goL ((if tgB t (mF (aMa A i)) g cap P = true then P :: (Q :: l).filter (tgB t (mF (aMa A i)) g cap) else (Q :: l).filter (tgB t (mF (aMa A i)) g cap)).map (fun Q => (t, g, Q, evn t Q &&& w))) z) τ := by
      intro hb
      rw [if_neg (by rw [hb]; decide)] at hE ⊢
      obtain ⟨ρ, w1, w2, w3⟩ := cont σ hV
      rw [w1, bd2_s]
      obtain ⟨ω, o1, o2, o3⟩ := ih Q f ρ z (h.g w3.g1) (hz.f w3) (hc.f w3 (by decide)) hW.2 hQ w2 hl hE
      exact ⟨ω, o1, w3.g1.tr o2, o3⟩
    have hU := tgB_und (t := t) (f := mF (aMa A i)) (g := g) (P := P) (cap := cap)
    by_cases hu : und t cap P 4 0 = true
    · rw [if_pos hu, if_neg i1n0]
      rw [hu, Bool.true_and] at hU
      by_cases hb : tgB t (mF (aMa A i)) g (fun _ => 7) P = true
      · rw [hb] at hU
        rw [if_pos hb, if_neg i1n0]
        rw [if_pos hU] at hE ⊢
        obtain ⟨e1, e2⟩ := hE
        obtain ⟨r, υ, τ, u1, u2, u3, u4⟩ := x_go1 (F := F) (x := (t, g, P, evn t P &&& w)) hF hz e1 (fun y hy => by rw [hy] at e2; have := e2.1; omega)
        rw [ndT_g hg] at u1
        rw [show L_X12_nodeOf F (nI t) (nI g) (nI P) (nI (evn t P &&& w)) σ = some (r, υ) from u1, bd2_s, u2, bd_s]
        obtain ⟨ρ, w1, w2, w3⟩ := cont τ (hV.f u3)
        rw [w1, bd2_s, List.map_cons]
        show ∃ τ, _ ∧ gR σ (match go1 z (t, g, P, evn t P &&& w) with | none => none | some y => goL _ y) τ
        cases hgo : go1 z (t, g, P, evn t P &&& w) with
        | none =>
          rw [hgo] at u4
          have rf : rFu ρ := u4.k w3 (by decide) (by decide) (by decide)
          have r35 := rf.1
          obtain ⟨f, rfl⟩ : ∃ k, f = k + 1 := ⟨f - 1, by omega⟩
          refine ⟨ρ, ?_, u3.g.tr w3.g1, rf⟩
          rw [L_X12_goesFromPair_83, if_neg i1n0, if_neg (by rw [r35]; decide)]
        | some y =>
          rw [hgo] at u4 e2
          obtain ⟨ω, o1, o2, o3⟩ := ih Q f ρ y ((h.g u3.g).g w3.g1) (u4.f w3) ((hc.f u3 (by decide)).f w3 (by decide)) hW.2 hQ w2 hl e2.2
          exact ⟨ω, o1, (u3.g.tr w3.g1).tr o2, o3⟩
      · rw [(Bool.not_eq_true _).mp hb] at hU
        rw [if_neg hb, if_pos rfl]
        exact skip hU
    · rw [(Bool.not_eq_true _).mp hu, Bool.false_and] at hU
      rw [if_neg hu, if_pos rfl]
      exact skip hU
theorem fm.g6 {σ τ : sS} (h : fm [136] [] σ τ) : fm gM cpK σ τ := h.mo (by decide) (fun _ h => nomatch h)
theorem rZ.f6 {z : zS} {σ τ : sS} (h : rZ z σ) (f : fm [136] [] σ τ) : rZ z τ := by
  obtain ⟨a1, a2, a3, a4, a5, a6, a7, a8⟩ := h
  refine ⟨a1, (f.f (by decide) (by decide)).trans a2, (f.f (by decide) (by decide)).trans a3, (f.f (by decide) (by decide)).trans a4, fun n hn => ?_, fun k hk => (f.r (by decide) (by decide)).trans (a6 k hk), fun n hn => (f.r (by decide) (by decide)).trans (a7 n hn), fun j hj => (f.r (by decide) (by decide)).trans (a8 j hj)⟩
  obtain ⟨o, r1, r2, r3, r4⟩ := a5 n hn
  exact ⟨o, (f.r (by decide) (by decide)).trans r1, (f.r (by decide) (by decide)).trans r2, (f.r (by decide) (by decide)).trans r3, (f.r (by decide) (by decide)).trans r4⟩
theorem x_p3 {A : aS} {z : zS} {F i n c : Nat} {x4 : Int32} (hF : 4 < F) (hi : i < aC A) (hn : n < zN z) (hc : c < 4) (kx : sS → Option sS) : ∀ (m s f : Nat) (σ : sS), R0 A σ → rZ z σ → s + m = 4 → m < f → ∃ τ, L_X12_goesFromPair_3 F (nI i) (nI n) (nI c) x4 kx f (nI s) σ = kx τ ∧ (∀ r, s ≤ r → r < 4 → vI τ 136 r = nI (mst (aMa A i) (zX z n).1 (zX z n).2.2.1 c r 4)) ∧ (∀ r, r < s → vI τ 136 r = vI σ 136 r) ∧ fm [136] [] σ τ := by
  intro m
  induction m with
  | zero =>
    intro s f σ h hz hs hf
    obtain ⟨f, rfl⟩ : ∃ k, f = k + 1 := ⟨f - 1, by omega⟩
    have hs : s = 4 := by omega
    subst hs
    refine ⟨σ, ?_, fun r h1 h2 => absurd h2 (by omega), fun _ _ => rfl, fm.rf⟩
    rw [L_X12_goesFromPair_3, if_pos (by decide)]
  | succ m ih =>
    intro s f σ h hz hs hf
    obtain ⟨f, rfl⟩ : ∃ k, f = k + 1 := ⟨f - 1, by omega⟩
    have f1 : fm [136] [] σ (uI σ 136 s (nI (mst (aMa A i) (zX z n).1 (zX z n).2.2.1 c s 4))) := fm_r1
    obtain ⟨τ, t1, t2, t3, t4⟩ := ih (s + 1) f _ (h.g f1.g6) (hz.f6 f1) (by omega) (by omega)
    refine ⟨τ, ?_, fun r h1 h2 => ?_, fun r hr => ?_, f1.tr t4⟩
    · rw [L_X12_goesFromPair_3, if_neg (show ¬ (4 : Int32) ≤ nI s from nI_ge (b := 4) (by omega) (by omega)), x_mostOf hF h hz hi hn hc (by omega), bd_s, inb_n (by omega) (by omega), grd_s, nI_clamp (by omega), bnd_s, nI_1]
      exact t1
    · by_cases e : r = s
      · rw [e, t3 s (by omega), vI_e]
      · exact t2 r (by omega) h2
    · rw [t3 r (by omega), vI_q (fun q => by have := q.2; omega)]
theorem x_fromPair {A : aS} {F i n c : Nat} {σ : sS} {z : zS} (hF : 4097 < F) (hi : i < aC A) (hn : n < zN z) (hc : c < 4) (h : R0 A σ) (hz : rZ z σ) (hg0 : (zX z n).2.1 ≠ 0) (hE : okE (sucP (aMa A i) (zX z n) c (aft (aMa A i) (zX z n).1 c)) z) : ∃ τ, L_X12_goesFromPair F (nI i) (nI n) (nI c) (nI (aft (aMa A i) (zX z n).1 c)) σ = some τ ∧ gR σ (goL (sucP (aMa A i) (zX z n) c (aft (aMa A i) (zX z n).1 c)) z) τ := by
  have hm := (h.m hi).1
  have hN := hz.1
  obtain ⟨o, r1, r2, r3, r4⟩ := hz.2.2.2.2.1 n hn
  have hg : odd7 (zX z n).2.1 := by
    rcases o.2.2 with c | c
    · exact absurd c.1 hg0
    · exact c.1
  have g8 : (zX z n).2.1 < 8 := o.P.2
  have ht := aft_16 hm (zX z n).1 c
  have hwA := aft_16 hm (zX z n).2.2.2 c
  have eT : ndT (zX z n) = nI (zX z n).2.1 := if_neg hg0
  unfold sucP at hE ⊢
  generalize aft (aMa A i) (zX z n).1 c = t at ht hE
  obtain ⟨l, l1, l2, l3⟩ := vs_0 (t := t) g8
  have eR : rkS t (mF (aMa A i)) (zX z n).2.1 (fun s => mst (aMa A i) (zX z n).1 (zX z n).2.2.1 c s 4) = (0 :: l).filter (tgB t (mF (aMa A i)) (zX z n).2.1 (fun s => mst (aMa A i) (zX z n).1 (zX z n).2.2.1 c s 4)) := by unfold rkS; rw [l1]
  rw [eR] at hE ⊢
  have main : ∀ (w : Nat) (υ : sS), w < 16 → R0 A υ → rZ z υ → rMo (fun s => mst (aMa A i) (zX z n).1 (zX z n).2.2.1 c s 4) υ → (if (zX z n).2.2.2 = 0 then t else aft (aMa A i) (zX z n).2.2.2 c) = w → ∃ τ, bd (L_X12_firstRanking F υ) (fun σ15 => if nI t = 0 then (L_X12_goesFromPair_83 F (nI i) (nI t) (nI (zX z n).2.1) (nI w) (fun σ17 => some σ17) F 0 σ15) else (L_X12_goesFromPair_83 F (nI i) (nI t) (nI (zX z n).2.1) (nI w) (fun σ18 => some σ18) F 1 σ15)) = some τ ∧ gR υ (goL (((0 :: l).filter (tgB t (mF (aMa A i)) (zX z n).2.1 (fun s => mst (aMa A i) (zX z n).1 (zX z n).2.2.1 c s 4))).map (fun Q => (t, (zX z n).2.1, Q, evn t Q &&& (if (zX z n).2.2.2 = 0 then t else aft (aMa A i) (zX z n).2.2.2 c)))) z) τ := by
    intro w υ hw hR hZ hM ew
    rw [ew] at hE ⊢
    obtain ⟨ρ, u1, u2, u3⟩ := x_first (F := F) (σ := υ) (by omega)
    rw [u1, bd_s]
    by_cases t0 : t = 0
    · rw [if_pos (by rw [t0]; rfl)]
      have e0 : (0 :: l).filter (tgB t (mF (aMa A i)) (zX z n).2.1 (fun s => mst (aMa A i) (zX z n).1 (zX z n).2.2.1 c s 4)) = [] := by
        refine filter_nil _ (fun Q _ => ?_)
        have c1 : ∀ k, cvS t Q k = false := by
          intro k
          unfold cvS
          rw [t0]
          simp only [Nat.zero_testBit]
          rfl
        unfold tgB
        rw [c1 1, Bool.or_false, decide_eq_false (show ¬ (zX z n).2.1 < 1 by omega)]
        exact Bool.and_false _
      rw [e0]
      obtain ⟨G, rfl⟩ : ∃ G, F = G + 1 := ⟨F - 1, by omega⟩
      refine ⟨ρ, ?_, u3.g1, hZ.f u3⟩
      rw [L_X12_goesFromPair_83, if_pos rfl]
    · rw [if_neg (fun q => t0 ((nI_k0 (by omega)).mp q))]
      obtain ⟨τ, t1, t2, t3⟩ := x_p83 (A := A) (F := F) (i := i) (cap := fun s => mst (aMa A i) (zX z n).1 (zX z n).2.2.1 c s 4) (by omega) hi ht hw hg (fun σ18 => some σ18) l 0 F ρ z (hR.g u3.g1) (hZ.f u3) (hM.f u3 (by decide)) l2 dOK_0 u2 (by omega) hE
      exact ⟨τ, t1, u3.g1.tr t2, t3⟩
  obtain ⟨υ, p1, p2, p3, p4⟩ := x_p3 (A := A) (z := z) (F := F) (i := i) (n := n) (c := c) (x4 := nI t) (by omega) hi hn hc (fun σ1 => grd (inb (nI n) 300) (bnd (vI σ1 125 (nI n).toNatClampNeg) (fun yq3 => grd (inb (nI n) 300) (if (vI σ1 127 (nI n).toNatClampNeg) = 0 then (bd (L_X12_firstRanking F σ1) (fun σ15 => if nI t = 0 then (L_X12_goesFromPair_83 F (nI i) (nI t) yq3 (nI t) (fun σ17 => some σ17) F 0 σ15) else (L_X12_goesFromPair_83 F (nI i) (nI t) yq3 (nI t) (fun σ18 => some σ18) F 1 σ15))) else (grd (inb (nI n) 300) (bd (L_X12_afterOf F (nI i) (vI σ1 127 (nI n).toNatClampNeg) (nI c) σ1) (fun rq8 => bd (L_X12_firstRanking F σ1) (fun σ10 => if nI t = 0 then (L_X12_goesFromPair_83 F (nI i) (nI t) yq3 rq8 (fun σ12 => some σ12) F 0 σ10) else (L_X12_goesFromPair_83 F (nI i) (nI t) yq3 rq8 (fun σ13 => some σ13) F 1 σ10))))))))) 4 0 F σ h hz rfl (by omega)
  have hR := h.g p4.g6
  have hZ := hz.f6 p4
  have hM : rMo (fun s => mst (aMa A i) (zX z n).1 (zX z n).2.2.1 c s 4) υ := fun s hs => ⟨p2 s (by omega) hs, by have := mst_le (M := aMa A i) (t := (zX z n).1) (P := (zX z n).2.2.1) (c := c) (to := s) 4; exact Nat.lt_succ_of_le this⟩
  have e0 : L_X12_goesFromPair F (nI i) (nI n) (nI c) (nI t) σ = L_X12_goesFromPair_3 F (nI i) (nI n) (nI c) (nI t) _ F (nI 0) σ := rfl
  rw [e0, p1]
  obtain ⟨-, -, q2, -, q4⟩ := hZ.2.2.2.2.1 n hn
  rw [inb_n (by omega) (by omega)]
  simp only [grd_s, bnd_s]
  rw [nI_clamp (by omega), q2, q4, eT]
  have fin : ∀ τ o, gR υ o τ → gR σ o τ := fun τ o g => ⟨p4.g6.tr g.1, g.2⟩
  by_cases o0 : (zX z n).2.2.2 = 0
  · rw [if_pos (by rw [o0]; rfl)]
    obtain ⟨τ, t1, t2⟩ := main t υ ht hR hZ hM (if_pos o0)
    exact ⟨τ, t1, fin τ _ t2⟩
  · rw [if_neg (fun q => o0 ((nI_k0 (by have := o.2.1; omega)).mp q)), x_afterOf (by omega) hR hi o.2.1 hc, bd_s]
    obtain ⟨τ, t1, t2⟩ := main (aft (aMa A i) (zX z n).2.2.2 c) υ hwA hR hZ hM (if_neg o0)
    exact ⟨τ, t1, fin τ _ t2⟩
