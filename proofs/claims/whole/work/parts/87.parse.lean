/-! what the tape says of automata: line by line -/
/-- letters, how many automata, the automata, their names (place, length) -/
abbrev dD : Type := Nat × Nat × (Nat → aM) × (Nat → Nat × Nat)
def dL (D : dD) : Nat := D.1
def dK (D : dD) : Nat := D.2.1
def dM (D : dD) : Nat → aM := D.2.2.1
def dN (D : dD) : Nat → Nat × Nat := D.2.2.2
/-- a word at a place -/
def wok (b : Nat → Int32) (e : Nat) (w : Nat × Nat) : Prop := w.2 ≤ 7 ∧ smA b w.1 w.2 ∧ w.1 + w.2 ≤ e
def dOk (b : Nat → Int32) (e : Nat) (D : dD) : Prop := dL D ≤ 3 ∧ dK D ≤ 3 ∧ (dL D = 0 → dK D = 0) ∧ ∀ i, i < dK D → mOk (dL D) (dM D i) ∧ wok b e (dN D i)
/-- one of the document's own words -/
abbrev kpt (b : Nat → Int32) (e q : Nat) : Prop := ∃ i, i < 6 ∧ isW b e q i
/-- the words at two places are the same -/
abbrev smw (b : Nat → Int32) (w v : Nat × Nat) : Prop := w.2 = v.2 ∧ ∀ j, j < w.2 → b (w.1 + j) = b (v.1 + j)
def dSet (D : dD) (M : aM) : dD := (dL D, dK D, fun a => if a = dK D - 1 then M else dM D a, dN D)
def dNew (D : dD) (n : Nat) (w : Nat × Nat) : dD := (dL D, dK D + 1, fun a => if a = dK D then (n, 0, 0, fun _ _ => 0) else dM D a, fun a => if a = dK D then w else dN D a)
abbrev pE (α : Type) : Type := (Int32 × Nat) ⊕ α
def pbd {α β : Type} (x : pE α) (f : α → pE β) : pE β := match x with
  | .inl k => .inl k
  | .inr a => f a
/-- the automaton in hand -/
def dA (D : dD) : aM := dM D (dK D - 1)
def sName (b : Nat → Int32) (e q : Nat) (D : dD) : pE Nat := if tkk b e q = 2 ∧ ¬ kpt b e q then (if ∃ i, i < dK D ∧ smw b (dN D i) (q, tke b e q - q) then .inl (3, q) else .inr (nx b e q)) else .inl (1, q)
def sAuto (b : Nat → Int32) (e q : Nat) (D : dD) : pE (Nat × dD) := if dK D = 3 then .inl (4, q) else if dL D = 0 then .inl (5, q) else pbd (sName b e (nx b e q) D) (fun q2 => if isW b e q2 2 then pbd (sWhole b e (nx b e q2) 1 4) (fun v => .inr (nx b e (nx b e q2), dNew D v (nx b e q, tke b e (nx b e q) - nx b e q))) else .inl (1, q2))
def sLet (b : Nat → Int32) (e q : Nat) (D : dD) : pE (Nat × dD) := if dL D = 0 then pbd (sWhole b e (nx b e q) 1 3) (fun v => .inr (nx b e (nx b e q), (v, dK D, dM D, dN D))) else .inl (3, q)
def sMark (b : Nat → Int32) (e q : Nat) (D : dD) (z : Nat) : pE (Nat × dD) := if dK D = 0 then .inl (5, q) else pbd (sWhole b e (nx b e q) 0 (mN (dA D) - 1)) (fun v => if (if z = 0 then mF (dA D) else mB (dA D)).testBit v = true then .inl (3, q) else .inr (nx b e (nx b e q), dSet D (if z = 0 then mkF (dA D) v else mkB (dA D) v)))
def sEdge (b : Nat → Int32) (e q : Nat) (D : dD) : pE (Nat × dD) := if dK D = 0 then .inl (5, q) else pbd (sWhole b e (nx b e q) 0 (mN (dA D) - 1)) (fun f => let q2 := nx b e (nx b e q); if tkk b e q2 = 2 ∧ tke b e q2 - q2 = 1 ∧ (b q2 - 97).toNatClampNeg < dL D then pbd (sWhole b e (nx b e q2) 0 (mN (dA D) - 1)) (fun t => if (mE (dA D) (b q2 - 97).toNatClampNeg f).testBit t = true then .inl (3, q) else .inr (nx b e (nx b e q2), dSet D (mkE (dA D) (b q2 - 97).toNatClampNeg f t))) else .inl (1, q2))
def sLine (b : Nat → Int32) (e q : Nat) (D : dD) : pE (Nat × dD) := if isW b e q 0 then sLet b e q D else if isW b e q 1 then sAuto b e q D else if isW b e q 3 then sMark b e q D 1 else if isW b e q 4 then sMark b e q D 0 else if isW b e q 5 then sEdge b e q D else .inl (1, q)
def sAll (b : Nat → Int32) (e : Nat) : Nat → Nat → dD → pE dD
  | 0, q, _ => .inl (1, q)
  | n + 1, q, D => pbd (sLine b e q D) (fun z => if tkk b e z.1 = 1 then (if dK z.2 = 0 then .inl (5, z.1) else .inr z.2) else if tkk b e z.1 = 4 ∧ b z.1 = 59 then sAll b e n (nx b e z.1) z.2 else .inl (1, z.1))
/-- the reference's drafts -/
def rD (b : Nat → Int32) (e : Nat) (D : dD) (σ : sS) : Prop := dOk b e D ∧ vI σ 90 21 = nI (dL D) ∧ vI σ 90 22 = nI (dK D) ∧ (∀ i, i < dK D → rMa (dL D) (dM D i) σ (3 + i) ∧ vL σ 118 i = wdv b (dN D i).1 (dN D i).2) ∧ ∀ i, dK D ≤ i → i < 3 → ∀ j, j < 16 → vI σ 117 (16 * (3 + i) + j) = 0
theorem rD.fm {b : Nat → Int32} {e : Nat} {D : dD} {σ τ : sS} {K : List Nat} (h : rD b e D σ) (f : fm [] K σ τ) (h1 : 21 ∉ K) (h2 : 22 ∉ K) : rD b e D τ := by
  have n : ∀ {x : Nat}, x ∉ ([] : List Nat) := fun h => nomatch h
  obtain ⟨a, a1, a2, a3, a4⟩ := h
  refine ⟨a, (f.f h1 n).trans a1, (f.f h2 n).trans a2, fun i hi => ?_, fun i h1 h2 j hj => (f.r n (by decide)).trans (a4 i h1 h2 j hj)⟩
  obtain ⟨⟨m0, m1, m2, m3, m4⟩, l⟩ := a3 i hi
  exact ⟨⟨m0, (f.r n (by decide)).trans m1, (f.r n (by decide)).trans m2, (f.r n (by decide)).trans m3, fun s g hs hg => (f.r n (by decide)).trans (m4 s g hs hg)⟩, (f.2.1 118 i n (fun h => absurd h (by decide))).trans l⟩
/-- the automata themselves (not the drafts) are as before -/
def fo (σ τ : sS) : Prop := (∀ j, j < 3 → vI τ 114 j = vI σ 114 j) ∧ (∀ j, j < 3 → vI τ 115 j = vI σ 115 j) ∧ (∀ j, j < 3 → vI τ 116 j = vI σ 116 j) ∧ ∀ j, j < 48 → vI τ 117 j = vI σ 117 j
theorem fo.rf {σ : sS} : fo σ σ := ⟨fun _ _ => rfl, fun _ _ => rfl, fun _ _ => rfl, fun _ _ => rfl⟩
theorem fo.tr {σ τ υ : sS} (h : fo σ τ) (k : fo τ υ) : fo σ υ := ⟨fun j hj => (k.1 j hj).trans (h.1 j hj), fun j hj => (k.2.1 j hj).trans (h.2.1 j hj), fun j hj => (k.2.2.1 j hj).trans (h.2.2.1 j hj), fun j hj => (k.2.2.2 j hj).trans (h.2.2.2 j hj)⟩
theorem fo.fm {K : List Nat} {σ τ : sS} (f : fm [] K σ τ) : fo σ τ := ⟨fun _ _ => f.r (fun h => nomatch h) (by decide), fun _ _ => f.r (fun h => nomatch h) (by decide), fun _ _ => f.r (fun h => nomatch h) (by decide), fun _ _ => f.r (fun h => nomatch h) (by decide)⟩
/-- the reference after a step: in the good case it goes on, in the bad one it holds the fault -/
def rP (b : Nat → Int32) (e : Nat) (σ : sS) (x : pE (Nat × dD)) (o : Option sS) : Prop := match x with
  | .inl (k, w) => ∃ τ, o = some τ ∧ vI τ 90 7 = k ∧ 0 < k ∧ vI τ 90 8 = nI w ∧ fo σ τ
  | .inr (q, D) => ∃ τ, o = some τ ∧ tkT b e q τ ∧ vI τ 90 7 = 0 ∧ rD b e D τ ∧ fo σ τ
theorem bd2_s {α β : Type} {a : α} {τ : sS} {f : α → sS → Option β} : bd2 (some (a, τ)) f = f a τ := rfl
theorem x_wholeN {F : Nat} {l m : Int32} {σ : sS} (h : 0 < vI σ 90 7) : ∃ v, L_X12_readWhole F l m σ = some (v, σ) := by
  have h33 : L_X12_readWhole_33 F σ = some (vI σ 90 12, σ) := by
    unfold L_X12_readWhole_33
    simp only [bnd_s]
    rw [x_goN h, bd_s]
  refine ⟨vI σ 90 12, ?_⟩
  unfold L_X12_readWhole
  rw [x_flawN h, x_flawN h]
  simp only [bd_s, h33]
  split
  · split
    · rfl
    · rfl
  · rfl
theorem x_let {b : Nat → Int32} {e q F : Nat} {D : dD} {σ : sS} (h : tkT b e q σ) (h7 : vI σ 90 7 = 0) (hD : rD b e D σ) (hF : 400 < F) : rP b e σ (sLet b e q D) (L_X12_readLetters F σ) := by
  have hL := hD.1.1
  unfold sLet L_X12_readLetters
  rw [hD.2.1]
  by_cases h0 : dL D = 0
  · rw [if_pos h0, if_pos (show nI (dL D) ≤ 0 by rw [h0]; decide)]
    unfold L_X12_readLetters_12
    obtain ⟨τ, t1, t2⟩ := x_goOn h.1 h7 hF
    have f1 := f_L_X12_goOn t1
    have t7 : vI τ 90 7 = 0 := (f1.f (by decide) (fun h => nomatch h)).trans h7
    rw [t1, bd_s]
    have hw := x_whole (l := 1) (m := 3) t2 t7 hF (by decide) (by decide)
    show rP b e σ (pbd (sWhole b e (nx b e q) 1 3) _) _
    cases hs : sWhole b e (nx b e q) 1 3 with
    | inl k =>
      obtain ⟨k, w⟩ := k
      rw [show tq b e (tke b e q) = nx b e q from rfl, hs] at hw
      obtain ⟨v, υ, u1, u2, u3, u4, u5⟩ := hw
      show ∃ τ', _
      refine ⟨υ, ?_, u2, u3, u4, (fo.fm f1).tr (fo.fm u5)⟩
      rw [show L_X12_readWhole F 1 3 τ = some (v, υ) from u1, bd2_s, if_neg]
      rw [u2]
      exact fun c => absurd (c ▸ u3 : (0 : Int32) < 0) (by decide)
    | inr v =>
      rw [show tq b e (tke b e q) = nx b e q from rfl, hs] at hw
      obtain ⟨v3, v1, υ, u1, u2, u3, u4⟩ := hw
      show ∃ τ', _
      refine ⟨uI υ 90 21 (nI v), ?_, ?_, ?_, ?_, by have g := (fo.fm f1).tr (fo.fm u4); exact g⟩
      · rw [show L_X12_readWhole F 1 3 τ = some (nI v, υ) from u1, bd2_s, if_pos u3]
        rfl
      · exact u2
      · exact u3
      · have g := (hD.fm f1 (by decide) (by decide)).fm u4 (by decide) (by decide)
        obtain ⟨⟨o1, o2, o3, o4⟩, a1, a2, a3, a4⟩ := g
        have k0 := o3 h0
        refine ⟨⟨v3, o2, fun c => k0, fun i hi => absurd hi (by show ¬ i < dK D; omega)⟩, rfl, a2, fun i hi => absurd hi (by show ¬ i < dK D; omega), a4⟩
  · rw [if_neg h0, if_neg (show ¬ nI (dL D) ≤ 0 from nI_ge (a := 0) (by omega) (by omega)), x_flaw h7, bd_s, h.2.2.1]
    unfold L_X12_readLetters_12
    have p3 : 0 < vI (uI (uI σ 90 7 3) 90 8 (nI q)) 90 7 := show (0 : Int32) < 3 by decide
    rw [x_goN p3, bd_s]
    obtain ⟨v, hv⟩ := x_wholeN (F := F) (l := 1) (m := 3) p3
    rw [hv, bd2_s, if_neg (show ¬ vI (uI (uI σ 90 7 3) 90 8 (nI q)) 90 7 = 0 from show ¬ (3 : Int32) = 0 by decide)]
    exact ⟨_, rfl, rfl, by decide, rfl, fo.rf⟩
