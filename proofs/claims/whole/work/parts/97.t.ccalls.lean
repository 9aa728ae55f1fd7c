/-! calls that ask the complement: what they answer; the component -/
def nfin (x : nd) : Bool := if x.2.1 = 0 then decide (x.1 = 0) else decide (x.2.2.2 = 0)
def nbel (x y : nd) : Bool := decide (x ≠ y) && (decide (x.2.1 ≠ 0) && (decide (x.1 = y.1) && (decide (x.2.1 = y.2.1) && (decide (y.2.2.2 &&& x.2.2.2 = y.2.2.2) && (decide (dg x.2.2.1 0 ≤ dg y.2.2.1 0) && (decide (dg x.2.2.1 1 ≤ dg y.2.2.1 1) && (decide (dg x.2.2.1 2 ≤ dg y.2.2.1 2) && decide (dg x.2.2.1 3 ≤ dg y.2.2.1 3))))))))
def cntF (p : nd → Bool) (X : Nat → nd) : Nat → Nat
  | 0 => 0
  | m + 1 => cntF p X m + (if p (X m) = true then 1 else 0)
theorem cntF_le {p : nd → Bool} {X : Nat → nd} : ∀ n, cntF p X n ≤ n := by
  intro n
  induction n with
  | zero => exact Nat.le_refl _
  | succ n ih => rw [cntF]; split <;> omega
def nval (G : Nat) (v : zS × (Nat → Nat)) (n : Nat) (w : Int32) : Int32 := if w = 0 then nI (zX v.1 n).1 else if w = 1 then ndT (zX v.1 n) else if w = 2 then nI (zX v.1 n).2.2.2 else if w = 3 then (if nfin (zX v.1 n) = true then 1 else 0) else if w = 4 then nI (v.2 ((n + 1) * G) - v.2 (n * G)) else nI (cntF (nbel (zX v.1 n)) (zX v.1) (zN v.1))
def sp_complement (A : aS) (a : Int32) : Int32 × aS := if aOk (aC A) a = true then (match cpl (aMa A a.toNatClampNeg) (aG A) with
  | none => aRef A 3
  | some v => aGood A (nI (zN v.1))) else aRef A 1
def sp_node (A : aS) (a n w : Int32) : Int32 × aS := if aOk (aC A) a = true then (if n < 0 then aRef A 1 else if aOk 6 w = true then (match cpl (aMa A a.toNatClampNeg) (aG A) with
  | none => aRef A 3
  | some v => if n.toNatClampNeg < zN v.1 then aGood A (nval (aG A) v n.toNatClampNeg w) else aRef A 1) else aRef A 1) else aRef A 1
def sp_rank (A : aS) (a n s : Int32) : Int32 × aS := if aOk (aC A) a = true ∧ aOk (mN (aMa A a.toNatClampNeg)) s = true then (if n < 0 then aRef A 1 else (match cpl (aMa A a.toNatClampNeg) (aG A) with
  | none => aRef A 3
  | some v => if n.toNatClampNeg < zN v.1 then aGood A (if (zX v.1 n.toNatClampNeg).2.1 = 0 then -2 else if (zX v.1 n.toNatClampNeg).1.testBit s.toNatClampNeg = true then nI (dg (zX v.1 n.toNatClampNeg).2.2.1 s.toNatClampNeg) else -2) else aRef A 1)) else aRef A 1
def sp_next (A : aS) (a n s k : Int32) : Int32 × aS := if aOk (aC A) a = true then (if n < 0 then aRef A 1 else if aOk (aG A) s = true then (if k < 0 then aRef A 1 else (match cpl (aMa A a.toNatClampNeg) (aG A) with
  | none => aRef A 3
  | some v => if n.toNatClampNeg < zN v.1 then aGood A (if k.toNatClampNeg < v.2 (n.toNatClampNeg * aG A + s.toNatClampNeg + 1) - v.2 (n.toNatClampNeg * aG A + s.toNatClampNeg) then nI (zT v.1 (v.2 (n.toNatClampNeg * aG A + s.toNatClampNeg) + k.toNatClampNeg)) else -2) else aRef A 1)) else aRef A 1) else aRef A 1
def nsel (v : zS × (Nat → Nat)) (w : Int32) (x : nd) : Bool := if w = 0 then decide (x.2.1 = 0) else if w = 1 then nfin x else decide (x.2.1 ≠ 0) && decide (cntF (nbel x) (zX v.1) (zN v.1) = 0)
def sp_nodes (A : aS) (a w : Int32) : Int32 × aS := if aOk (aC A) a = true then (if aOk 3 w = true then (match cpl (aMa A a.toNatClampNeg) (aG A) with
  | none => aRef A 3
  | some v => aGood A (nI (cntF (nsel v w) (zX v.1) (zN v.1)))) else aRef A 1) else aRef A 1
/-! what the component keeps between calls -/
def cCh (A : aS) (σ : sS) : Prop := ∀ i, i < aC A → vI σ (33 + i) 6 = 0 ∨ cCpl (33 + i) (aMa A i) (aG A) σ
/-- what is kept besides: the other half's rows, which rows the rounds take turns with -/
abbrev cB : Type := (Nat × Nat) × sS
def rF (σ : sS) : Prop := ∃ F H, fh F H ∧ vR σ 45 1 = some F ∧ vR σ 45 2 = some H
theorem rF.c {σ τ : sS} (h : rF σ) (e : ∀ k, vR τ 45 k = vR σ 45 k) : rF τ := by
  obtain ⟨F, H, h1, h2, h3⟩ := h
  exact ⟨F, H, h1, (e 1).trans h2, (e 2).trans h3⟩
def K9 (σ0 σ : sS) : Prop := (∀ a j, 62 ≤ a → vI σ a j = vI σ0 a j) ∧ rF σ
theorem K9.c {σ0 σ τ : sS} (h : K9 σ0 σ) (v : ∀ a j, 62 ≤ a → vI τ a j = vI σ a j) (r : ∀ k, vR τ 45 k = vR σ 45 k) : K9 σ0 τ := ⟨fun a j ha => (v a j ha).trans (h.1 a j ha), h.2.c r⟩
def CI (B : cB) (A : aS) (σ : sS) : Prop := C0 A σ ∧ (cI0 σ ∧ cI1 σ ∧ vC σ 16 = 128) ∧ Rm B.1 σ ∧ cCh A σ ∧ K9 B.2 σ
theorem C0.f {A : aS} {σ τ : sS} {L : List Nat} (h : C0 A σ) (f : fz L σ τ) (hL : ∀ b, b ∈ L → b = 15 ∨ b = 16 ∨ (19 ≤ b ∧ b ≤ 26) ∨ (33 ≤ b ∧ b ≤ 55) ∨ (57 ≤ b ∧ b ≤ 60)) : C0 A τ := by
  obtain ⟨⟨t1, t2, t3, t4⟩, ⟨a1, a2, a3, a4, a5⟩, ⟨m1, m2, m3, m4, m5⟩, hs⟩ := h
  obtain ⟨f1, f2, f3, f4, f5⟩ := f
  have n : ∀ {a j : Nat}, ¬ (a = 15 ∨ a = 16 ∨ (19 ≤ a ∧ a ≤ 26) ∨ (33 ≤ a ∧ a ≤ 55) ∨ (57 ≤ a ∧ a ≤ 60)) → vI τ a j = vI σ a j := fun hn => f1 _ _ (fun q => hn (hL _ q))
  have hV : ∀ {a : Nat}, ¬ (a = 15 ∨ a = 16 ∨ (19 ≤ a ∧ a ≤ 26) ∨ (33 ≤ a ∧ a ≤ 55) ∨ (57 ≤ a ∧ a ≤ 60)) → vC τ a = vC σ a := fun hn => f3 _ (Or.inl (fun q => hn (hL _ q)))
  refine ⟨⟨t1, (n (by omega)).trans t2, fun j hj => (n (by omega)).trans (t3 j hj), (hV (by omega)).trans t4⟩, ⟨(n (by omega)).trans a1, (n (by omega)).trans a2, fun c => (n (by omega)).trans (a3 c), a4, (n (by omega)).trans a5⟩, ⟨m1, m2, (n (by omega)).trans m3, fun a ha => (hV (by omega)).trans (m4 a ha), fun a ha => ?_⟩, hs.c rfl (fun j => n (by omega)) (fun j => n (by omega))⟩
  obtain ⟨n0, n1, n2, n3, n4, n5⟩ := m5 a ha
  have ha3 : a < 3 := by have : a < aC A := ha; omega
  exact ⟨n0, (n (by omega)).trans n1, (n (by omega)).trans n2, (n (by omega)).trans n3, (n (by omega)).trans n4, fun s f hs hf => (n (by omega)).trans (n5 s f hs hf)⟩
theorem C0.au {A : aS} {σ : sS} {i : Nat} (h : C0 A σ) (hi : i < aC A) (h16 : vC σ 16 = 128) : cAu (33 + i) (aG A) (aMa A i) σ := by
  obtain ⟨n0, n1, n2, n3, n4, n5⟩ := h.m hi
  have e1 : 33 + i - 6 = 27 + i := by omega
  have e2 : 33 + i - 6 + 3 = 30 + i := by omega
  unfold cAu
  rw [e2, e1]
  exact ⟨n0, n1, n2, n3, n4, n5, h16⟩
theorem cCpl.f {c G : Nat} {M : aM} {σ τ : sS} {L : List Nat} (h : cCpl c M G σ) (f : fz L σ τ) (h0 : c ∉ L) (h3 : c + 3 ∉ L) (h6 : c + 6 ∉ L) (h9 : c + 9 ∉ L) : cCpl c M G τ := by
  unfold cCpl at h ⊢
  cases hq : cpl M G with
  | none => rw [hq] at h; exact (f.1 _ _ h0).trans h
  | some v =>
    rw [hq] at h
    obtain ⟨a1, a2, a3, a4, a5⟩ := h
    exact ⟨(f.1 _ _ h0).trans a1, (f.1 _ _ h0).trans a2, fun n hn => (f.1 _ _ h3).trans (a3 n hn), fun j hj => (f.1 _ _ h9).trans (a4 j hj), fun j hj => (f.1 _ _ h6).trans (a5 j hj)⟩
theorem L3_r {i b : Nat} (hi : i < 3) (h : b ∈ L3 (33 + i)) : b = 15 ∨ b = 16 ∨ (19 ≤ b ∧ b ≤ 26) ∨ (33 ≤ b ∧ b ≤ 55) ∨ (57 ≤ b ∧ b ≤ 60) := by
  unfold L3 at h
  simp only [List.mem_cons, List.not_mem_nil, or_false] at h
  omega
theorem y_stands {B : cB} {A : aS} {σ : sS} {i : Nat} (h : CI B A σ) (hi : i < aC A) : ∃ τ, L_X1_stands (33 + i) σ = some (if (cpl (aMa A i) (aG A)).isSome = true then 1 else 0, τ) ∧ CI B A τ ∧ cCpl (33 + i) (aMa A i) (aG A) τ ∧ fz (L3 (33 + i)) σ τ := by
  obtain ⟨h0, ⟨hI0, hI1, h16⟩, hR, hC, hK⟩ := h
  have h3 := h0.c
  have hA := h0.au hi h16
  have hm4 := hA.1.2.1
  have hc : 33 ≤ 33 + i ∧ 33 + i ≤ 35 := by omega
  have eg : L_X1_stands (33 + i) σ = some (p_sd σ (33 + i) (mN (aMa A i)) (aG A), p_st σ (33 + i) (mN (aMa A i)) (aG A)) := by
    unfold L_X1_stands clm
    rw [hA.2.1, hA.2.2.1, nI_clamp (by omega), nI_clamp (by omega), decide_eq_true (nI_pos' (show mN (aMa A i) < 2 ^ 31 by omega)), decide_eq_true (nI_pos' (show aG A < 2 ^ 31 by omega)), decide_eq_true hm4, decide_eq_true h3.2]
    rfl
  have main : ∃ τ, p_st σ (33 + i) (mN (aMa A i)) (aG A) = τ ∧ cCpl (33 + i) (aMa A i) (aG A) τ ∧ fz (L3 (33 + i)) σ τ ∧ Rm B.1 τ := by
    unfold p_st
    by_cases z : vI σ (33 + i) 6 = 0
    · rw [if_pos z]
      have f0 : fz (L3 (33 + i)) σ (uI σ (33 + i) 6 1) := fz.u (by unfold L3; simp)
      obtain ⟨f1, c1, r1⟩ := y_all (B := B.1) hc h3.2 (hA.l3 hc f0) (hR.c rfl) vI_e
      exact ⟨_, rfl, c1, f0.tr f1, r1⟩
    · rw [if_neg z]
      exact ⟨σ, rfl, (hC i hi).resolve_left z, fz.rf, hR⟩
  obtain ⟨τ, e1, c1, f1, r1⟩ := main
  refine ⟨τ, ?_, ⟨h0.f f1 (fun b hb => L3_r (by omega) hb), ⟨⟨fun a ha => ?_, ?_, ?_⟩, ⟨?_, ?_⟩, ?_⟩, r1, fun j hj => ?_, hK.c (fun a j ha => f1.1 a j (fun q => by have := L3_r (by omega) q; omega)) (fun k => by unfold vR; rw [f1.2.2.2.2])⟩, c1, f1⟩
  · rw [eg]
    unfold p_sd
    rw [e1]
    congr 2
    unfold cCpl at c1
    cases hq : cpl (aMa A i) (aG A) with
    | none => rw [hq] at c1; rw [if_neg (by rw [c1]; decide)]; rfl
    | some v => rw [hq] at c1; rw [if_pos c1.1]; rfl
  · rw [f1.2.2.1 _ (Or.inr (by omega))]; exact hI0.1 a ha
  · rw [f1.2.2.1 _ (Or.inr (by omega))]; exact hI0.2.1
  · rw [f1.2.2.1 _ (Or.inr (by omega))]; exact hI0.2.2
  · rw [f1.2.2.1 _ (Or.inr (by omega))]; exact hI1.1
  · rw [f1.2.2.1 _ (Or.inr (by omega))]; exact hI1.2
  · rw [f1.2.2.1 _ (Or.inr (by omega))]; exact h16
  · by_cases e : j = i
    · rw [e]; exact Or.inr c1
    · have n0 : 33 + j ∉ L3 (33 + i) := L3_n (by omega) (by omega) (by omega) (by omega) (by omega) (by omega) (by omega)
      rcases hC j hj with q | q
      · exact Or.inl ((f1.1 _ _ n0).trans q)
      · exact Or.inr (q.f f1 n0 (L3_n (by omega) (by omega) (by omega) (by omega) (by omega) (by omega) (by omega)) (L3_n (by omega) (by omega) (by omega) (by omega) (by omega) (by omega) (by omega)) (L3_n (by omega) (by omega) (by omega) (by omega) (by omega) (by omega) (by omega)))
theorem CI.ans {B : cB} {A : aS} {σ : sS} {u : Int32} (h : CI B A σ) (hu : u ≠ 4) : CI B (sAns A u (-1)) (uI σ 0 10 u) := by
  obtain ⟨h0, ⟨hI0, hI1, h16⟩, hR, hC, hK⟩ := h
  refine ⟨h0.ans hu, ⟨hI0, hI1, h16⟩, hR.c rfl, fun i hi => ?_, hK.c (fun a j ha => vI_q (fun q => by omega)) (fun _ => rfl)⟩
  have f : fz [0] σ (uI σ 0 10 u) := fz.u (by decide)
  have n : ∀ {b : Nat}, b ≠ 0 → b ∉ [0] := fun h q => h (List.mem_singleton.mp q)
  rcases hC i hi with q | q
  · exact Or.inl ((f.1 _ _ (n (by omega))).trans q)
  · exact Or.inr (q.f f (n (by omega)) (n (by omega)) (n (by omega)) (n (by omega)))
def yCI (B : cB) (q : Int32 × aS) (o : Option (Int32 × sS)) : Prop := ∃ τ, o = some (q.1, τ) ∧ CI B q.2 τ
theorem yCI.r {B : cB} {A : aS} {σ : sS} (h : CI B A σ) (w : Int32) (hw : w ≠ 4) : yCI B (aRef A w) (bd2 (L_X11_refuse w σ) (fun r t => some (r, t))) := ⟨_, rfl, h.ans hw⟩
theorem yCI.g {B : cB} {A : aS} {σ : sS} (h : CI B A σ) (v : Int32) : yCI B (aGood A v) (bd2 (L_X11_answer v σ) (fun r t => some (r, t))) := ⟨_, rfl, h.ans (by decide)⟩
/-- the component's complement, as it is held -/
def cCv (c G : Nat) (v : zS × (Nat → Nat)) (σ : sS) : Prop := vI σ c 7 = nI (zN v.1) ∧ (∀ n, n < zN v.1 → vI σ (c + 3) n = nI (kyN (zX v.1 n))) ∧ (∀ j, j < zE v.1 → vI σ (c + 9) j = nI (zT v.1 j)) ∧ ∀ j, j < zN v.1 * G + 1 → vI σ (c + 6) j = nI (v.2 j)
theorem y_std {B : cB} {A : aS} {σ : sS} {i : Nat} (h : CI B A σ) (hi : i < aC A) : (cpl (aMa A i) (aG A) = none ∧ ∃ τ, L_X1_stands (33 + i) σ = some (0, τ) ∧ CI B A τ ∧ fz (L3 (33 + i)) σ τ) ∨ ∃ v τ, cpl (aMa A i) (aG A) = some v ∧ L_X1_stands (33 + i) σ = some (1, τ) ∧ CI B A τ ∧ cCv (33 + i) (aG A) v τ ∧ cO (aMa A i) (aG A) v ∧ fz (L3 (33 + i)) σ τ := by
  obtain ⟨τ, t1, t2, t3, t4⟩ := y_stands h hi
  have hM := (h.1.m hi).1
  have hG := h.1.c.2
  unfold cCpl at t3
  cases hq : cpl (aMa A i) (aG A) with
  | none =>
    rw [hq] at t1
    exact Or.inl ⟨rfl, τ, t1, t2, t4⟩
  | some v =>
    rw [hq] at t1 t3
    exact Or.inr ⟨v, τ, rfl, t1, t2, t3.2, cpl_O hM hG hq, t4⟩
theorem y_complement {B : cB} {A : aS} {σ : sS} (h : CI B A σ) (a : Int32) : yCI B (sp_complement A a) (L_X11_complement a σ) := by
  have h3 := h.1.c.1
  unfold L_X11_complement sp_complement
  rw [y_at h.1]
  by_cases ha : aOk (aC A) a = true
  · obtain ⟨i, hi, rfl⟩ := aOk_t ha (by omega)
    rw [if_pos ha, if_pos ha]
    simp only [bnd_s]
    rw [nI_clamp (by omega), isCo_n (by omega), grd_s]
    rcases y_std h hi with ⟨hq, τ, t1, t2, -⟩ | ⟨v, τ, hq, t1, t2, t3, t4, -⟩
    · rw [hq, t1, bd2_s, if_pos rfl]
      exact yCI.r t2 3 (by decide)
    · rw [hq, t1, bd2_s, if_neg i1n0, t3.1]
      exact yCI.g t2 _
  · rw [if_neg ha, if_neg ha]
    exact yCI.r h 1 (by decide)
/-! nodes below nodes -/
theorem b_aa : ∀ x, x < 16 → ∀ y, y < 16 → y &&& (x &&& y) = y &&& x := by decide +kernel
theorem and_m {o z : Nat} (ho : o < 16) : o &&& z = o &&& (z % 16) := by
  have h1 : (o &&& z) % 2 ^ 4 = (o % 2 ^ 4) &&& (z % 2 ^ 4) := Nat.and_mod_two_pow
  rw [Nat.mod_eq_of_lt (show o &&& z < 2 ^ 4 from Nat.lt_of_le_of_lt Nat.and_le_left ho), Nat.mod_eq_of_lt (show o < 2 ^ 4 from ho)] at h1
  exact h1
theorem ky_16 {x : nd} (h : ndO x) : kyN x / 2 ^ 4 % 16 = x.2.2.2 := by
  have h1 := h.1
  have h2 := h.2.1
  have h3 := rv_lt (P := x.2.2.1)
  unfold kyN
  by_cases c : x.2.1 = 0
  · rw [if_pos c]
    rcases h.2.2 with d | d
    · rw [d.2.2]; omega
    · rcases d.1 with e | e | e | e <;> omega
  · rw [if_neg c]; omega
theorem ky_t20 {x : nd} (h : ndO x) : (kyN x).testBit 20 = decide (x.2.1 ≠ 0) := by
  have h1 := h.1
  have h2 := h.2.1
  have h3 := rv_lt (P := x.2.2.1)
  rw [Nat.testBit_eq_decide_div_mod_eq]
  unfold kyN
  by_cases c : x.2.1 = 0
  · rw [if_pos c, decide_eq_false (by omega), decide_eq_false (by omega)]
  · rw [if_neg c, decide_eq_true (by omega), decide_eq_true c]
theorem and20 (K : Nat) : nI K &&& 1048576 = 0 ↔ K.testBit 20 = false := by
  have a1 : nI K &&& 1048576 = nI ((K.testBit 20).toNat * 2 ^ 20) := by
    rw [show (1048576 : Int32) = nI (2 ^ 20) from rfl, nI_and]
    refine congrArg nI (Nat.eq_of_testBit_eq (fun i => ?_))
    rw [Nat.testBit_and, Nat.testBit_two_pow]
    by_cases e : 20 = i
    · rw [← e]
      cases K.testBit 20 <;> rfl
    · rw [decide_eq_false e, Bool.and_false]
      cases K.testBit 20 with
      | false => exact (Nat.zero_testBit i).symm
      | true =>
        show false = (1 * 2 ^ 20).testBit i
        rw [Nat.one_mul, Nat.testBit_two_pow, decide_eq_false e]
  rw [a1]
  cases K.testBit 20
  · exact ⟨fun _ => rfl, fun _ => rfl⟩
  · exact ⟨fun q => absurd q (by decide), fun q => absurd q (by decide)⟩
theorem y_bl {x y : nd} (hx : ndO x) (hy : ndO y) : p_bl (nI (kyN x)) (nI (kyN y)) = if nbel x y = true then 1 else 0 := by
  have kx := kyN_lt hx
  have ky := kyN_lt hy
  unfold p_bl nbel
  by_cases e : x = y
  · rw [e, if_pos rfl, decide_eq_false (by simp)]
    rfl
  · rw [if_neg (fun q => e (kyN_inj hx hy (nI_ij (by omega) (by omega) q))), decide_eq_true e, Bool.true_and]
    have h20 : (nI (kyN x) &&& nI (kyN y)) &&& 1048576 = 0 ↔ x.2.1 = 0 ∨ y.2.1 = 0 := by
      rw [nI_and, and20, Nat.testBit_and, ky_t20 hx, ky_t20 hy]
      by_cases a : x.2.1 = 0
      · simp [a]
      · by_cases b : y.2.1 = 0
        · simp [b]
        · simp [a, b]
    by_cases g0 : x.2.1 = 0 ∨ y.2.1 = 0
    · rw [if_pos (h20.mpr g0)]
      rcases g0 with q | q
      · rw [decide_eq_false (by simp [q]), Bool.false_and]
        rfl
      · by_cases p : x.2.1 = 0
        · rw [decide_eq_false (by simp [p]), Bool.false_and]
          rfl
        · rw [decide_eq_false (show ¬ x.2.1 = y.2.1 by rw [q]; exact p)]
          simp
    · rw [if_neg (fun q => g0 (h20.mp q))]
      have gx : x.2.1 ≠ 0 := fun q => g0 (Or.inl q)
      have gy : y.2.1 ≠ 0 := fun q => g0 (Or.inr q)
      rw [decide_eq_true gx, Bool.true_and, (ky_and hx).2, (ky_and hy).2, ky_ow hy, ky_go hx gx, ky_go hy gy, ky_lw hx, ky_lw hy]
      have k0 : ∀ P : Nat, k_ro (nI (rv P)) 0 = nI (dg P 0) := fun P => k_rov (s := 0) (by decide)
      have k1 : ∀ P : Nat, k_ro (nI (rv P)) 1 = nI (dg P 1) := fun P => k_rov (s := 1) (by decide)
      have k2 : ∀ P : Nat, k_ro (nI (rv P)) 2 = nI (dg P 2) := fun P => k_rov (s := 2) (by decide)
      have k3 : ∀ P : Nat, k_ro (nI (rv P)) 3 = nI (dg P 3) := fun P => k_rov (s := 3) (by decide)
      simp only [k0, k1, k2, k3]
      by_cases et : x.1 = y.1
      · rw [if_neg (by rw [et]; simp), decide_eq_true et, Bool.true_and]
        have ow : (nI y.2.2.2 &&& ((nI (kyN x) &&& nI (kyN y)) >>> ((4 : Int32) &&& 31)) = nI y.2.2.2) ↔ y.2.2.2 &&& x.2.2.2 = y.2.2.2 := by
          have e1 : nI y.2.2.2 &&& ((nI (kyN x) &&& nI (kyN y)) >>> ((4 : Int32) &&& 31)) = nI (y.2.2.2 &&& x.2.2.2) := by
            rw [nI_and, show ((4 : Int32) &&& 31) = nI 4 from rfl, nI_shr (Nat.lt_of_le_of_lt Nat.and_le_left (by omega)) (by decide), nI_and]
            refine congrArg nI ?_
            rw [and_m hy.2.1, Nat.and_div_two_pow]
            have e2 : (kyN x / 2 ^ 4 &&& kyN y / 2 ^ 4) % 16 = (kyN x / 2 ^ 4 % 16) &&& (kyN y / 2 ^ 4 % 16) := Nat.and_mod_two_pow (n := 4)
            rw [e2, ky_16 hx, ky_16 hy]
            exact b_aa _ hx.2.1 _ hy.2.1
          rw [e1]
          have l1 : y.2.2.2 &&& x.2.2.2 < 16 := Nat.lt_of_le_of_lt Nat.and_le_left hy.2.1
          exact ⟨fun q => nI_ij (by omega) (by have := hy.2.1; omega) q, fun q => by rw [q]⟩
        have lq : ∀ {a b : Nat}, a < 8 → b < 8 → (nI a ≤ nI b ↔ a ≤ b) := fun ha hb => nI_leI (by omega) (by omega)
        have gq : nI x.2.1 = nI y.2.1 ↔ x.2.1 = y.2.1 := nI_eq (by have := hx.P.2; omega) (by have := hy.P.2; omega)
        simp only [ow, lq dg_lt dg_lt, gq]
        by_cases c1 : y.2.2.2 &&& x.2.2.2 = y.2.2.2
        · by_cases c2 : dg x.2.2.1 0 ≤ dg y.2.2.1 0
          · by_cases c3 : dg x.2.2.1 1 ≤ dg y.2.2.1 1
            · by_cases c4 : dg x.2.2.1 2 ≤ dg y.2.2.1 2
              · by_cases c5 : dg x.2.2.1 3 ≤ dg y.2.2.1 3
                · by_cases c6 : x.2.1 = y.2.1
                  · simp [c1, c2, c3, c4, c5, c6]
                  · simp [c1, c2, c3, c4, c5, c6]
                · simp [c1, c2, c3, c4, c5]
              · simp [c1, c2, c3, c4]
            · simp [c1, c2, c3]
          · simp [c1, c2]
        · simp [c1]
      · rw [if_pos (fun q => et (nI_ij (by have := hx.1; omega) (by have := hy.1; omega) q)), decide_eq_false et]
        rfl
