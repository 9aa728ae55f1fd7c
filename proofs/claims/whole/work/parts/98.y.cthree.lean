/-! threes: the component meets them -/
def trl (σ τ : sS) : Prop := (∀ b, (b < 50 ∨ 55 < b) → vI τ b = vI σ b ∧ vU τ b = vU σ b ∧ vC τ b = vC σ b) ∧ τ.2.1 = σ.2.1 ∧ ∀ b, b ≠ 50 → τ.2.2.1 b = σ.2.2.1 b
theorem trl.rf {σ : sS} : trl σ σ := ⟨fun _ _ => ⟨rfl, rfl, rfl⟩, rfl, fun _ _ => rfl⟩
theorem trl.tr {σ τ υ : sS} (h : trl σ τ) (k : trl τ υ) : trl σ υ := ⟨fun b hb => ⟨(k.1 b hb).1.trans (h.1 b hb).1, (k.1 b hb).2.1.trans (h.1 b hb).2.1, (k.1 b hb).2.2.trans (h.1 b hb).2.2⟩, k.2.1.trans h.2.1, fun b hb => (k.2.2 b hb).trans (h.2.2 b hb)⟩
/-- the automaton and the complement that are gone through, as the component holds them -/
def cAC (M : aM) (v : zS × (Nat → Nat)) (g a b : Nat) (τ : sS) : Prop := cMa g M τ a ∧ cCv (33 + b) g v τ ∧ vI τ (33 + b - 6) 2 = nI g
theorem cAC.t {M : aM} {v : zS × (Nat → Nat)} {g a b : Nat} {σ τ : sS} (h : cAC M v g a b σ) (ha : a < 3) (hb : b < 3) (f : ∀ r, (26 < r ∧ r < 45) → vI τ r = vI σ r) : cAC M v g a b τ := by
  obtain ⟨⟨m0, m1, m2, m3, m4, m5⟩, ⟨c1, c2, c3, c4⟩, s1⟩ := h
  refine ⟨⟨m0, by rw [f _ (by omega)]; exact m1, by rw [f _ (by omega)]; exact m2, by rw [f _ (by omega)]; exact m3, by rw [f _ (by omega)]; exact m4, fun s t hs ht => by rw [f _ (by omega)]; exact m5 s t hs ht⟩, ⟨by rw [f _ (by omega)]; exact c1, fun n hn => by rw [f _ (by omega)]; exact c2 n hn, fun n hn => by rw [f _ (by omega)]; exact c3 n hn, fun n hn => by rw [f _ (by omega)]; exact c4 n hn⟩, by rw [f _ (by omega)]; exact s1⟩
/-- threes that were met, as the component holds them -/
def cTr (M : aM) (v : zS × (Nat → Nat)) (Q : List Nat) (τ : sS) : Prop := ∀ i, i < Q.length → vI τ 52 i = nI (cdS (Q.getD i 0)) ∧ vI τ 53 i = nI (cdN (Q.getD i 0)) ∧ vI τ 54 i = (if tMk v (Q.getD i 0) = true then 1 else 0) ∧ vI τ 55 i = nI (mkA M v (Q.getD i 0))
def cT3 (B : Nat × Nat) (M : aM) (v : zS × (Nat → Nat)) (Q : List Nat) (τ : sS) : Prop := vI τ 50 8 = nI Q.length ∧ (∀ r, 52 ≤ r → r ≤ 55 → vU τ r = nI Q.length) ∧ cTr M v Q τ ∧ (∀ c, c < 2400 → vI τ 51 c = if c ∈ Q then nI (idx c Q + 1) else 0) ∧ 2400 ≤ vC τ 51 ∧ Rm B τ
theorem psh4 {B : Nat × Nat} {k : Nat} {σ : sS} {t n x y : Int32} (hk : k < 1000) (hU : ∀ r, 52 ≤ r → r ≤ 55 → vU σ r = nI k) (hR : Rm B σ) : (∀ r, 52 ≤ r → r ≤ 55 → vU (h_e1 σ t n x y) r = nI (k + 1)) ∧ (∀ j, vI (h_e1 σ t n x y) 52 j = if j = k then t else vI σ 52 j) ∧ (∀ j, vI (h_e1 σ t n x y) 53 j = if j = k then n else vI σ 53 j) ∧ (∀ j, vI (h_e1 σ t n x y) 54 j = if j = k then x else vI σ 54 j) ∧ (∀ j, vI (h_e1 σ t n x y) 55 j = if j = k then y else vI σ 55 j) ∧ (∀ b j, (b < 52 ∨ 55 < b) → vI (h_e1 σ t n x y) b j = vI σ b j) ∧ (∀ b, (b < 52 ∨ 55 < b) → vU (h_e1 σ t n x y) b = vU σ b ∧ vC (h_e1 σ t n x y) b = vC σ b) ∧ (h_e1 σ t n x y).2.1 = σ.2.1 ∧ (h_e1 σ t n x y).2.2.1 = σ.2.2.1 ∧ Rm B (h_e1 σ t n x y) := by
  have cap : ∀ {τ : sS} {r : Nat}, Rm B τ → r ∈ [52, 53, 54, 55] → vC τ r ≤ 270000 := fun {τ r} h hr => Nat.le_trans (h.1 r ((by decide : ∀ r ∈ [52, 53, 54, 55], r ∈ grR) r hr)) ((by decide : ∀ r ∈ [52, 53, 54, 55], lim r ≤ 270000) r hr)
  unfold h_e1
  obtain ⟨a1, a2, a3, a4, a5, a6, a7, a8, a9⟩ := rqu_p (r := 52) (k := k) (x := t) (hU 52 (by omega) (by omega)) (by omega) (cap hR (by decide))
  have R1 : Rm B (rqu σ 52 t) := (hR.rx (r := 52) (m := k + 1) (by decide) (Or.inl (by omega))).c a9
  generalize rqu σ 52 t = σ1 at a1 a2 a3 a4 a5 a6 a7 a8 a9 R1 ⊢
  obtain ⟨b1, b2, b3, b4, b5, b6, b7, b8, b9⟩ := rqu_p (σ := σ1) (r := 53) (k := k) (x := n) ((a4 53 (by decide)).trans (hU 53 (by omega) (by omega))) (by omega) (cap R1 (by decide))
  have R2 : Rm B (rqu σ1 53 n) := (R1.rx (r := 53) (m := k + 1) (by decide) (Or.inl (by omega))).c b9
  generalize rqu σ1 53 n = σ2 at b1 b2 b3 b4 b5 b6 b7 b8 b9 R2 ⊢
  obtain ⟨c1, c2, c3, c4, c5, c6, c7, c8, c9⟩ := rqu_p (σ := σ2) (r := 54) (k := k) (x := x) ((b4 54 (by decide)).trans ((a4 54 (by decide)).trans (hU 54 (by omega) (by omega)))) (by omega) (cap R2 (by decide))
  have R3 : Rm B (rqu σ2 54 x) := (R2.rx (r := 54) (m := k + 1) (by decide) (Or.inl (by omega))).c c9
  generalize rqu σ2 54 x = σ3 at c1 c2 c3 c4 c5 c6 c7 c8 c9 R3 ⊢
  obtain ⟨d1, d2, d3, d4, d5, d6, d7, d8, d9⟩ := rqu_p (σ := σ3) (r := 55) (k := k) (x := y) ((c4 55 (by decide)).trans ((b4 55 (by decide)).trans ((a4 55 (by decide)).trans (hU 55 (by omega) (by omega))))) (by omega) (cap R3 (by decide))
  have R4 : Rm B (rqu σ3 55 y) := (R3.rx (r := 55) (m := k + 1) (by decide) (Or.inl (by omega))).c d9
  generalize rqu σ3 55 y = σ4 at d1 d2 d3 d4 d5 d6 d7 d8 d9 R4 ⊢
  refine ⟨fun r h1 h2 => ?_, fun j => ?_, fun j => ?_, fun j => ?_, fun j => d2 j |>.trans ?_, fun b j hb => ?_, fun b hb => ⟨?_, ?_⟩, ?_, ?_, R4⟩
  · rcases (by omega : r = 52 ∨ r = 53 ∨ r = 54 ∨ r = 55) with e | e | e | e
    · rw [e]; exact (d4 52 (by decide)).trans ((c4 52 (by decide)).trans ((b4 52 (by decide)).trans a1))
    · rw [e]; exact (d4 53 (by decide)).trans ((c4 53 (by decide)).trans b1)
    · rw [e]; exact (d4 54 (by decide)).trans c1
    · rw [e]; exact d1
  · exact (d3 52 j (by decide)).trans ((c3 52 j (by decide)).trans ((b3 52 j (by decide)).trans (a2 j)))
  · refine (d3 53 j (by decide)).trans ((c3 53 j (by decide)).trans ((b2 j).trans ?_))
    rw [a3 53 j (by decide)]
  · refine (d3 54 j (by decide)).trans ((c2 j).trans ?_)
    rw [b3 54 j (by decide), a3 54 j (by decide)]
  · rw [c3 55 j (by decide), b3 55 j (by decide), a3 55 j (by decide)]
  · exact (d3 b j (by omega)).trans ((c3 b j (by omega)).trans ((b3 b j (by omega)).trans (a3 b j (by omega))))
  · exact (d4 b (by omega)).trans ((c4 b (by omega)).trans ((b4 b (by omega)).trans (a4 b (by omega))))
  · exact (d5 b (by omega)).trans ((c5 b (by omega)).trans ((b5 b (by omega)).trans (a5 b (by omega))))
  · exact d6.trans (c6.trans (b6.trans a6))
  · exact d7.trans (c7.trans (b7.trans a7))
theorem nI_b1 {c : Nat} (hc : c < 2400) : nI c &&& 1 = nI (c % 2) := by
  rw [show (1 : Int32) = nI 1 from rfl, nI_and, Nat.and_one_is_mod]
/-- a three is entered -/
theorem y_en3 {B : Nat × Nat} {M M' : aM} {v : zS × (Nat → Nat)} {g a b c : Nat} {Q : List Nat} {τ : sS} (hA : cAC M v g a b τ) (ha : a < 3) (hb : b < 3) (hO : cO M' g v) (h : cT3 B M v Q τ) (hl : Q.length < 1000) (hc : c < 2400) (hV : cV M v c) (hn : c ∉ Q) : cT3 B M v (Q ++ [c]) (h_en (27 + a) (33 + b) τ (nI c)) ∧ trl τ (h_en (27 + a) (33 + b) τ (nI c)) := by
  obtain ⟨q1, q2, q3, q4, q5, q6⟩ := h
  obtain ⟨hM, hC, hS⟩ := hA
  have p4 : 2 ^ mN M ≤ 2 ^ 4 := Nat.pow_le_pow_right (by decide) hM.1.2.1
  have hF := hM.1.2.2.2.1
  have hN4 := hM.1.2.1
  have hN := hO.1.2.1
  have d1 : nI c / 600 = nI (cdS c) := nI_dv (b := 600) (by omega) (by decide)
  have d2 : nI c / 2 = nI (c / 2) := nI_dv (b := 2) (by omega) (by decide)
  have d3 : nI (c / 2) - nI (c / 2) / 300 * 300 = nI (cdN c) := nI_rem (b := 300) (by omega) (by decide)
  have im : p_im τ (33 + b) (nI (cdN c)) = if nfin (zX v.1 (cdN c)) = true then 1 else 0 := y_im hC hN hV.2 (hO.1.2.2.2.1 _ hV.2)
  have e0 : h_en (27 + a) (33 + b) τ (nI c) = h_e3 (27 + a) (33 + b) τ (nI c) (nI (cdS c)) (nI (cdN c)) := by
    unfold h_en
    rw [q1, if_pos (show nI Q.length < (1000 : Int32) from nI_lt (b := 1000) hl (by decide)), d1, d2, d3]
  have ex : h_x1 (33 + b) τ (nI c) (nI (cdN c)) = if tMk v c = true then 1 else 0 := by
    unfold h_x1 tMk
    rw [nI_b1 hc, im, show c % 2 = cdM c from rfl]
    have h2 : cdM c < 2 := Nat.mod_lt _ (by decide)
    by_cases e : cdM c = 1
    · rw [e, if_pos (show nI 1 = (1 : Int32) from rfl)]
      cases nfin (zX v.1 (cdN c)) <;> rfl
    · rw [if_neg (show ¬ nI (cdM c) = (1 : Int32) from fun z => e (nI_ij (y := 1) (by omega) (by decide) z)), decide_eq_false e]
      rfl
  have ey : ∀ x, h_y1 (27 + a) (33 + b) τ (nI c) (nI (cdS c)) (nI (cdN c)) x = nI (mkA M v c) := by
    intro x
    unfold h_y1 mkA
    rw [nI_b1 hc, im, show c % 2 = cdM c from rfl]
    have h2 : cdM c < 2 := Nat.mod_lt _ (by decide)
    by_cases e : cdM c = 1
    · rw [e, if_pos (show nI 1 = (1 : Int32) from rfl), if_neg (show ¬ (1 : Nat) = 0 by decide)]
      cases nfin (zX v.1 (cdN c)) <;> rfl
    · rw [if_neg (show ¬ nI (cdM c) = (1 : Int32) from fun z => e (nI_ij (y := 1) (by omega) (by decide) z)), if_pos (show cdM c = 0 by omega)]
      have e4 : vI (rqu (rqu (rqu τ 52 (nI (cdS c))) 53 (nI (cdN c))) 54 x) (27 + a) 4 = nI (mF M) := by
        rw [rqu_f.1 _ _ (by omega), rqu_f.1 _ _ (by omega), rqu_f.1 _ _ (by omega)]
        exact hM.2.2.2.2.1
      rw [e4]
      have hs4 : cdS c < 4 := by have := hV.1; omega
      have hq := b_qin (X := mF M) (t := cdS c) (by omega) hs4
      cases hb2 : (mF M).testBit (cdS c) with
      | false => rw [if_pos (hq.mpr hb2), if_neg (by decide)]; rfl
      | true => rw [if_neg (fun z => by rw [hq.mp z] at hb2; exact nomatch hb2), if_pos rfl]; rfl
  obtain ⟨p1, p2, p3, p4', p5, p6, p7, p8, p9, p10⟩ := psh4 (B := B) (σ := τ) (t := nI (cdS c)) (n := nI (cdN c)) (x := if tMk v c = true then 1 else 0) (y := nI (mkA M v c)) hl q2 q6
  have e1a : h_en (27 + a) (33 + b) τ (nI c) = h_e2 (h_e1 τ (nI (cdS c)) (nI (cdN c)) (if tMk v c = true then 1 else 0) (nI (mkA M v c))) (nI c) := by
    rw [e0]
    unfold h_e3
    rw [ey, ex]
  rw [e1a]
  generalize h_e1 τ (nI (cdS c)) (nI (cdN c)) (if tMk v c = true then 1 else 0) (nI (mkA M v c)) = σ1 at p1 p2 p3 p4' p5 p6 p7 p8 p9 p10 ⊢
  have c51 : c < vC (uI σ1 50 8 (nI (Q.length + 1))) 51 := by
    show c < vC σ1 51
    rw [(p7 51 (by omega)).2]; omega
  have e1 : h_e2 σ1 (nI c) = uI (uI σ1 50 8 (nI (Q.length + 1))) 51 c (nI (Q.length + 1)) := by
    unfold h_e2
    have v8 : vI σ1 50 8 = nI Q.length := (p6 50 8 (by omega)).trans q1
    rw [v8, nI_1, vI_e, rp_n c51 (by omega)]
  rw [e1]
  have hlen : (Q ++ [c]).length = Q.length + 1 := by rw [List.length_append]; rfl
  refine ⟨⟨?_, fun r h1 h2 => ?_, fun i hi => ?_, fun d hd => ?_, ?_, ?_⟩, fun r hr => ⟨?_, ?_, ?_⟩, p8, fun r _ => ?_⟩
  · rw [vI_q (fun q => absurd q.1 (by decide)), vI_e, hlen]
  · rw [hlen]; exact p1 r h1 h2
  · rw [vI_q (fun q => absurd q.1 (by decide)), vI_q (fun q => absurd q.1 (by decide)), vI_q (fun q => absurd q.1 (by decide)), vI_q (fun q => absurd q.1 (by decide)), vI_q (fun q => absurd q.1 (by decide)), vI_q (fun q => absurd q.1 (by decide)), vI_q (fun q => absurd q.1 (by decide)), vI_q (fun q => absurd q.1 (by decide)), p2, p3, p4', p5]
    by_cases e : i = Q.length
    · rw [if_pos e, if_pos e, if_pos e, if_pos e, e, getD_l]
      exact ⟨rfl, rfl, rfl, rfl⟩
    · have : i < Q.length := by rw [hlen] at hi; omega
      rw [if_neg e, if_neg e, if_neg e, if_neg e, getD_app this]
      exact q3 i this
  · by_cases e : d = c
    · rw [e, vI_e, if_pos (by simp), idx_n hn]
    · rw [vI_q (fun q => e q.2), vI_q (fun q => absurd q.1 (by decide)), p6 51 d (by omega), q4 d hd]
      by_cases m : d ∈ Q
      · rw [if_pos m, if_pos (List.mem_append.mpr (Or.inl m)), idx_a m]
      · rw [if_neg m, if_neg (fun q => by
          rcases List.mem_append.mp q with z | z
          · exact m z
          · exact e (List.mem_singleton.mp z))]
  · show 2400 ≤ vC σ1 51
    rw [(p7 51 (by omega)).2]; exact q5
  · exact p10.c rfl
  · rw [vI_r (by omega), vI_r (by omega)]
    exact funext fun j => p6 r j (by omega)
  · exact (p7 r (by omega)).1
  · exact (p7 r (by omega)).2
  · show σ1.2.2.1 r = τ.2.2.1 r
    rw [p9]
/-- the three behind one -/
theorem y_cd3 {M M' : aM} {v : zS × (Nat → Nat)} {g a b p s i : Nat} {Q : List Nat} {τ : sS} (hA : cAC M v g a b τ) (hO : cO M' g v) (hg : g ≤ 3) (h : cTr M v Q τ) (hp : p < Q.length) (hl : Q.length ≤ 1000) (hV : cV M v (Q.getD p 0)) (hs : s < g) (hi : i < (gsB (bC M v g) (Q.getD p 0) s).length) : h_ca (27 + a) (33 + b) (mN M) τ (nI p) (nI s) (nI i) = nI ((gsB (bC M v g) (Q.getD p 0) s).getD i 0) := by
  obtain ⟨hM, hC, hS⟩ := hA
  have p4 : 2 ^ mN M ≤ 2 ^ 4 := Nat.pow_le_pow_right (by decide) hM.1.2.1
  have hN4 := hM.1.2.1
  obtain ⟨r1, r2, r3, r4⟩ := h p hp
  have hX : mE M s (cdS (Q.getD p 0)) < 16 := Nat.lt_of_lt_of_le (hM.1.2.2.2.2.1 s _) p4
  have h4 := sts_4 _ hX
  have hs4 : cdS (Q.getD p 0) < 4 := by have := hV.1; omega
  generalize Q.getD p 0 = c at r1 r2 r3 r4 hX h4 hs4 hV hi
  unfold gsB at hi ⊢
  rw [fmr_len] at hi
  rw [fmr_at _ i hi]
  have hi : i < (sts (mE M s (cdS c))).length * (v.2 (cdN c * g + s + 1) - v.2 (cdN c * g + s)) := hi
  show _ = nI (((sts (mE M s (cdS c))).getD (i / (v.2 (cdN c * g + s + 1) - v.2 (cdN c * g + s))) 0 * 300 + zT v.1 (v.2 (cdN c * g + s) + i % (v.2 (cdN c * g + s + 1) - v.2 (cdN c * g + s)))) * 2 + mkA M v c)
  have fn := y_fn hC hO hg hS hV.2 hs
  have hj := n_in (N := zN v.1) hV.2 hs
  have hle := hO.2.2.1.le (a := cdN c * g + s + 1) (b := zN v.1 * g) (by omega) (Nat.le_refl _)
  have hE := hO.2.1
  have hE2 := hO.2.2.2
  have gl := fun k hk => y_gl (k := k) hC hO hg hS hV.2 hs hk
  generalize hf : v.2 (cdN c * g + s + 1) - v.2 (cdN c * g + s) = f at hi fn gl ⊢
  have f0 : 0 < f := by
    cases f with
    | zero => rw [Nat.mul_zero] at hi; exact absurd hi (Nat.not_lt_zero _)
    | succ f => exact Nat.succ_pos f
  have hdv : i / f < (sts (mE M s (cdS c))).length := (Nat.div_lt_iff_lt_mul f0).mpr hi
  have hi2 : i < 2 ^ 31 := by
    have : (sts (mE M s (cdS c))).length * f ≤ 4 * 270000 := Nat.mul_le_mul h4 (by omega)
    omega
  unfold h_ca
  rw [rg_nI (by omega), rg_nI (by omega), rg_nI (by omega), r1, r2, r4, fn, if_pos (show (0 : Int32) < nI f from nI_lt (a := 0) f0 (by omega)), y_arM hM (by omega) hs4]
  have e1 : nI i / nI f = nI (i / f) := nI_dv hi2 (by omega)
  have e2 : nI i - nI i / nI f * nI f = nI (i % f) := nI_rem hi2 (by omega)
  rw [e2, e1, gl _ (Nat.mod_lt _ f0), b_gl (mN M) (by omega) _ hX (hM.1.2.2.2.2.1 s _) _ (by omega) hdv]
  unfold h_co
  rw [show (300 : Int32) = nI 300 from rfl, show (2 : Int32) = nI 2 from rfl, nI_mul, nI_add, nI_mul, nI_add]
def tL : List Nat → List Nat → Option (List Nat)
  | [], Q => some Q
  | x :: l, Q => match tm x Q with
    | none => none
    | some Q' => tL l Q'
theorem tL_a : ∀ (l m Q : List Nat), tL (l ++ m) Q = match tL l Q with
    | none => none
    | some Q' => tL m Q'
  | [], m, Q => rfl
  | x :: l, m, Q => by
    show tL (x :: (l ++ m)) Q = _
    rw [tL, tL]
    cases tm x Q with
    | none => rfl
    | some Q' => exact tL_a l m Q'
theorem jE_t {p : Nat} : ∀ (l : List (Nat × Nat)) (z : List Nat × bS), tL (l.map (fun e => e.2)) z.1 = (jE p l z).map (fun y => y.1)
  | [], z => rfl
  | e :: l, z => by
    rw [List.map_cons, tL, jE]
    cases tm e.2 z.1 with
    | none => rfl
    | some Q => exact jE_t l (Q, _)
theorem y_hI {B : Nat × Nat} {M M' : aM} {v : zS × (Nat → Nat)} {g a b p s c : Nat} (ha : a < 3) (hb : b < 3) (hM : mOk g M) (hO : cO M' g v) (hg : g ≤ 3) (hV : cV M v c) (hs : s < g) : ∀ (k i : Nat) (Q : List Nat) (τ : sS), i + k = (gsB (bC M v g) c s).length → cAC M v g a b τ → cT3 B M v Q τ → Q.Nodup → Q.length ≤ 1000 → p < Q.length → Q.getD p 0 = c → match tL ((gsB (bC M v g) c s).drop i) Q with
    | none => ∃ τ', h_i (27 + a) (33 + b) (mN M) (nI p) (nI s) k i τ = (true, τ') ∧ trl τ τ' ∧ Rm B τ'
    | some Q' => ∃ τ', h_i (27 + a) (33 + b) (mN M) (nI p) (nI s) k i τ = (false, τ') ∧ trl τ τ' ∧ cT3 B M v Q' τ' ∧ Q'.Nodup ∧ Q'.length ≤ 1000 ∧ ∃ m, Q' = Q ++ m := by
  intro k
  induction k with
  | zero =>
    intro i Q τ hi hA h hn hl hp hc
    rw [List.drop_eq_nil_of_le (by omega)]
    exact ⟨τ, rfl, trl.rf, h, hn, hl, [], (List.append_nil _).symm⟩
  | succ k ih =>
    intro i Q τ hi hA h hn hl hp hc
    have hi' : i < (gsB (bC M v g) c s).length := by omega
    have dr : (gsB (bC M v g) c s).drop i = (gsB (bC M v g) c s).getD i 0 :: (gsB (bC M v g) c s).drop (i + 1) := by
      rw [List.drop_eq_getElem_cons hi', List.getD_eq_getElem?_getD, List.getElem?_eq_getElem hi']
      rfl
    have eca := y_cd3 hA hO hg h.2.2.1 hp hl (by rw [hc]; exact hV) hs (by rw [hc]; exact hi')
    rw [hc] at eca
    have tmem := getD_mem hi'
    obtain ⟨u, j, u1, u2, u3⟩ := gsB_m.mp tmem
    obtain ⟨bv1, -, -, -, bv5⟩ := bC_V hM hO hV hs u1 u2
    rw [← u3] at bv1 bv5
    rw [dr]
    generalize (gsB (bC M v g) c s).getD i 0 = x at eca bv1 bv5
    rw [h_i, eca, tL]
    have e51 : rg τ 51 (nI x) = if x ∈ Q then nI (idx x Q + 1) else 0 := by rw [rg_nI (by omega)]; exact h.2.2.2.1 x bv5
    by_cases m : x ∈ Q
    · have := (idx_lt m).1
      rw [e51, if_pos m, if_neg (fun z => by have := (nI_k0 (by omega)).mp z; omega), show tm x Q = some Q from if_pos m]
      exact ih (i + 1) Q τ (by omega) hA h hn hl hp hc
    · rw [e51, if_neg m, if_pos rfl]
      by_cases d : Q.length = 1000
      · have er : h_er τ = 0 := by
          unfold h_er
          rw [h.1, d]
          decide
        have et : tm x Q = none := by unfold tm; rw [if_neg m, if_pos d]
        rw [er, if_pos rfl, et]
        have en : h_en (27 + a) (33 + b) τ (nI x) = τ := by
          unfold h_en
          rw [h.1, d]
          exact if_neg (by decide)
        exact ⟨_, rfl, by rw [en]; exact trl.rf, by rw [en]; exact h.2.2.2.2.2⟩
      · have er : h_er τ = 1 := by
          unfold h_er
          rw [h.1]
          exact if_pos (nI_lt (b := 1000) (by omega) (by decide))
        have et : tm x Q = some (Q ++ [x]) := by unfold tm; rw [if_neg m, if_neg d]
        rw [er, if_neg (by decide), et]
        obtain ⟨r1, r2⟩ := y_en3 hA ha hb hO h (by omega) bv5 bv1 m
        obtain ⟨-, -, t3, t4, -⟩ := tm_ok et hn hl
        have hA2 : cAC M v g a b (h_en (27 + a) (33 + b) τ (nI x)) := hA.t ha hb (fun r hr => (r2.1 r (by omega)).1)
        have I := ih (i + 1) (Q ++ [x]) _ (by omega) hA2 r1 t3 t4 (by rw [List.length_append]; omega) (by rw [getD_app hp]; exact hc)
        revert I
        show (match tL ((gsB (bC M v g) c s).drop (i + 1)) (Q ++ [x]) with
          | none => _
          | some Q' => _) → (match tL ((gsB (bC M v g) c s).drop (i + 1)) (Q ++ [x]) with
          | none => _
          | some Q' => _)
        cases tL ((gsB (bC M v g) c s).drop (i + 1)) (Q ++ [x]) with
        | none => exact fun ⟨τ', i1, i2, i3⟩ => ⟨τ', i1, r2.tr i2, i3⟩
        | some Q' => exact fun ⟨τ', i1, i2, i3, i4, i5, m', i6⟩ => ⟨τ', i1, r2.tr i2, i3, i4, i5, [x] ++ m', by rw [i6, List.append_assoc]⟩
def gcl (b : gB) (c : Nat) : Nat → Nat → List Nat
  | 0, _ => []
  | k + 1, s => gsB b c s ++ gcl b c k (s + 1)
theorem elB_c {b : gB} {g c : Nat} : (elB b g c).map (fun e => e.2) = gcl b c g 0 := by
  unfold elB
  have key : ∀ (k s : Nat), (ell (fun s => blk s (b c s)) k s).map (fun e => e.2) = gcl b c k s := by
    intro k
    induction k with
    | zero => intro s; rfl
    | succ k ih =>
      intro s
      rw [ell, gcl, List.map_append, ih (s + 1)]
      congr 1
      unfold blk gsB
      rw [List.map_flatMap]
      congr 1
      funext t
      rw [List.map_map]
      rfl
  exact key g 0
theorem y_hO {B : Nat × Nat} {M M' : aM} {v : zS × (Nat → Nat)} {g a b p c : Nat} (ha : a < 3) (hb : b < 3) (hM : mOk g M) (hO : cO M' g v) (hg : g ≤ 3) (hV : cV M v c) : ∀ (k s : Nat) (Q : List Nat) (τ : sS), s + k = g → cAC M v g a b τ → cT3 B M v Q τ → Q.Nodup → Q.length ≤ 1000 → p < Q.length → Q.getD p 0 = c → match tL (gcl (bC M v g) c k s) Q with
    | none => ∃ τ', h_o (27 + a) (33 + b) (mN M) (nI p) k s τ = (true, τ') ∧ trl τ τ' ∧ Rm B τ'
    | some Q' => ∃ τ', h_o (27 + a) (33 + b) (mN M) (nI p) k s τ = (false, τ') ∧ trl τ τ' ∧ cT3 B M v Q' τ' ∧ Q'.Nodup ∧ Q'.length ≤ 1000 ∧ ∃ m, Q' = Q ++ m := by
  intro k
  induction k with
  | zero =>
    intro s Q τ hs hA h hn hl hp hc
    exact ⟨τ, rfl, trl.rf, h, hn, hl, [], (List.append_nil _).symm⟩
  | succ k ih =>
    intro s Q τ hs hA h hn hl hp hc
    have hsg : s < g := by omega
    have p4 : 2 ^ mN M ≤ 2 ^ 4 := Nat.pow_le_pow_right (by decide) hM.2.1
    have hN4 := hM.2.1
    obtain ⟨r1, r2, -, -⟩ := h.2.2.1 p hp
    rw [hc] at r1 r2
    have hX : mE M s (cdS c) < 16 := Nat.lt_of_lt_of_le (hM.2.2.2.2.1 s _) p4
    have h4 := sts_4 _ hX
    have hj := n_in (N := zN v.1) hV.2 hsg
    have hle := hO.2.2.1.le (a := cdN c * g + s + 1) (b := zN v.1 * g) (by omega) (Nat.le_refl _)
    have hE := hO.2.1
    have hE2 := hO.2.2.2
    have ef : (h_fn (27 + a) (33 + b) τ (nI p) (nI s)).toNatClampNeg = (gsB (bC M v g) c s).length := by
      unfold h_fn
      rw [rg_nI (by omega), rg_nI (by omega), r1, r2, y_arM hA.1 (by omega) (by have := hV.1; omega), b_bc _ hX, y_fn hA.2.1 hO hg hA.2.2 hV.2 hsg, nI_mul]
      unfold gsB
      rw [fmr_len]
      show (nI ((sts (mE M s (cdS c))).length * (v.2 (cdN c * g + s + 1) - v.2 (cdN c * g + s)))).toNatClampNeg = (sts (mE M s (cdS c))).length * (v.2 (cdN c * g + s + 1) - v.2 (cdN c * g + s))
      have : (sts (mE M s (cdS c))).length * (v.2 (cdN c * g + s + 1) - v.2 (cdN c * g + s)) ≤ 4 * 270000 := Nat.mul_le_mul h4 (by omega)
      exact nI_clamp (by omega)
    rw [h_o, ef, gcl, tL_a]
    have I := y_hI (B := B) (p := p) (a := a) (b := b) ha hb hM hO hg hV hsg (gsB (bC M v g) c s).length 0 Q τ (by omega) hA h hn hl hp hc
    rw [List.drop_zero] at I
    revert I
    cases tL (gsB (bC M v g) c s) Q with
    | none =>
      rintro ⟨τ', i1, i2, i3⟩
      rw [i1, if_pos rfl]
      exact ⟨τ', rfl, i2, i3⟩
    | some Q1 =>
      rintro ⟨τ', i1, i2, i3, i4, i5, m, i6⟩
      rw [i1, if_neg (show ¬ ((false, τ') : Bool × sS).1 = true from Bool.false_ne_true)]
      have hA2 : cAC M v g a b τ' := hA.t ha hb (fun r hr => (i2.1 r (by omega)).1)
      have I2 := ih (s + 1) Q1 τ' (by omega) hA2 i3 i4 i5 (by rw [i6, List.length_append]; omega) (by rw [i6, getD_app hp]; exact hc)
      revert I2
      show (match tL (gcl (bC M v g) c k (s + 1)) Q1 with
        | none => _
        | some Q' => _) → (match tL (gcl (bC M v g) c k (s + 1)) Q1 with
        | none => _
        | some Q' => _)
      cases tL (gcl (bC M v g) c k (s + 1)) Q1 with
      | none => exact fun ⟨τ2, j1, j2, j3⟩ => ⟨τ2, j1, i2.tr j2, j3⟩
      | some Q' => exact fun ⟨τ2, j1, j2, j3, j4, j5, m', j6⟩ => ⟨τ2, j1, i2.tr j2, j3, j4, j5, m ++ m', by rw [j6, i6, List.append_assoc]⟩
theorem y_hB {B : Nat × Nat} {M M' : aM} {v : zS × (Nat → Nat)} {g a b : Nat} (ha : a < 3) (hb : b < 3) (hM : mOk g M) (hO : cO M' g v) (hg : g ≤ 3) : ∀ (n m k : Nat) (z : List Nat × bS) (τ : sS), 1000 ≤ m + k → 1000 < n + k → k ≤ z.1.length → cAC M v g a b τ → cT3 B M v z.1 τ → jK z → (∀ c, c ∈ z.1 → cV M v c) → match jA (elB (bC M v g) g) n k z with
    | none => ∃ τ', h_mb (27 + a) (33 + b) (mN M) g m k τ = (true, τ') ∧ trl τ τ' ∧ Rm B τ'
    | some y => ∃ τ', h_mb (27 + a) (33 + b) (mN M) g m k τ = (false, τ') ∧ trl τ τ' ∧ cT3 B M v y.1 τ' := by
  intro n
  induction n with
  | zero => intro m k z τ h1 h2 h3 _ _ h4; have := h4.2.1; omega
  | succ n ih =>
    intro m k z τ h1 h2 h3 hA h hK hV
    have hl := hK.2.1
    rw [jA]
    by_cases c : k < z.1.length
    · rw [if_pos c]
      obtain ⟨m', rfl⟩ : ∃ m', m = m' + 1 := ⟨m - 1, by omega⟩
      rw [h_mb, h.1, if_neg (nI_ge c (by omega))]
      have cm := getD_mem c
      have I := y_hO (B := B) (p := k) (a := a) (b := b) ha hb hM hO hg (hV _ cm) g 0 z.1 τ (by omega) hA h hK.1 hl c rfl
      rw [← elB_c, jE_t (p := k) _ z] at I
      revert I
      cases hj : jE k (elB (bC M v g) g (z.1.getD k 0)) z with
      | none =>
        rintro ⟨τ', i1, i2, i3⟩
        have ea : h_ans ((true, τ') : Bool × sS) = 0 := rfl
        rw [i1, ea, if_pos rfl]
        exact ⟨τ', rfl, i2, i3⟩
      | some u =>
        rintro ⟨τ', i1, i2, i3, i4, i5, mm, i6⟩
        have ea : h_ans ((false, τ') : Bool × sS) = 1 := rfl
        rw [i1, ea, if_neg (by decide)]
        obtain ⟨e1, ⟨m2, e2⟩, e3, e4, -⟩ := jE_ok _ _ _ hK hj
        have hA2 : cAC M v g a b τ' := hA.t ha hb (fun r hr => (i2.1 r (by omega)).1)
        have I2 := ih m' (k + 1) u τ' (by omega) (by omega) (by rw [e2, List.length_append]; omega) hA2 i3 e1 (fun d hd => by
          rcases e4 d hd with q | ⟨e, q1, q2⟩
          · exact hV d q
          · obtain ⟨s, t, j, w1, w2, w3, w4⟩ := elB_mem.mp q1
            rw [← q2, w4]
            exact (bC_V hM hO (hV _ cm) w1 w2 w3).1)
        revert I2
        show (match jA (elB (bC M v g) g) n (k + 1) u with
          | none => _
          | some y => _) → (match jA (elB (bC M v g) g) n (k + 1) u with
          | none => _
          | some y => _)
        cases jA (elB (bC M v g) g) n (k + 1) u with
        | none => exact fun ⟨τ2, j1, j2, j3⟩ => ⟨τ2, j1, i2.tr j2, j3⟩
        | some y => exact fun ⟨τ2, j1, j2, j3⟩ => ⟨τ2, j1, i2.tr j2, j3⟩
    · rw [if_neg c]
      cases m with
      | zero => exact ⟨τ, rfl, trl.rf, h⟩
      | succ m =>
        rw [h_mb, h.1, if_pos (nI_le (by omega) (by omega))]
        exact ⟨τ, rfl, trl.rf, h⟩
