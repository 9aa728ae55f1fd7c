/-! rounds: the nodes behind a stem (the reference) -/
def pR (r N : Nat) (P : Nat → Prop) (τ : sS) : Prop := ∀ n, n < N → vI τ r n = if bP (P n) = true then 1 else 0
theorem pR.c {r N : Nat} {P Q : Nat → Prop} {σ τ : sS} (h : pR r N P σ) (h1 : ∀ n, n < N → vI τ r n = vI σ r n) (hP : ∀ n, n < N → (P n ↔ Q n)) : pR r N Q τ := by
  intro n hn
  rw [h1 n hn, h n hn]
  by_cases c : P n
  · rw [if_pos (bP_t.mpr c), if_pos (bP_t.mpr ((hP n hn).mp c))]
  · rw [if_neg (fun q => c (bP_t.mp q)), if_neg (fun q => c ((hP n hn).mpr (bP_t.mp q)))]
theorem x_n2 {N F : Nat} (hN : N ≤ 300) : ∀ (k n f : Nat) (τ : sS), n + k = N → k < f → vI τ 90 33 = nI N → ∃ υ, (∀ kx, L_X12_begunNodes_2 F kx f (nI n) τ = kx υ) ∧ (∀ j, n ≤ j → j < N → vI υ 164 j = if j = 0 then 1 else 0) ∧ (∀ j, j < n → vI υ 164 j = vI τ 164 j) ∧ fm [164] [] τ υ := by
  intro k
  induction k with
  | zero =>
    intro n f τ hn hf h
    obtain ⟨f', rfl⟩ : ∃ g, f = g + 1 := ⟨f - 1, by omega⟩
    refine ⟨τ, fun kx => ?_, fun j a b => by omega, fun _ _ => rfl, fm.rf⟩
    rw [L_X12_begunNodes_2, h, if_pos (nI_le (by omega) (by omega))]
  | succ k ih =>
    intro n f τ hn hf h
    obtain ⟨f', rfl⟩ : ∃ g, f = g + 1 := ⟨f - 1, by omega⟩
    have f1 : fm [164] [] τ (uI τ 164 n (if n = 0 then 1 else 0)) := fm.uI (Or.inl (by decide))
    obtain ⟨υ, r1, r2, r3, r4⟩ := ih (n + 1) f' (uI τ 164 n (if n = 0 then 1 else 0)) (by omega) (by omega) ((f1.f (fun q => nomatch q) (by decide)).trans h)
    refine ⟨υ, fun kx => ?_, fun j a b => ?_, fun j hj => ?_, f1.tr r4⟩
    · rw [L_X12_begunNodes_2, h, if_neg (nI_ge (by omega) (by omega)), inb_n (by omega) (by omega), nI_clamp (by omega)]
      simp only [grd_s, bnd_s]
      rw [nI_1, ← r1 kx]
      by_cases c : n = 0
      · rw [if_pos ((nI_k0 (by omega)).mpr c), if_pos c]
      · rw [if_neg (fun q => c ((nI_k0 (by omega)).mp q)), if_neg c]
    · by_cases e : j = n
      · rw [r3 j (by omega), e, vI_e]
      · exact r2 j (by omega) b
    · rw [r3 j (by omega)]
      exact vI_q (fun q => by omega)
theorem x_n43 {N F : Nat} {x1 : Int32} (hN : N ≤ 300) : ∀ (k n f : Nat) (τ : sS), n + k = N → k < f → vI τ 90 33 = nI N → ∃ υ, (∀ kx, L_X12_begunNodes_43 F x1 kx f (nI n) τ = kx υ) ∧ (∀ j, n ≤ j → j < N → vI υ 165 j = 0) ∧ (∀ j, j < n → vI υ 165 j = vI τ 165 j) ∧ fm [165] [] τ υ := by
  intro k
  induction k with
  | zero =>
    intro n f τ hn hf h
    obtain ⟨f', rfl⟩ : ∃ g, f = g + 1 := ⟨f - 1, by omega⟩
    refine ⟨τ, fun kx => ?_, fun j a b => by omega, fun _ _ => rfl, fm.rf⟩
    rw [L_X12_begunNodes_43, h, if_pos (nI_le (by omega) (by omega))]
  | succ k ih =>
    intro n f τ hn hf h
    obtain ⟨f', rfl⟩ : ∃ g, f = g + 1 := ⟨f - 1, by omega⟩
    have f1 : fm [165] [] τ (uI τ 165 n 0) := fm.uI (Or.inl (by decide))
    obtain ⟨υ, r1, r2, r3, r4⟩ := ih (n + 1) f' (uI τ 165 n 0) (by omega) (by omega) ((f1.f (fun q => nomatch q) (by decide)).trans h)
    refine ⟨υ, fun kx => ?_, fun j a b => ?_, fun j hj => ?_, f1.tr r4⟩
    · rw [L_X12_begunNodes_43, h, if_neg (nI_ge (by omega) (by omega)), inb_n (by omega) (by omega), nI_clamp (by omega), grd_s, bnd_s, nI_1]
      exact r1 kx
    · by_cases e : j = n
      · rw [r3 j (by omega), e, vI_e]
      · exact r2 j (by omega) b
    · rw [r3 j (by omega)]
      exact vI_q (fun q => by omega)
theorem x_n132 {N F : Nat} {x1 : Int32} {P : Nat → Prop} (hN : N ≤ 300) : ∀ (k n f : Nat) (τ : sS), n + k = N → k < f → vI τ 90 33 = nI N → pR 165 N P τ → (∀ j, j < n → vI τ 164 j = vI τ 165 j) → ∃ υ, (∀ kx, L_X12_begunNodes_132 F x1 kx f (nI n) τ = kx υ) ∧ pR 164 N P υ ∧ fm [164] [] τ υ := by
  intro k
  induction k with
  | zero =>
    intro n f τ hn hf h hP hj
    obtain ⟨f', rfl⟩ : ∃ g, f = g + 1 := ⟨f - 1, by omega⟩
    refine ⟨τ, fun kx => ?_, fun j hjN => (hj j (by omega)).trans (hP j hjN), fm.rf⟩
    rw [L_X12_begunNodes_132, h, if_pos (nI_le (by omega) (by omega))]
  | succ k ih =>
    intro n f τ hn hf h hP hj
    obtain ⟨f', rfl⟩ : ∃ g, f = g + 1 := ⟨f - 1, by omega⟩
    have hnN : n < N := by omega
    have f1 : fm [164] [] τ (uI τ 164 n (vI τ 165 n)) := fm.uI (Or.inl (by decide))
    have hj2 : ∀ j, j < n + 1 → vI (uI τ 164 n (vI τ 165 n)) 164 j = vI (uI τ 164 n (vI τ 165 n)) 165 j := by
      intro j hjn
      rw [vI_q (b := 165) (fun q => absurd q.1 (by decide))]
      by_cases e : j = n
      · rw [e, vI_e]
      · rw [vI_q (fun q => e q.2)]; exact hj j (by omega)
    obtain ⟨υ, r1, r2, r3⟩ := ih (n + 1) f' (uI τ 164 n (vI τ 165 n)) (by omega) (by omega) ((f1.f (fun q => nomatch q) (by decide)).trans h) (hP.c (fun j _ => vI_q (fun q => absurd q.1 (by decide))) (fun _ _ => Iff.rfl)) hj2
    refine ⟨υ, fun kx => ?_, r2, f1.tr r3⟩
    have is : is01 (vI τ 165 n) = true := by
      rw [hP n hnN]
      cases bP (P n) <;> rfl
    rw [L_X12_begunNodes_132, h, if_neg (nI_ge (by omega) (by omega)), inb_n (by omega) (by omega), nI_clamp (by omega), is, grd_s, grd_s, grd_s, bnd_s, nI_1]
    exact r1 kx
theorem x_n76 {M : aM} {g n s x1 F : Nat} {v : zS × (Nat → Nat)} {A P0 : Nat → Prop} {w : List Nat} {σ0 : sS} (hq : cpl M g = some v) (hO : cO M g v) (h3 : sM3 v.2 (zN v.1 * g)) (hg1 : 1 ≤ g) (hg : g ≤ 3) (hc : rCpl M g σ0) (hn : n < zN v.1) (hs : s < g) (hx : x1 < 10) (hw : vI σ0 139 x1 = nI s) (hA : pR 164 (zN v.1) A σ0) : ∀ (k j f : Nat) (P : Nat → Prop) (τ : sS), j + k = (gsB (bNo v g) n s).length → k < f → fm [165] [] σ0 τ → pR 165 (zN v.1) P τ → ∃ υ, (∀ kx, L_X12_begunNodes_76 F (nI x1) (nI n) kx f (nI j) τ = kx υ) ∧ pR 165 (zN v.1) (fun t => P t ∨ (A n ∧ t ∈ (gsB (bNo v g) n s).drop j)) υ ∧ fm [165] [] σ0 υ := by
  have hN := hO.1.2.1
  have hb := (bNo_o (M := M) h3 hn hs).2
  intro k
  induction k with
  | zero =>
    intro j f P τ hj hf hfr hP
    obtain ⟨f', rfl⟩ : ∃ g, f = g + 1 := ⟨f - 1, by omega⟩
    have hv := (hc.f hfr (by decide) (by decide) (fun _ _ q => nomatch q)).v hq
    obtain ⟨f1, f2, f3, f4⟩ := x_fan hv hO hg1 hg hn hs
    refine ⟨τ, fun kx => ?_, hP.c (fun _ _ => rfl) (fun t _ => ⟨Or.inl, fun q => q.elim id (fun z => by rw [List.drop_eq_nil_of_le (by omega)] at z; exact nomatch z.2)⟩), hfr⟩
    rw [bNo_len] at hj
    rw [L_X12_begunNodes_76, inb_n (by omega) (by omega), nI_clamp (by omega), inb_n (show x1 < 10 from hx) (by omega), nI_clamp (show x1 < 2 ^ 31 by omega)]
    simp only [grd_s]
    rw [hfr.r (by decide) (by decide) (a := 139), hw, f1, bd_s, if_pos (nI_le (by omega) (by omega))]
    split <;> rfl
  | succ k ih =>
    intro j f P τ hj hf hfr hP
    obtain ⟨f', rfl⟩ : ∃ g, f = g + 1 := ⟨f - 1, by omega⟩
    have hv := (hc.f hfr (by decide) (by decide) (fun _ _ q => nomatch q)).v hq
    obtain ⟨f1, f2, f3, f4⟩ := x_fan hv hO hg1 hg hn hs
    have hj' : j < (gsB (bNo v g) n s).length := by omega
    have dr : (gsB (bNo v g) n s).drop j = (gsB (bNo v g) n s).getD j 0 :: (gsB (bNo v g) n s).drop (j + 1) := by
      rw [List.drop_eq_getElem_cons hj', List.getD_eq_getElem?_getD, List.getElem?_eq_getElem hj']
      rfl
    have tn := bNo_m hO hn hs (getD_mem hj')
    have hj2 : j < v.2 (n * g + s + 1) - v.2 (n * g + s) := by rw [bNo_len] at hj'; exact hj'
    have eat := bNo_at v hj2
    have ea := x_eAt hv hO hg1 hg hn hs hj2
    rw [← eat] at ea
    have e164 : vI τ 164 n = if bP (A n) = true then 1 else 0 := (hfr.r (by decide) (by decide)).trans (hA n hn)
    have e139 : vI τ 139 x1 = nI s := (hfr.r (by decide) (by decide)).trans hw
    have head : ∀ kx, L_X12_begunNodes_76 F (nI x1) (nI n) kx (f' + 1) (nI j) τ = if bP (A n) = true then (L_X12_begunNodes_76 F (nI x1) (nI n) kx f' (nI (j + 1)) (uI τ 165 ((gsB (bNo v g) n s).getD j 0) 1)) else kx τ := by
      intro kx
      rw [L_X12_begunNodes_76, inb_n (by omega) (by omega), nI_clamp (by omega), inb_n (show x1 < 10 from hx) (by omega), nI_clamp (show x1 < 2 ^ 31 by omega)]
      simp only [grd_s]
      rw [e164, e139, f1, bd_s, if_neg (nI_ge hj2 (by omega)), ea, bd_s, inb_n (by omega) (by omega), grd_s, bnd_s, nI_clamp (by omega), nI_1]
      cases bP (A n)
      · rfl
      · rfl
    rw [dr]
    by_cases c : A n
    · have fu : fm [165] [] σ0 (uI τ 165 ((gsB (bNo v g) n s).getD j 0) 1) := hfr.tr (fm.uI (Or.inl (by decide)))
      have hP2 : pR 165 (zN v.1) (fun t => P t ∨ t = (gsB (bNo v g) n s).getD j 0) (uI τ 165 ((gsB (bNo v g) n s).getD j 0) 1) := by
        intro t ht
        by_cases e : t = (gsB (bNo v g) n s).getD j 0
        · rw [← e, vI_e, if_pos (bP_t.mpr (Or.inr rfl))]
        · rw [vI_q (fun q => e q.2), hP t ht]
          by_cases d : P t
          · rw [if_pos (bP_t.mpr d), if_pos (bP_t.mpr (Or.inl d))]
          · rw [if_neg (fun q => d (bP_t.mp q)), if_neg (fun q => (bP_t.mp q).elim d e)]
      obtain ⟨υ, r1, r2, r3⟩ := ih (j + 1) f' _ _ (by omega) (by omega) fu hP2
      refine ⟨υ, fun kx => ?_, r2.c (fun _ _ => rfl) (fun t _ => ?_), r3⟩
      · rw [head, if_pos (bP_t.mpr c)]; exact r1 kx
      · constructor
        · rintro ((q | q) | ⟨q1, q2⟩)
          · exact Or.inl q
          · exact Or.inr ⟨c, by rw [q]; exact List.mem_cons_self⟩
          · exact Or.inr ⟨q1, List.mem_cons_of_mem _ q2⟩
        · rintro (q | ⟨q1, q2⟩)
          · exact Or.inl (Or.inl q)
          · rcases List.mem_cons.mp q2 with z | z
            · exact Or.inl (Or.inr z)
            · exact Or.inr ⟨q1, z⟩
    · refine ⟨τ, fun kx => ?_, hP.c (fun _ _ => rfl) (fun t _ => ⟨Or.inl, fun q => q.elim id (fun z => absurd z.1 c)⟩), hfr⟩
      rw [head, if_neg (fun q => c (bP_t.mp q))]
theorem x_n66 {M : aM} {g s x1 F : Nat} {v : zS × (Nat → Nat)} {A : Nat → Prop} {σ0 : sS} (hq : cpl M g = some v) (hO : cO M g v) (h3 : sM3 v.2 (zN v.1 * g)) (hg1 : 1 ≤ g) (hg : g ≤ 3) (hF : 301 < F) (hc : rCpl M g σ0) (hs : s < g) (hx : x1 < 10) (hw : vI σ0 139 x1 = nI s) (hA : pR 164 (zN v.1) A σ0) : ∀ (k n f : Nat) (P : Nat → Prop) (τ : sS), n + k = zN v.1 → k < f → fm [165] [] σ0 τ → pR 165 (zN v.1) P τ → ∃ υ, (∀ kx, L_X12_begunNodes_66 F (nI x1) kx f (nI n) τ = kx υ) ∧ pR 165 (zN v.1) (fun t => P t ∨ ∃ m, n ≤ m ∧ m < zN v.1 ∧ A m ∧ t ∈ gsB (bNo v g) m s) υ ∧ fm [165] [] σ0 υ := by
  have hN := hO.1.2.1
  intro k
  induction k with
  | zero =>
    intro n f P τ hn hf hfr hP
    obtain ⟨f', rfl⟩ : ∃ g, f = g + 1 := ⟨f - 1, by omega⟩
    have e33 : vI τ 90 33 = nI (zN v.1) := (hfr.f (fun q => nomatch q) (by decide)).trans (hc.v hq).1.2.1
    refine ⟨τ, fun kx => ?_, hP.c (fun _ _ => rfl) (fun t _ => ⟨Or.inl, fun q => q.elim id (fun ⟨m, a, b, _⟩ => by omega)⟩), hfr⟩
    rw [L_X12_begunNodes_66, e33, if_pos (nI_le (by omega) (by omega))]
  | succ k ih =>
    intro n f P τ hn hf hfr hP
    obtain ⟨f', rfl⟩ : ∃ g, f = g + 1 := ⟨f - 1, by omega⟩
    have hnN : n < zN v.1 := by omega
    have e33 : vI τ 90 33 = nI (zN v.1) := (hfr.f (fun q => nomatch q) (by decide)).trans (hc.v hq).1.2.1
    have hb := (bNo_o (M := M) h3 hnN hs).2
    obtain ⟨υ1, a1, a2, a3⟩ := x_n76 (F := F) (P0 := A) (w := []) hq hO h3 hg1 hg hc hnN hs hx hw hA (gsB (bNo v g) n s).length 0 F P τ (by omega) (by rw [bNo_len]; omega) hfr hP
    rw [List.drop_zero] at a2
    obtain ⟨υ, r1, r2, r3⟩ := ih (n + 1) f' _ υ1 (by omega) (by omega) a3 a2
    refine ⟨υ, fun kx => ?_, r2.c (fun _ _ => rfl) (fun t _ => ?_), r3⟩
    · have a1 := a1 (fun σ5 => L_X12_begunNodes_66 F (nI x1) kx f' (nI (n + 1)) σ5)
      have a1 : L_X12_begunNodes_76 F (nI x1) (nI n) (fun σ5 => L_X12_begunNodes_66 F (nI x1) kx f' (nI (n + 1)) σ5) F 0 τ = _ := a1
      rw [L_X12_begunNodes_66, e33, if_neg (nI_ge (by omega) (by omega)), nI_1, a1]
      exact r1 kx
    · constructor
      · rintro ((q | ⟨q1, q2⟩) | ⟨m, m1, m2, m3⟩)
        · exact Or.inl q
        · exact Or.inr ⟨n, by omega, hnN, q1, q2⟩
        · exact Or.inr ⟨m, by omega, m2, m3⟩
      · rintro (q | ⟨m, m1, m2, m3⟩)
        · exact Or.inl (Or.inl q)
        · by_cases e : m = n
          · rw [e] at m3; exact Or.inl (Or.inr m3)
          · exact Or.inr ⟨m, by omega, m2, m3⟩
def ndM : List Nat := [164, 165]
theorem x_n33 {M : aM} {g F : Nat} {v : zS × (Nat → Nat)} {w : List Nat} {σ0 : sS} (hq : cpl M g = some v) (hO : cO M g v) (h3 : sM3 v.2 (zN v.1 * g)) (hg1 : 1 ≤ g) (hg : g ≤ 3) (hF : 301 < F) (hc : rCpl M g σ0) (hw : rRw 139 w σ0) (hwg : ∀ s, s ∈ w → s < g) (h41 : vI σ0 90 41 = nI w.length) : ∀ (k i f : Nat) (τ : sS), i + k = w.length → k < f → fm ndM [] σ0 τ → pR 164 (zN v.1) (frm (G1 v g) (w.take i)) τ → ∃ υ, (∀ kx, L_X12_begunNodes_33 F kx f (nI i) τ = kx υ) ∧ pR 164 (zN v.1) (frm (G1 v g) w) υ ∧ fm ndM [] σ0 υ := by
  have hN := hO.1.2.1
  have hG := (G1_ok hO h3 hg).1
  intro k
  induction k with
  | zero =>
    intro i f τ hi hf hfr hP
    obtain ⟨f', rfl⟩ : ∃ g, f = g + 1 := ⟨f - 1, by omega⟩
    have := hw.1
    rw [List.take_of_length_le (by omega)] at hP
    refine ⟨τ, fun kx => ?_, hP, hfr⟩
    rw [L_X12_begunNodes_33, hfr.f (fun q => nomatch q) (by decide), h41, if_pos (nI_le (by omega) (by omega))]
  | succ k ih =>
    intro i f τ hi hf hfr hP
    obtain ⟨f', rfl⟩ : ∃ g, f = g + 1 := ⟨f - 1, by omega⟩
    have hl := hw.1
    have hi' : i < w.length := by omega
    have hs := hwg _ (getD_mem hi')
    have e33 : vI τ 90 33 = nI (zN v.1) := (hfr.f (fun q => nomatch q) (by decide)).trans (hc.v hq).1.2.1
    obtain ⟨υ1, a1, a2, -, a4⟩ := x_n43 (F := F) (x1 := nI i) hN (zN v.1) 0 F τ (by omega) (by omega) e33
    have z1 : pR 165 (zN v.1) (fun _ => False) υ1 := fun n hn => by
      rw [a2 n (Nat.zero_le _) hn, if_neg (fun q => bP_t.mp q)]
    have c1 : rCpl M g υ1 := (hc.f hfr (by decide) (by decide) (fun _ _ q => nomatch q)).f a4 (by decide) (by decide) (fun _ _ q => nomatch q)
    have w1 : vI υ1 139 i = nI (w.getD i 0) := (a4.r (by decide) (by decide)).trans ((hfr.r (by decide) (by decide)).trans (hw.2 i hi'))
    have p1 : pR 164 (zN v.1) (frm (G1 v g) (w.take i)) υ1 := hP.c (fun n _ => a4.r (by decide) (by decide)) (fun _ _ => Iff.rfl)
    obtain ⟨υ2, b1, b2, b3⟩ := x_n66 (F := F) hq hO h3 hg1 hg hF c1 hs (by omega) w1 p1 (zN v.1) 0 F _ υ1 (by omega) (by omega) fm.rf z1
    have e33b : vI υ2 90 33 = nI (zN v.1) := (b3.f (fun q => nomatch q) (by decide)).trans ((a4.f (fun q => nomatch q) (by decide)).trans e33)
    obtain ⟨υ3, d1, d2, d3⟩ := x_n132 (F := F) (x1 := nI i) hN (zN v.1) 0 F υ2 (by omega) (by omega) e33b b2 (fun j hj => absurd hj (Nat.not_lt_zero j))
    have f3 : fm ndM [] σ0 υ3 := ((hfr.tr (a4.mo (by decide) (fun _ q => q))).tr (b3.mo (by decide) (fun _ q => q))).tr (d3.mo (by decide) (fun _ q => q))
    have p3 : pR 164 (zN v.1) (frm (G1 v g) (w.take (i + 1))) υ3 := d2.c (fun _ _ => rfl) (fun t _ => by
      rw [take_s hi', frm_s]
      constructor
      · rintro (q | ⟨m, -, m2, m3, m4⟩)
        · exact q.elim
        · exact ⟨m, m3, m4⟩
      · rintro ⟨m, m3, m4⟩
        exact Or.inr ⟨m, Nat.zero_le _, frm_n hG (fun s hs => hwg s (List.mem_of_mem_take hs)) m3, m3, m4⟩)
    obtain ⟨υ, r1, r2, r3⟩ := ih (i + 1) f' υ3 (by omega) (by omega) f3 p3
    refine ⟨υ, fun kx => ?_, r2, r3⟩
    rw [L_X12_begunNodes_33, hfr.f (fun q => nomatch q) (by decide), h41, if_neg (nI_ge (by omega) (by omega)), nI_1]
    refine (a1 _).trans ?_
    refine (b1 _).trans ?_
    refine (d1 _).trans ?_
    exact r1 kx
theorem x_n171 {N F : Nat} {P : Nat → Prop} (hN : N ≤ 300) : ∀ (k n f : Nat) (S : bS) (τ : sS), n + k = N → k < f → vI τ 90 33 = nI N → pR 164 N P τ → rBf S τ → ∃ υ S', (∀ kx, L_X12_begunNodes_171 F kx f (nI n) τ = kx υ) ∧ rBf S' υ ∧ (∀ x, x ∈ S'.1 ↔ x ∈ S.1 ∨ ∃ u, n ≤ u ∧ u < N ∧ P u ∧ x = 10 * u) ∧ fm wM wK τ υ := by
  intro k
  induction k with
  | zero =>
    intro n f S τ hn hf h hP hR
    obtain ⟨f', rfl⟩ : ∃ g, f = g + 1 := ⟨f - 1, by omega⟩
    refine ⟨τ, S, fun kx => ?_, hR, fun x => ⟨Or.inl, fun q => q.elim id (fun ⟨u, a, b, _⟩ => by omega)⟩, fm.rf⟩
    rw [L_X12_begunNodes_171, h, if_pos (nI_le (by omega) (by omega))]
  | succ k ih =>
    intro n f S τ hn hf h hP hR
    obtain ⟨f', rfl⟩ : ∃ g, f = g + 1 := ⟨f - 1, by omega⟩
    have head : ∀ kx, L_X12_begunNodes_171 F kx (f' + 1) (nI n) τ = if bP (P n) = true then (bd (L_X12_meets (nI (10 * n)) (-1) (-1) τ) (fun σ8 => L_X12_begunNodes_171 F kx f' (nI (n + 1)) σ8)) else (L_X12_begunNodes_171 F kx f' (nI (n + 1)) τ) := by
      intro kx
      rw [L_X12_begunNodes_171, h, if_neg (nI_ge (by omega) (by omega)), inb_n (by omega) (by omega), grd_s, nI_clamp (by omega), hP n (by omega), nI_1, show (10 : Int32) = nI 10 from rfl, nI_mul]
      cases bP (P n)
      · rfl
      · rfl
    by_cases d : P n
    · obtain ⟨υ1, m1, m2, m3⟩ := x_meets hR (x := 10 * n) (by omega) none
      have m1 : L_X12_meets (nI (10 * n)) (-1) (-1) τ = some υ1 := m1
      obtain ⟨υ, S', r1, r2, r3, r4⟩ := ih (n + 1) f' _ υ1 (by omega) (by omega) ((m3.f (by decide) (by decide)).trans h) (hP.c (fun j _ => m3.r (by decide) (by decide)) (fun _ _ => Iff.rfl)) m2
      refine ⟨υ, S', fun kx => ?_, r2, fun x => (r3 x).trans ?_, m3.tr r4⟩
      · rw [head, if_pos (bP_t.mpr d), m1, bd_s]
        exact r1 kx
      · constructor
        · rintro (q | ⟨u, u1, u2, u3⟩)
          · rcases bm_m q with z | z
            · exact Or.inl z
            · exact Or.inr ⟨n, by omega, by omega, d, z⟩
          · exact Or.inr ⟨u, by omega, u2, u3⟩
        · rintro (q | ⟨u, u1, u2, u3, u4⟩)
          · exact Or.inl (bX_bm.m q)
          · by_cases e : u = n
            · rw [e] at u4; rw [u4]; exact Or.inl bm_in.1
            · exact Or.inr ⟨u, by omega, u2, u3, u4⟩
    · obtain ⟨υ, S', r1, r2, r3, r4⟩ := ih (n + 1) f' S τ (by omega) (by omega) h hP hR
      refine ⟨υ, S', fun kx => ?_, r2, fun x => (r3 x).trans ?_, r4⟩
      · rw [head, if_neg (fun q => d (bP_t.mp q))]
        exact r1 kx
      · constructor
        · rintro (q | ⟨u, u1, u2, u3⟩)
          · exact Or.inl q
          · exact Or.inr ⟨u, by omega, u2, u3⟩
        · rintro (q | ⟨u, u1, u2, u3, u4⟩)
          · exact Or.inl q
          · refine Or.inr ⟨u, ?_, u2, u3, u4⟩
            refine Nat.lt_of_le_of_ne u1 (fun e => d (by rw [e]; exact u3))
theorem x_isTk1 {A : aS} {σ : sS} {F i : Nat} {v : zS × (Nat → Nat)} {w rd : List Nat} (hF : 40000000 < F) (h : R0 A σ) (hI : 1 ≤ aG A) (hi : i < aC A) (hq : cpl (aMa A i) (aG A) = some v) (hv : rCv (aG A) v σ) (hO : cO (aMa A i) (aG A) v) (hw : rRw 139 w σ) (hwg : ∀ x ∈ w, x < aG A) (h41 : vI σ 90 41 = nI w.length) (hr : rRw 140 rd σ) (hrg : ∀ x ∈ rd, x < aG A) (h42 : vI σ 90 42 = nI rd.length) (hm1 : 1 ≤ rd.length) : ∃ τ, L_X12_isTaken F (nI i) 1 σ = some (tkv (G1 v (aG A)) w rd, τ) ∧ fm ikM ikK σ τ := by
  have h3 := h.c.1
  have hg := h.c.2
  have hm := h.m hi
  have c3 := cpl_3 hm.1 hg hq
  have hT := G1_ok hO c3 hg
  have hN := hO.1.2.1
  have f0 : fm [] [38] σ (uI σ 90 38 (nI i)) := fm.uI (Or.inr ⟨rfl, by decide⟩)
  obtain ⟨υ1, n1, n2, n3⟩ := x_meetsNone (F := F) (by omega) (uI σ 90 38 (nI i))
  have f1 : fm wM (38 :: wK) σ υ1 := (f0.mo (fun _ q => nomatch q) (by decide)).tr (n3.mo (fun _ q => q) (by decide))
  have C1 : rCpl (aMa A i) (aG A) υ1 := (rCpl.s hv hq).f f1 (by decide) (by decide) (by decide)
  have w1 : rRw 139 w υ1 := ⟨hw.1, fun j hj => (f1.r (by decide) (by decide)).trans (hw.2 j hj)⟩
  have e33 : vI υ1 90 33 = nI (zN v.1) := (C1.v hq).1.2.1
  obtain ⟨υ2, a1, a2, -, a4⟩ := x_n2 (F := F) hN (zN v.1) 0 F υ1 (by omega) (by omega) e33
  have p2 : pR 164 (zN v.1) (frm (G1 v (aG A)) (w.take 0)) υ2 := fun n hn => by
    rw [a2 n (Nat.zero_le _) hn]
    have e : frm (G1 v (aG A)) (w.take 0) n ↔ n = 0 := by
      rw [List.take_zero]
      constructor
      · rintro ⟨f, -, f2, f3⟩
        have f3 : f = n := f3
        rw [← f3]; exact of_decide_eq_true f2
      · intro e
        exact ⟨n, hn, decide_eq_true e, rfl⟩
    by_cases c : n = 0
    · rw [if_pos c, if_pos (bP_t.mpr (e.mpr c))]
    · rw [if_neg c, if_neg (fun q => c (e.mp (bP_t.mp q)))]
  have C2 : rCpl (aMa A i) (aG A) υ2 := C1.f a4 (by decide) (by decide) (fun _ _ q => nomatch q)
  obtain ⟨υ3, b1, b2, b3⟩ := x_n33 (F := F) (w := w) hq hO c3 hI hg (by omega) C2 ⟨w1.1, fun j hj => (a4.r (by decide) (by decide)).trans (w1.2 j hj)⟩ hwg ((a4.f (fun q => nomatch q) (by decide)).trans ((f1.f (by decide) (by decide)).trans h41)) w.length 0 F υ2 (by omega) (by have := hw.1; omega) fm.rf p2
  have f3 : fm [] [37] υ3 (uI υ3 90 37 4) := fm.uI (Or.inr ⟨rfl, by decide⟩)
  have C3 : rCpl (aMa A i) (aG A) (uI υ3 90 37 4) := (C2.f b3 (by decide) (by decide) (fun _ _ q => nomatch q)).f f3 (fun _ _ q => nomatch q) (fun q => nomatch q) (by decide)
  have fa : fm ikM ikK σ υ3 := ((f1.mo (by decide) (by decide)).tr (a4.mo (by decide) (fun _ q => nomatch q))).tr (b3.mo (by decide) (fun _ q => nomatch q))
  have B3 : rBf ([], fun _ => none) (uI υ3 90 37 4) := ((n2.g a4 (by decide) (fun q => nomatch q)).g b3 (by decide) (fun q => nomatch q)).g f3 (fun _ _ q => nomatch q) (by decide)
  obtain ⟨υ4, S0, d1, d2, d3, d4⟩ := x_n171 (F := F) (P := frm (G1 v (aG A)) w) hN (zN v.1) 0 F ([], fun _ => none) (uI υ3 90 37 4) (by omega) (by omega) ((C3.v hq).1.2.1) (b2.c (fun n _ => f3.r (fun q => nomatch q) (by decide)) (fun _ _ => Iff.rfl)) B3
  have g4 : rG4 (aMa A i) (aG A) rd υ4 := by
    refine rG4.f (τ := uI υ3 90 37 4) ⟨vI_e, ?_, C3, ⟨hr.1, fun j hj => ?_⟩, ?_⟩ d4
    · exact (f3.f (by decide) (fun q => nomatch q)).trans ((fa.f (by decide) (by decide)).trans h.2.2.1.2.2.2.1)
    · exact (f3.r (fun q => nomatch q) (by decide)).trans ((fa.r (by decide) (by decide)).trans (hr.2 j hj))
    · exact (f3.f (by decide) (fun q => nomatch q)).trans ((fa.f (by decide) (by decide)).trans h42)
  have hSg : ∀ n s, n < GN (G1 v (aG A)) → s < GL (G1 v (aG A)) → GS (G1 v (aG A)) n s = gsB (bNo v (aG A)) n s := fun _ _ _ _ => rfl
  have hO2 := bR_bO (rd := rd) hT.1 (by show zN v.1 ≤ 300; omega) hr.1 hSg (fun n s hn hs => (bNo_o (M := aMa A i) c3 hn hs).1) hrg
  have mem : ∀ x, x ∈ S0.1 ↔ ∃ u, frm (G1 v (aG A)) w u ∧ x = 10 * u := fun x => (d3 x).trans ⟨fun q => q.elim (fun z => nomatch z) (fun ⟨u, _, _, u3, u4⟩ => ⟨u, u3, u4⟩), fun ⟨u, u3, u4⟩ => Or.inr ⟨u, Nat.zero_le _, frm_n hT.1 hwg u3, u3, u4⟩⟩
  obtain ⟨υ, t1, t2⟩ := x_tk25 (F := F) (mk := fun p => nfin (zX v.1 (p / 10))) hO2 (fun ω f p hp => (x_G4 hq hO c3 hI hg hrg hm1 (g4.f f) hp).1) (fun ω f p hp => (x_G4 hq hO c3 hI hg hrg hm1 (g4.f f) hp).2) hF d2 (fun x hx => by
    obtain ⟨u, u1, u2⟩ := (mem x).mp hx
    have : u < zN v.1 := frm_n hT.1 hwg u1
    rw [u2]
    exact ⟨by show 10 * u / 10 < zN v.1; omega, by omega⟩)
  refine ⟨υ, ?_, ?_⟩
  · unfold L_X12_isTaken
    rw [bnd_s, n1, bd_s, if_neg (by decide)]
    have eb : L_X12_begunNodes F υ1 = some υ4 := by
      unfold L_X12_begunNodes
      refine (a1 _).trans ?_
      refine (b1 _).trans ?_
      rw [bnd_s]
      exact d1 _
    rw [eb, bd_s, t1]
    congr 2
    unfold tkv
    have ee : (∃ f, f ∈ S0.1 ∧ gdP (esc (elB (bR (bNo v (aG A)) rd) (aG A))) (fun p => nfin (zX v.1 (p / 10))) f) ↔ tak (G1 v (aG A)) w rd := by
      constructor
      · rintro ⟨f, f1, f2⟩
        obtain ⟨u, u1, u2⟩ := (mem f).mp f1
        have hu : u < zN v.1 := frm_n hT.1 hwg u1
        rw [u2] at f2
        exact ⟨u, hu, u1, (rGd_r (b := bNo v (aG A)) hT.1 (by show zN v.1 ≤ 300; omega) hr.1 hm1 hSg hrg hu).mpr f2⟩
      · rintro ⟨u, hu, u1, u2⟩
        exact ⟨10 * u, (mem _).mpr ⟨u, u1, rfl⟩, (rGd_r (b := bNo v (aG A)) hT.1 (by show zN v.1 ≤ 300; omega) hr.1 hm1 hSg hrg hu).mp u2⟩
    by_cases c : tak (G1 v (aG A)) w rd
    · rw [if_pos (bP_t.mpr c)]
      exact if_pos (bP_t.mpr (ee.mpr c))
    · rw [if_neg (fun q => c (bP_t.mp q))]
      exact if_neg (fun q => c (ee.mp (bP_t.mp q)))
  · exact (fa.tr (f3.mo (fun _ q => nomatch q) (by decide))).tr ((d4.tr t2).mo (by decide) (by decide))
