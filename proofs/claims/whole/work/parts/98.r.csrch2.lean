/-! the component's search: from the first ones; from home -/
theorem gll_fa {α : Type} {a : Bool × Int32 × α} (h : a.1 = false) (k : a.2.1 = 0) : a = (false, 0, a.2.2) := by
  rw [← h, ← k]
theorem y_wb {G : gG} {fF fN fE fM : sS → List Int32 → Int32} {V q : Nat → Prop} {σ1 : sS} {el : Nat → List (Nat × Nat)} (hG : gOk G) (hS : ∀ τ, srel σ1 τ → gSt G fF fN fE fM τ) (hq : ∀ τ, srel σ1 τ → ∀ x, V x → (w_so fM τ (nI x) = 0 ↔ ¬ q x)) (hV : ∀ x, V x → ∀ s, s < GL G → ∀ t, t ∈ GS G x s → V t) (hel : ∀ v, V v → (el v).map e2k = glt G v) : ∀ (m N k : Nat) (S : bS) (τ : sS), GN G ≤ m + k → 3000 < N + k → k ≤ S.1.length → srel σ1 τ → rCB (GN G) S τ → bK S → (∀ x, x ∈ S.1 → V x ∧ ¬ q x) → (∃ τ', w_b fN fE fM (GL G) (-1) m k τ = (false, 0, τ') ∧ sq τ τ' ∧ ∀ x, x ∈ (bA el N k S).1 → ¬ q x) ∨ (∃ x τ' S', w_b fN fE fM (GL G) (-1) m k τ = (true, nI x, τ') ∧ sq τ τ' ∧ stp (GN G) q S' (bA el N k S) x τ') := by
  intro m
  induction m with
  | zero =>
    intro N k S τ hm hN hkl hsr hR hK hVq
    have hl := nodup_len hK.1 hR.2.2.2.2.2.2
    have e : bA el N k S = S := by
      cases N with
      | zero => rfl
      | succ N => rw [bA, if_neg (by omega)]
    rw [e]
    exact Or.inl ⟨τ, rfl, sq.rf, fun x hx => (hVq x hx).2⟩
  | succ m ih =>
    intro N k S τ hm hN hkl hsr hR hK hVq
    have hl := nodup_len hK.1 hR.2.2.2.2.2.2
    have hl2 := hK.len
    rw [w_b, hR.1]
    by_cases c : k < S.1.length
    · rw [if_neg (nI_ge c (by omega))]
      obtain ⟨N', rfl⟩ : ∃ N', N = N' + 1 := ⟨N - 1, by omega⟩
      rw [bA, if_pos c, rg_nI (by omega), hR.2.1 k c]
      have pm := getD_mem c
      generalize S.1.getD k 0 = p at pm
      obtain ⟨pV, pq⟩ := hVq p pm
      have pn := hR.2.2.2.2.2.2 p pm
      have n3 := hG.1
      rw [bE_F, hel p pV]
      have I := y_wo hG hS hq hV pn pV (GL G) 0 S τ (by omega) hsr hR hK pm hVq
      have I : (∃ τ', w_sf fN fE fM (GL G) τ (nI p) (-1) = (false, 0, τ') ∧ sq τ τ' ∧ rCB (GN G) (bF p (glt G p) S) τ' ∧ bK (bF p (glt G p) S) ∧ ∀ x, x ∈ (bF p (glt G p) S).1 → V x ∧ ¬ q x) ∨ (∃ x τ' S', w_sf fN fE fM (GL G) τ (nI p) (-1) = (true, nI x, τ') ∧ sq τ τ' ∧ stp (GN G) q S' (bF p (glt G p) S) x τ') := I
      rcases I with ⟨τ', i1, i2, i3, i4, i5⟩ | ⟨x, τ', S', i1, i2, i3⟩
      · rw [i1]
        have e : w_fa ((false, 0, τ') : Bool × Int32 × sS) = -1 := rfl
        rw [if_pos e]
        rcases ih N' (k + 1) _ τ' (by omega) (by omega) (by obtain ⟨⟨mm, em⟩, -⟩ := bX_bF (v := p) (glt G p) S; rw [em, List.length_append]; omega) (hsr.tr i2.1) i3 i4 i5 with ⟨τ2, j1, j2, j3⟩ | ⟨x, τ2, S', j1, j2, j3⟩
        · exact Or.inl ⟨τ2, j1, i2.tr j2, j3⟩
        · exact Or.inr ⟨x, τ2, S', j1, i2.tr j2, j3⟩
      · rw [i1]
        have xn : x < GN G := i3.1.2.2.2.2.2.2 x (by
          obtain ⟨pre, z, -⟩ := i3.2.2.2.2
          rw [z]; simp)
        have e : w_fa ((true, nI x, τ') : Bool × Int32 × sS) = nI x := rfl
        rw [e, if_neg (nI_n1' (by omega))]
        exact Or.inr ⟨x, τ', S', rfl, i2, i3.1, i3.2.1, i3.2.2.1.tr (bX_bA _ _ _), i3.2.2.2⟩
    · rw [if_pos (nI_le (by omega) (by omega))]
      have e : bA el N k S = S := by
        cases N with
        | zero => rfl
        | succ N => rw [bA, if_neg c]
      rw [e]
      exact Or.inl ⟨τ, rfl, sq.rf, fun x hx => (hVq x hx).2⟩
/-- the first ones -/
def bI (p : Nat → Bool) : Nat → Nat → bS → bS
  | 0, _, S => S
  | k + 1, i, S => bI p k (i + 1) (if p i = true then bm i none S else S)
theorem bX_bI {p : Nat → Bool} : ∀ (k i : Nat) (S : bS), bX S (bI p k i S)
  | 0, _, S => bX.rf
  | k + 1, i, S => by
    rw [bI]
    by_cases c : p i = true
    · rw [if_pos c]; exact bX_bm.tr (bX_bI k (i + 1) _)
    · rw [if_neg c]; exact bX_bI k (i + 1) _
theorem rCB.q {n t : Nat} {S : bS} {τ : sS} (h : rCB n S τ) (hK : bK S) (hn : n ≤ 3000) (ht : t < n) (htn : t ∉ S.1) : rCB n (bm t none S) (w_q τ (nI t)) ∧ sq τ (w_q τ (nI t)) := by
  obtain ⟨a1, a2, a3, a4, ⟨a5, a6, a7⟩, a8, a9⟩ := h
  have hl := hK.len
  obtain ⟨p1, p2, p3, p4, p5, p6, p7, p8, p9⟩ := rqu_p (x := nI t) a1 (by omega) a8
  have e : w_q τ (nI t) = uI (rqu τ 57 (nI t)) 60 t 1 := by
    unfold w_q
    rw [rp_n (by rw [p5 60 (by decide)]; omega) (by omega)]
  have hK2 := bK_bm hK (x := t) (w := none) (by omega) (fun q hq => nomatch hq)
  have hX := bX_bm (S := S) (x := t) (w := none)
  have hw : ∀ x, x ∈ S.1 → wyO (bm t none S) x = wyO S x := fun x hx => bX_wyO hX hK hx
  have ht2 : t ∈ (bm t none S).1 := bm_in.1
  have e2 : (bm t none S).2 t = none := by rw [bm_new htn]; exact pu_s
  have hc57 : vC (rqu τ 57 (nI t)) 57 ≤ 270000 := by
    have e9 : vC (rqu τ 57 (nI t)) 57 = vC (rx τ 57 (S.1.length + 1)) 57 := by
      show (rqu τ 57 (nI t)).2.2.2.2.1 57 = (rx τ 57 (S.1.length + 1)).2.2.2.2.1 57
      rw [p9]
    rw [e9, rx_C]
    exact (rw_cap_le a8).1
  refine ⟨?_, w_q_ok.1, ?_⟩
  · rw [e]
    refine ⟨?_, fun i hi => ?_, fun x hx => ?_, fun x w hx hw2 => ?_, ⟨?_, ?_, ?_⟩, hc57, fun x hx => ?_⟩
    · rw [bm_new htn]
      show vU (rqu τ 57 (nI t)) 57 = nI (S.1 ++ [t]).length
      rw [p1, List.length_append]; rfl
    · rw [bm_new htn] at hi ⊢
      have hi : i < (S.1 ++ [t]).length := hi
      rw [List.length_append] at hi
      simp only [List.length_cons, List.length_nil] at hi
      show _ = nI ((S.1 ++ [t]).getD i 0)
      rw [vI_q (fun q => absurd q.1 (by decide)), p2]
      by_cases c : i = S.1.length
      · rw [if_pos c, c, getD_l]
      · rw [if_neg c, getD_app (by omega)]
        exact a2 i (by omega)
    · by_cases c : x = t
      · rw [c, vI_e, if_pos ht2, wyO_n e2]; rfl
      · rw [vI_q (fun q => c q.2), p3 60 x (by decide), a3 x hx]
        by_cases m : x ∈ S.1
        · rw [if_pos m, if_pos (hX.m m), hw x m]
        · rw [if_neg m, if_neg (fun q => (bm_m q).elim m c)]
    · have c : x ≠ t := fun c => by rw [c, e2] at hw2; exact nomatch hw2
      have m : x ∈ S.1 := (bm_m hx).resolve_right c
      rw [hX.2 x m] at hw2
      rw [vI_q (fun q => absurd q.1 (by decide)), vI_q (fun q => absurd q.1 (by decide)), p3 58 x (by decide), p3 59 x (by decide)]
      exact a4 x w m hw2
    · show n ≤ vC (rqu τ 57 (nI t)) 58; rw [p5 58 (by decide)]; exact a5
    · show n ≤ vC (rqu τ 57 (nI t)) 59; rw [p5 59 (by decide)]; exact a6
    · show n ≤ vC (rqu τ 57 (nI t)) 60; rw [p5 60 (by decide)]; exact a7
    · rcases bm_m hx with q | q
      · exact a9 x q
      · rw [q]; exact ht
  · rw [e]
    refine ⟨fun j => ?_, fun j => ?_, p5 61 (by decide), fun B hB => ?_⟩
    · rw [vI_q (fun q => absurd q.1 (by decide))]; exact p3 56 j (by decide)
    · rw [vI_q (fun q => absurd q.1 (by decide))]; exact p3 61 j (by decide)
    · exact (hB.rx (r := 57) (m := S.1.length + 1) (by decide) (Or.inl (by have := len_lt hK.1 a9 ht htn; omega))).c p9
theorem y_wa {G : gG} {fF fN fE fM : sS → List Int32 → Int32} {V q : Nat → Prop} {σ1 : sS} (hG : gOk G) (hS : ∀ τ, srel σ1 τ → gSt G fF fN fE fM τ) (hq : ∀ τ, srel σ1 τ → ∀ x, V x → (w_so fM τ (nI x) = 0 ↔ ¬ q x)) (hF : ∀ x, x < GN G → GF G x = true → V x) : ∀ (k i : Nat) (S : bS) (τ : sS), i + k = GN G → srel σ1 τ → rCB (GN G) S τ → bK S → (∀ x, x ∈ S.1 → x < i) → (∀ x, x ∈ S.1 → V x ∧ ¬ q x) → (∃ τ', w_a fF fM (-1) k i τ = (false, 0, τ') ∧ sq τ τ' ∧ rCB (GN G) (bI (GF G) k i S) τ' ∧ bK (bI (GF G) k i S) ∧ ∀ x, x ∈ (bI (GF G) k i S).1 → V x ∧ ¬ q x) ∨ (∃ x τ' S', w_a fF fM (-1) k i τ = (true, nI x, τ') ∧ sq τ τ' ∧ stp (GN G) q S' (bI (GF G) k i S) x τ') := by
  intro k
  induction k with
  | zero =>
    intro i S τ _ hsr hR hK _ hVq
    exact Or.inl ⟨τ, rfl, sq.rf, hR, hK, hVq⟩
  | succ k ih =>
    intro i S τ hi hsr hR hK hlt hVq
    have n3 := hG.1
    have ii : i < GN G := by omega
    have gf := (hS τ hsr i ii).1
    rw [w_a, bI]
    have ec : w_c fF τ (-1) (nI i) = fF τ [nI i] := if_pos rfl
    rw [ec]
    by_cases c : GF G i = true
    · have hni : i ∉ S.1 := fun z => absurd (hlt i z) (Nat.lt_irrefl _)
      rw [if_neg (fun z => by rw [gf.mp z] at c; exact nomatch c), if_pos c]
      obtain ⟨r1, r2⟩ := hR.q hK n3 ii hni
      have hsr2 := hsr.tr r2.1
      have iV := hF i ii c
      have hK2 := bK_bm hK (x := i) (w := none) (by omega) (fun z hz => nomatch hz)
      have eh : w_h fM (w_q τ (nI i)) (-1) (nI i) = w_so fM (w_q τ (nI i)) (nI i) := if_pos rfl
      rw [eh]
      by_cases d : q i
      · rw [if_neg (fun z => (hq _ hsr2 i iV).mp z d)]
        refine Or.inr ⟨i, _, bm i none S, rfl, r2, r1, hK2, bX_bI _ _ _, d, S.1, ?_, fun y hy => (hVq y hy).2⟩
        rw [bm_new hni]
      · rw [if_pos ((hq _ hsr2 i iV).mpr d)]
        rcases ih (i + 1) (bm i none S) _ (by omega) hsr2 r1 hK2 (fun x hx => by
          rcases bm_m hx with z | z
          · have := hlt x z; omega
          · omega) (fun x hx => by
          rcases bm_m hx with z | z
          · exact hVq x z
          · rw [z]; exact ⟨iV, d⟩) with ⟨τ', i1, i2, i3⟩ | ⟨x, τ', S', i1, i2, i3⟩
        · exact Or.inl ⟨τ', i1, r2.tr i2, i3⟩
        · exact Or.inr ⟨x, τ', S', i1, r2.tr i2, i3⟩
    · have cf : GF G i = false := by
        cases h : GF G i with
        | false => rfl
        | true => exact absurd h c
      rw [if_pos (gf.mpr cf), if_neg c]
      exact ih (i + 1) S τ (by omega) hsr hR hK (fun x hx => by have := hlt x hx; omega) hVq
def bS0 : bS := ([], fun _ => none)
theorem w_inP {n : Nat} {τ : sS} (hn : n ≤ 3000) (hC : vC τ 57 ≤ 270000) : rCB n bS0 (w_in τ n) ∧ sq τ (w_in τ n) := by
  have h27 : n ≤ 270000 := by omega
  have c : ∀ b, b ≠ 58 → b ≠ 59 → b ≠ 60 → vC (w_in τ n) b = vC τ b := fun b h1 h2 h3 => by
    show vC (rz (rz (rz (uU τ 57 0) 58 n) 59 n) 60 n) b = _
    rw [rz_at.2.2.1, rx_Cn h3, rz_at.2.2.1, rx_Cn h2, rz_at.2.2.1, rx_Cn h1]
    rfl
  have v : ∀ b j, b ≠ 58 → b ≠ 59 → b ≠ 60 → vI (w_in τ n) b j = vI τ b j := fun b j h1 h2 h3 => by
    show vI (rz (rz (rz (uU τ 57 0) 58 n) 59 n) 60 n) b j = _
    rw [rz_at.2.1 b j h3, rz_at.2.1 b j h2, rz_at.2.1 b j h1]
    rfl
  refine ⟨⟨?_, fun i hi => (nomatch hi), fun x hx => ?_, fun x w hx => (nomatch hx), ⟨?_, ?_, ?_⟩, ?_, fun x hx => (nomatch hx)⟩, w_in_ok.1, fun j => v 56 j (by decide) (by decide) (by decide), fun j => v 61 j (by decide) (by decide) (by decide), c 61 (by decide) (by decide) (by decide), fun B hB => ?_⟩
  · show vU (rz (rz (rz (uU τ 57 0) 58 n) 59 n) 60 n) 57 = _
    rw [rz_at.2.2.2.2.2.2 57 (by decide), rz_at.2.2.2.2.2.2 57 (by decide), rz_at.2.2.2.2.2.2 57 (by decide)]
    rfl
  · rw [if_neg (fun q => nomatch q)]
    exact rz_at.1 x hx
  · show n ≤ vC (rz (rz (rz (uU τ 57 0) 58 n) 59 n) 60 n) 58
    rw [rz_at.2.2.1, rx_Cn (by decide), rz_at.2.2.1, rx_Cn (by decide), rz_at.2.2.1]
    exact rx_cap h27
  · show n ≤ vC (rz (rz (rz (uU τ 57 0) 58 n) 59 n) 60 n) 59
    rw [rz_at.2.2.1, rx_Cn (by decide), rz_at.2.2.1]
    exact rx_cap h27
  · show n ≤ vC (rz (rz (rz (uU τ 57 0) 58 n) 59 n) 60 n) 60
    rw [rz_at.2.2.1]
    exact rx_cap h27
  · rw [c 57 (by decide) (by decide) (by decide)]; exact hC
  · have k : Rm B (uU τ 57 0) := hB.c rfl
    exact (((k.rz (by decide) (Or.inl hn)).rz (by decide) (Or.inl hn)).rz (by decide) (Or.inl hn))
/-- the first search -/
theorem y_se1 {G : gG} {fF fN fE fM : sS → List Int32 → Int32} {V q : Nat → Prop} {τ : sS} {el : Nat → List (Nat × Nat)} (hG : gOk G) (hS : ∀ υ, srel τ υ → gSt G fF fN fE fM υ) (hq : ∀ υ, srel τ υ → ∀ x, V x → (w_so fM υ (nI x) = 0 ↔ ¬ q x)) (hF : ∀ x, x < GN G → GF G x = true → V x) (hV : ∀ x, V x → ∀ s, s < GL G → ∀ t, t ∈ GS G x s → V t) (hel : ∀ v, V v → (el v).map e2k = glt G v) (hC : vC τ 57 ≤ 270000) : sq τ (w_se fF fN fE fM (GL G) (GN G) τ (-1)).2.2 ∧ ((w_fa (w_se fF fN fE fM (GL G) (GN G) τ (-1)) = -1 ∧ ∀ x, x ∈ (bA el 3001 0 (bI (GF G) (GN G) 0 bS0)).1 → ¬ q x) ∨ ∃ x S', w_fa (w_se fF fN fE fM (GL G) (GN G) τ (-1)) = nI x ∧ stp (GN G) q S' (bA el 3001 0 (bI (GF G) (GN G) 0 bS0)) x (w_se fF fN fE fM (GL G) (GN G) τ (-1)).2.2) := by
  obtain ⟨i1, i2⟩ := w_inP (τ := τ) hG.1 hC
  have hK0 : bK bS0 := ⟨List.nodup_nil, fun x hx => (nomatch hx), fun i w hi => (nomatch hi)⟩
  have I := y_wa hG hS hq hF (GN G) 0 bS0 (w_in τ (GN G)) (by omega) i2.1 i1 hK0 (fun x hx => (nomatch hx)) (fun x hx => (nomatch hx))
  unfold w_se
  rcases I with ⟨τ', a1, a2, a3, a4, a5⟩ | ⟨x, τ', S', a1, a2, a3⟩
  · rw [a1, if_neg (show ¬ ((false, (0 : Int32), τ') : Bool × Int32 × sS).1 = true from Bool.false_ne_true)]
    rcases y_wb hG hS hq hV hel (GN G) 3001 0 _ τ' (by omega) (by omega) (Nat.zero_le _) (i2.1.tr a2.1) a3 a4 a5 with ⟨τ2, j1, j2, j3⟩ | ⟨x, τ2, S', j1, j2, j3⟩
    · show sq τ (w_b fN fE fM (GL G) (-1) (GN G) 0 τ').2.2 ∧ _
      rw [j1]
      exact ⟨(i2.tr a2).tr j2, Or.inl ⟨rfl, j3⟩⟩
    · show sq τ (w_b fN fE fM (GL G) (-1) (GN G) 0 τ').2.2 ∧ _
      rw [j1]
      exact ⟨(i2.tr a2).tr j2, Or.inr ⟨x, S', rfl, j3⟩⟩
  · rw [a1, if_pos rfl]
    exact ⟨i2.tr a2, Or.inr ⟨x, S', rfl, a3.1, a3.2.1, a3.2.2.1.tr (bX_bA _ _ _), a3.2.2.2⟩⟩
/-! from home -/
def bHF (h v : Nat) : List (Nat × Nat) → bS → Option Nat × bS
  | [], S => (none, S)
  | e :: l, S => if e.2 = h then (some e.1, S) else bHF h v l (bm e.2 (some (v, e.1)) S)
theorem bHE_F {h v : Nat} : ∀ (l : List (Nat × Nat)) (S : bS), bHE h v l S = bHF h v (l.map e2k) S
  | [], S => rfl
  | e :: l, S => by
    rw [bHE, List.map_cons, bHF, bHE_F l]
    rfl
theorem bHF_a {h v : Nat} : ∀ (l m : List (Nat × Nat)) (S : bS), bHF h v (l ++ m) S = match (bHF h v l S).1 with
    | some s => (some s, (bHF h v l S).2)
    | none => bHF h v m (bHF h v l S).2
  | [], m, S => rfl
  | e :: l, m, S => by
    show bHF h v (e :: (l ++ m)) S = _
    rw [bHF, bHF]
    by_cases c : e.2 = h
    · rw [if_pos c, if_pos c]
    · rw [if_neg c, if_neg c]
      exact bHF_a l m _
/-- home is come back to: what the component holds then -/
def hom (n h : Nat) (S : bS) (w : Nat × Nat) (τ : sS) : Prop := bK S ∧ w.1 ∈ S.1 ∧ w.2 < 3 ∧ S.2 h = none ∧ cPa S τ ∧ vI τ 58 h = nI w.1 ∧ vI τ 59 h = nI w.2 ∧ vI τ 60 h = nI ((wyO S w.1).length + 2)
theorem y_hi {G : gG} {fF fN fE fM : sS → List Int32 → Int32} {σ1 : sS} (hG : gOk G) (h10 : GN G ≤ 1000) (hS : ∀ τ, srel σ1 τ → gSt G fF fN fE fM τ) {h v s : Nat} (hh : h < GN G) (hv : v < GN G) (hs : s < GL G) : ∀ (k i : Nat) (S : bS) (τ : sS), i + k = (GS G v s).length → srel σ1 τ → rCB (GN G) S τ → bK S → v ∈ S.1 → h ∈ S.1 → S.2 h = none → match (bHF h v (((GS G v s).drop i).map (fun t => (s, t))) S).1 with
    | none => ∃ τ', w_i fE fM (nI v) (nI s) (nI h) k i τ = (false, 0, τ') ∧ sq τ τ' ∧ rCB (GN G) (bHF h v (((GS G v s).drop i).map (fun t => (s, t))) S).2 τ' ∧ bK (bHF h v (((GS G v s).drop i).map (fun t => (s, t))) S).2
    | some c => ∃ τ', w_i fE fM (nI v) (nI s) (nI h) k i τ = (true, nI h, τ') ∧ sq τ τ' ∧ hom (GN G) h (bHF h v (((GS G v s).drop i).map (fun t => (s, t))) S).2 (v, c) τ' := by
  intro k
  induction k with
  | zero =>
    intro i S τ hi hsr hR hK hvS hhS hhn
    rw [List.drop_eq_nil_of_le (by omega)]
    exact ⟨τ, rfl, sq.rf, hR, hK⟩
  | succ k ih =>
    intro i S τ hi hsr hR hK hvS hhS hhn
    have hi' : i < (GS G v s).length := by omega
    obtain ⟨-, -, g3⟩ := hS τ hsr v hv
    have eE := (g3 s hs).2 i hi'
    have tm : (GS G v s).getD i 0 ∈ GS G v s := getD_mem hi'
    have dr : (GS G v s).drop i = (GS G v s).getD i 0 :: (GS G v s).drop (i + 1) := by
      rw [List.drop_eq_getElem_cons hi', List.getD_eq_getElem?_getD, List.getElem?_eq_getElem hi']
      rfl
    have tn := (hG.2.2 v hv s hs).2 _ tm
    have n3 := hG.1
    have l3 := hG.2.1
    rw [dr]
    generalize (GS G v s).getD i 0 = t at eE tm tn
    rw [w_i, eE, List.map_cons, bHF]
    have e60 : rg τ 60 (nI t) = if t ∈ S.1 then nI ((wyO S t).length + 1) else 0 := by
      rw [rg_nI (by omega)]; exact hR.2.2.1 t tn
    have hlen := hK.len
    by_cases z : t = h
    · rw [if_pos (show ((s, t) : Nat × Nat).2 = h from z)]
      have c0 : rg τ 60 (nI t) = 0 ∨ nI t = nI h := Or.inr (by rw [z])
      have eh : w_ht fM (w_s1 τ (nI v) (nI s) (nI t)) (nI h) (nI t) = 1 := by
        unfold w_ht
        rw [if_pos (by rw [z])]
      rw [if_pos c0, eh, if_neg (by decide), z]
      obtain ⟨a1, a2, a3, a4, ⟨a5, a6, a7⟩, a8, a9⟩ := hR
      have hlt := nodup_len hK.1 a9
      obtain ⟨b1, b2, b3, b4, b5, b6, b7, b8, b9, b10, b11⟩ := y_s1e (n := GN G) (v := v) (s := s) (t := h) (by omega) a1 a8 a5 a6 a7 hh n3 (by omega)
      show ∃ τ', (true, nI h, w_s1 τ (nI v) (nI s) (nI h)) = (true, nI h, τ') ∧ sq τ τ' ∧ hom (GN G) h S (v, s) τ'
      refine ⟨_, rfl, ⟨w_s1_ok.1, b9, b10, b6 61 (by decide), b11⟩, hK, hvS, by show s < 3; omega, hhn, fun x w hx hw => ?_, ?_, ?_, ?_⟩
      · have c : x ≠ h := fun c => by rw [c, hhn] at hw; exact nomatch hw
        rw [b3, b4, if_neg c, if_neg c]
        exact a4 x w hx hw
      · rw [b3, if_pos rfl]
      · rw [b4, if_pos rfl]
      · rw [b5, if_pos rfl, a3 v hv, if_pos hvS, nI_1]
    · rw [if_neg (show ¬ ((s, t) : Nat × Nat).2 = h from z)]
      have zn : ¬ nI t = nI h := fun q => z (nI_ij (by omega) (by omega) q)
      by_cases c : t ∈ S.1
      · have c0 : ¬ (rg τ 60 (nI t) = 0 ∨ nI t = nI h) := by
          rw [e60, if_pos c]
          have := wyO_le hK c
          rintro (y | y)
          · have := (nI_k0 (by omega)).mp y; omega
          · exact zn y
        rw [if_neg c0, show bm ((s, t) : Nat × Nat).2 (some (v, ((s, t) : Nat × Nat).1)) S = S from bm_old c]
        exact ih (i + 1) S τ (by omega) hsr hR hK hvS hhS hhn
      · have c0 : rg τ 60 (nI t) = 0 ∨ nI t = nI h := Or.inl (by rw [e60, if_neg c])
        rw [if_pos c0]
        obtain ⟨r1, r2⟩ := hR.s1 (s := s) hK n3 hvS tn c (by omega)
        have hK2 := bK_bm hK (x := t) (w := some (v, s)) (by omega) (fun y hy => by rw [← Option.some.inj hy]; exact ⟨hvS, by omega⟩)
        have eh : w_ht fM (w_s1 τ (nI v) (nI s) (nI t)) (nI h) (nI t) = 0 := by
          unfold w_ht
          rw [if_neg zn, if_neg (nI_n1' (by omega))]
        rw [eh, if_pos rfl]
        have I := ih (i + 1) (bm t (some (v, s)) S) _ (by omega) (hsr.tr r2.1) r1 hK2 (bX_bm.m hvS) (bX_bm.m hhS) ((bX_bm.2 h hhS).trans hhn)
        revert I
        show (match (bHF h v (((GS G v s).drop (i + 1)).map (fun t => (s, t))) (bm t (some (v, s)) S)).1 with
          | none => _
          | some c => _) → (match (bHF h v (((GS G v s).drop (i + 1)).map (fun t => (s, t))) (bm t (some (v, s)) S)).1 with
          | none => _
          | some c => _)
        cases (bHF h v (((GS G v s).drop (i + 1)).map (fun t => (s, t))) (bm t (some (v, s)) S)).1 with
        | none => exact fun ⟨τ', i1, i2, i3⟩ => ⟨τ', i1, r2.tr i2, i3⟩
        | some c => exact fun ⟨τ', i1, i2, i3⟩ => ⟨τ', i1, r2.tr i2, i3⟩
theorem bHF_n {h v : Nat} : ∀ (l : List (Nat × Nat)) (S : bS), bX S (bHF h v l S).2
  | [], S => bX.rf
  | e :: l, S => by
    rw [bHF]
    by_cases c : e.2 = h
    · rw [if_pos c]; exact bX.rf
    · rw [if_neg c]; exact bX_bm.tr (bHF_n l _)
theorem y_ho {G : gG} {fF fN fE fM : sS → List Int32 → Int32} {σ1 : sS} (hG : gOk G) (h10 : GN G ≤ 1000) (hS : ∀ τ, srel σ1 τ → gSt G fF fN fE fM τ) {h v : Nat} (hh : h < GN G) (hv : v < GN G) : ∀ (k s : Nat) (S : bS) (τ : sS), s + k = GL G → srel σ1 τ → rCB (GN G) S τ → bK S → v ∈ S.1 → h ∈ S.1 → S.2 h = none → match (bHF h v (gll G v k s) S).1 with
    | none => ∃ τ', w_o fN fE fM (nI v) (nI h) k s τ = (false, 0, τ') ∧ sq τ τ' ∧ rCB (GN G) (bHF h v (gll G v k s) S).2 τ' ∧ bK (bHF h v (gll G v k s) S).2
    | some c => ∃ τ', w_o fN fE fM (nI v) (nI h) k s τ = (true, nI h, τ') ∧ sq τ τ' ∧ hom (GN G) h (bHF h v (gll G v k s) S).2 (v, c) τ' := by
  intro k
  induction k with
  | zero =>
    intro s S τ _ hsr hR hK hvS hhS hhn
    exact ⟨τ, rfl, sq.rf, hR, hK⟩
  | succ k ih =>
    intro s S τ hs hsr hR hK hvS hhS hhn
    have hsL : s < GL G := by omega
    obtain ⟨-, -, g3⟩ := hS τ hsr v hv
    have eN := (g3 s hsL).1
    have gl := (hG.2.2 v hv s hsL).1
    have gf : g_F fN τ (nI v) (nI s) = (GS G v s).length := by
      unfold g_F
      rw [eN, nI_clamp (by omega)]
    rw [w_o, gf, gll, bHF_a]
    have I := y_hi (fM := fM) hG h10 hS hh hv hsL (GS G v s).length 0 S τ (by omega) hsr hR hK hvS hhS hhn
    rw [List.drop_zero] at I
    have hX := bHF_n (h := h) (v := v) ((GS G v s).map (fun t => (s, t))) S
    revert I
    cases hz : (bHF h v ((GS G v s).map (fun t => (s, t))) S).1 with
    | none =>
      rintro ⟨τ', i1, i2, i3, i4⟩
      rw [i1, if_neg (show ¬ ((false, (0 : Int32), τ') : Bool × Int32 × sS).1 = true from Bool.false_ne_true)]
      have I2 := ih (s + 1) _ τ' (by omega) (hsr.tr i2.1) i3 i4 (hX.m hvS) (hX.m hhS) ((hX.2 h hhS).trans hhn)
      revert I2
      show (match (bHF h v (gll G v k (s + 1)) (bHF h v ((GS G v s).map (fun t => (s, t))) S).2).1 with
        | none => _
        | some c => _) → (match (bHF h v (gll G v k (s + 1)) (bHF h v ((GS G v s).map (fun t => (s, t))) S).2).1 with
        | none => _
        | some c => _)
      cases (bHF h v (gll G v k (s + 1)) (bHF h v ((GS G v s).map (fun t => (s, t))) S).2).1 with
      | none => exact fun ⟨τ2, j1, j2, j3⟩ => ⟨τ2, j1, i2.tr j2, j3⟩
      | some c => exact fun ⟨τ2, j1, j2, j3⟩ => ⟨τ2, j1, i2.tr j2, j3⟩
    | some c =>
      rintro ⟨τ', i1, i2, i3⟩
      rw [i1, if_pos rfl]
      exact ⟨τ', rfl, i2, i3⟩
theorem y_hb {G : gG} {fF fN fE fM : sS → List Int32 → Int32} {V : Nat → Prop} {σ1 : sS} {el : Nat → List (Nat × Nat)} {h : Nat} (hG : gOk G) (h10 : GN G ≤ 1000) (hS : ∀ τ, srel σ1 τ → gSt G fF fN fE fM τ) (hV : ∀ x, V x → ∀ s, s < GL G → ∀ t, t ∈ GS G x s → V t) (hel : ∀ v, V v → (el v).map e2k = glt G v) (hh : h < GN G) (hO : bO V el) : ∀ (N m k : Nat) (S : bS) (τ : sS) (w : Nat × Nat), GN G ≤ m + k → srel σ1 τ → rCB (GN G) S τ → bK S → (∀ x, x ∈ S.1 → V x) → h ∈ S.1 → S.2 h = none → (bHA el h N k S).1 = some w → ∃ τ', w_b fN fE fM (GL G) (nI h) m k τ = (true, nI h, τ') ∧ sq τ τ' ∧ hom (GN G) h (bHA el h N k S).2 w τ' := by
  intro N
  induction N with
  | zero => intro m k S τ w _ _ _ _ _ _ _ hw; exact nomatch hw
  | succ N ih =>
    intro m k S τ w hm hsr hR hK hVS hhS hhn hw
    rw [bHA] at hw ⊢
    have hl := nodup_len hK.1 hR.2.2.2.2.2.2
    have hl2 := hK.len
    have n3 := hG.1
    by_cases c : k < S.1.length
    · rw [if_pos c] at hw ⊢
      obtain ⟨m', rfl⟩ : ∃ m', m = m' + 1 := ⟨m - 1, by omega⟩
      rw [w_b, hR.1, if_neg (nI_ge c (by omega)), rg_nI (by omega), hR.2.1 k c]
      have pm := getD_mem c
      generalize S.1.getD k 0 = p at pm hw ⊢
      have pV := hVS p pm
      have pn := hR.2.2.2.2.2.2 p pm
      obtain ⟨b1, b2, b3⟩ := bHE_V (V := V) (h := h) (el p) S hK hVS pm (fun e he => ⟨((hO.2 _ pV).2 e he).2, hO.1 _ ((hO.2 _ pV).2 e he).2, ((hO.2 _ pV).2 e he).1⟩)
      have hX := (bHE_n (h := h) (v := p) (el p) S).2.1
      have I := y_ho (fM := fM) hG h10 hS hh pn (GL G) 0 S τ (by omega) hsr hR hK pm hhS hhn
      have eF : bHE h p (el p) S = bHF h p (gll G p (GL G) 0) S := by
        rw [bHE_F, hel p pV]; rfl
      rw [← eF] at I
      have I : match (bHE h p (el p) S).1 with
        | none => ∃ τ', w_sf fN fE fM (GL G) τ (nI p) (nI h) = (false, 0, τ') ∧ sq τ τ' ∧ rCB (GN G) (bHE h p (el p) S).2 τ' ∧ bK (bHE h p (el p) S).2
        | some c => ∃ τ', w_sf fN fE fM (GL G) τ (nI p) (nI h) = (true, nI h, τ') ∧ sq τ τ' ∧ hom (GN G) h (bHE h p (el p) S).2 (p, c) τ' := I
      revert I hw
      cases hz : (bHE h p (el p) S).1 with
      | none =>
        rintro hw ⟨τ', i1, i2, i3, i4⟩
        rw [i1]
        have e : w_fa ((false, 0, τ') : Bool × Int32 × sS) = -1 := rfl
        rw [if_pos e]
        obtain ⟨τ2, j1, j2, j3⟩ := ih m' (k + 1) _ τ' w (by omega) (hsr.tr i2.1) i3 i4 b2 (hX.m hhS) ((hX.2 h hhS).trans hhn) hw
        exact ⟨τ2, j1, i2.tr j2, j3⟩
      | some s =>
        rintro hw ⟨τ', i1, i2, i3⟩
        rw [i1]
        have e : w_fa ((true, nI h, τ') : Bool × Int32 × sS) = nI h := rfl
        rw [e, if_neg (nI_n1' (by omega))]
        have hw : (p, s) = w := Option.some.inj hw
        rw [← hw]
        exact ⟨τ', rfl, i2, i3⟩
    · rw [if_neg c] at hw; exact nomatch hw
/-- home alone is first -/
theorem y_hA {fF fM : sS → List Int32 → Int32} {n h : Nat} (hn : n ≤ 3000) (hh : h < n) : ∀ (k i : Nat) (τ : sS), i + k = n → (i ≤ h → rCB n bS0 τ) → (h < i → rCB n (bH0 h) τ) → ∃ τ', w_a fF fM (nI h) k i τ = (false, 0, τ') ∧ sq τ τ' ∧ rCB n (bH0 h) τ' := by
  intro k
  induction k with
  | zero => intro i τ hi _ h2; exact ⟨τ, rfl, sq.rf, h2 (by omega)⟩
  | succ k ih =>
    intro i τ hi h1 h2
    rw [w_a]
    have ec : w_c fF τ (nI h) (nI i) = if nI i = nI h then 1 else 0 := if_neg (nI_n1' (by omega))
    have eh : w_h fM (w_q τ (nI i)) (nI h) (nI i) = 0 := if_neg (nI_n1' (by omega))
    rw [ec]
    by_cases c : i = h
    · rw [if_pos (show nI i = nI h by rw [c]), if_neg (by decide), eh, if_pos rfl, c]
      have hK0 : bK bS0 := ⟨List.nodup_nil, fun x hx => (nomatch hx), fun i w hi => (nomatch hi)⟩
      obtain ⟨r1, r2⟩ := (h1 (by omega)).q hK0 hn hh (fun q => nomatch q)
      rw [← c]
      rw [← c] at r1 r2
      obtain ⟨τ', i1, i2, i3⟩ := ih (i + 1) _ (by omega) (fun q => by omega) (fun _ => by rw [← c]; exact r1)
      exact ⟨τ', by rw [← c] at i1; exact i1, r2.tr i2, by rw [c]; exact i3⟩
    · rw [if_neg (fun q => c (nI_ij (by omega) (by omega) q)), if_pos rfl]
      exact ih (i + 1) τ (by omega) (fun q => h1 (by omega)) (fun q => h2 (by omega))
theorem y_se2 {G : gG} {fF fN fE fM : sS → List Int32 → Int32} {V : Nat → Prop} {τ : sS} {el : Nat → List (Nat × Nat)} {h : Nat} {w : Nat × Nat} (hG : gOk G) (h10 : GN G ≤ 1000) (hS : ∀ υ, srel τ υ → gSt G fF fN fE fM υ) (hV : ∀ x, V x → ∀ s, s < GL G → ∀ t, t ∈ GS G x s → V t) (hel : ∀ v, V v → (el v).map e2k = glt G v) (hO : bO V el) (hh : h < GN G) (hhV : V h) (hC : vC τ 57 ≤ 270000) (hw : (bHA el h 3001 0 (bH0 h)).1 = some w) : sq τ (w_se fF fN fE fM (GL G) (GN G) τ (nI h)).2.2 ∧ hom (GN G) h (bHA el h 3001 0 (bH0 h)).2 w (w_se fF fN fE fM (GL G) (GN G) τ (nI h)).2.2 := by
  obtain ⟨i1, i2⟩ := w_inP (τ := τ) hG.1 hC
  have h3 := hO.1 h hhV
  obtain ⟨k1, k2, k3⟩ := bH0_ok (V := V) h3 hhV
  obtain ⟨τ', a1, a2, a3⟩ := y_hA (fF := fF) (fM := fM) hG.1 hh (GN G) 0 (w_in τ (GN G)) (by omega) (fun _ => i1) (fun q => absurd q (Nat.not_lt_zero _))
  have hn0 : (bH0 h).2 h = none := by
    have e : bH0 h = (([] : List Nat) ++ [h], pu (fun _ => none) h none) := bm_new (S := ([], fun _ => none)) (fun q : h ∈ ([] : List Nat) => nomatch q)
    rw [e]; show pu (fun _ => none) h none h = none; exact pu_s
  unfold w_se
  rw [a1, if_neg (show ¬ ((false, (0 : Int32), τ') : Bool × Int32 × sS).1 = true from Bool.false_ne_true)]
  obtain ⟨τ2, j1, j2, j3⟩ := y_hb (fM := fM) hG h10 hS hV hel hh hO 3001 (GN G) 0 (bH0 h) τ' w (by omega) (i2.1.tr a2.1) a3 k1 k2 k3 hn0 hw
  show sq τ (w_b fN fE fM (GL G) (nI h) (GN G) 0 τ').2.2 ∧ hom (GN G) h _ w (w_b fN fE fM (GL G) (nI h) (GN G) 0 τ').2.2
  rw [j1]
  exact ⟨(i2.tr a2).tr j2, j3⟩
