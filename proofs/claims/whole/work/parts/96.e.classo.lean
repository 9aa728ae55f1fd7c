/-! words that go round: the component's reading -/
def cRw (r : Nat) (u : List Nat) (σ : sS) : Prop := u.length ≤ 10 ∧ vU σ r = nI u.length ∧ vC σ r = 10 ∧ ∀ j, j < u.length → vI σ r j = nI (u.getD j 0)
/-- what reading into row r leaves alone -/
def fW (r : Nat) (σ τ : sS) : Prop := (∀ a j, a ≠ 1 → a ≠ r → vI τ a j = vI σ a j) ∧ vI τ 1 3 = vI σ 1 3 ∧ (∀ a, a ≠ r → vU τ a = vU σ a) ∧ τ.2.1 = σ.2.1 ∧ τ.2.2.1 = σ.2.2.1 ∧ τ.2.2.2.2 = σ.2.2.2.2
theorem fW.rf {r : Nat} {σ : sS} : fW r σ σ := ⟨fun _ _ _ _ => rfl, rfl, fun _ _ => rfl, rfl, rfl, rfl⟩
theorem fW.tr {r : Nat} {σ τ υ : sS} (h : fW r σ τ) (k : fW r τ υ) : fW r σ υ := ⟨fun a j n m => (k.1 a j n m).trans (h.1 a j n m), k.2.1.trans h.2.1, fun a n => (k.2.2.1 a n).trans (h.2.2.1 a n), k.2.2.2.1.trans h.2.2.2.1, k.2.2.2.2.1.trans h.2.2.2.2.1, k.2.2.2.2.2.trans h.2.2.2.2.2⟩
theorem fT.W {r : Nat} {σ τ : sS} (h : fT σ τ) : fW r σ τ := by
  obtain ⟨h1, -, h3, h4⟩ := h
  refine ⟨fun a j n _ => h1 a j n, h3, fun a _ => ?_, by rw [h4], by rw [h4], by rw [h4]⟩
  show τ.2.2.2.1 a = σ.2.2.2.1 a
  rw [h4]
theorem cRw.ft {r : Nat} {u : List Nat} {σ τ : sS} (h : cRw r u σ) (f : fT σ τ) (hr : r ≠ 1) : cRw r u τ := by
  obtain ⟨f1, -, -, f4⟩ := f
  obtain ⟨a1, a2, a3, a4⟩ := h
  refine ⟨a1, ?_, ?_, fun j hj => (f1 r j hr).trans (a4 j hj)⟩
  · show τ.2.2.2.1 r = _; rw [f4]; exact a2
  · show τ.2.2.2.2.1 r = _; rw [f4]; exact a3
theorem y_push {r c : Nat} {u : List Nat} {σ : sS} (h : cRw r u σ) (hl : u.length < 10) : L_X7_push r (nI c) σ = some (uU (uI σ r u.length (nI c)) r (nI (u.length + 1))) := by
  obtain ⟨a1, a2, a3, a4⟩ := h
  have hx : rx σ r (u.length + 1) = σ := by
    unfold rx
    rw [if_neg (fun q => by have := q.1; omega)]
  unfold L_X7_push uokb rqu rq
  rw [a2, a3, nI_clamp (by omega), hx, a3, if_pos hl]
  have hc : clm (nI u.length) 270000 = true := by
    unfold clm
    rw [nI_clamp (by omega)]
    simp [nI_pos' (show u.length < 2 ^ 31 by omega)]
    omega
  rw [hc]
  rfl
theorem cRw.ap {r c : Nat} {u : List Nat} {σ : sS} (h : cRw r u σ) (hl : u.length < 10) : cRw r (u ++ [c]) (uU (uI σ r u.length (nI c)) r (nI (u.length + 1))) := by
  obtain ⟨a1, a2, a3, a4⟩ := h
  refine ⟨by rw [List.length_append]; show u.length + 1 ≤ 10; omega, ?_, a3, fun j hj => ?_⟩
  · show (if r = r then _ else _) = _
    rw [if_pos rfl, List.length_append]
    rfl
  · rw [List.length_append] at hj
    have hj : j < u.length + 1 := hj
    show vI (uI σ r u.length (nI c)) r j = _
    by_cases d : j = u.length
    · rw [d, vI_e]
      simp
    · rw [vI_q (fun q => d q.2), a4 j (by omega), List.getD_eq_getElem?_getD, List.getD_eq_getElem?_getD, List.getElem?_append_left (show j < u.length by omega)]
theorem tkD.u {b : Nat → Int32} {e q r k : Nat} {x y : Int32} {σ : sS} (h : tkD b e q σ) (hr : 3 ≤ r) : tkD b e q (uU (uI σ r k x) r y) := by
  have n : ∀ {c j : Nat}, c < 3 → vI (uU (uI σ r k x) r y) c j = vI σ c j := fun {c j} hc => vI_q (fun q => by have := q.1; omega)
  obtain ⟨h1, h2, h3, h4, h5, h6, ⟨p, p1, p2, p3⟩, h8⟩ := h
  exact ⟨fun j hj => (n (by decide)).trans (h1 j hj), (n (by decide)).trans h2, h3, h4, (n (by decide)).trans h5, (n (by decide)).trans h6, ⟨p, p1, (n (by decide)).trans p2, p3⟩, fun c => (n (by decide)).trans (h8 c)⟩
theorem fW.p {r k : Nat} {x y : Int32} {σ : sS} (hr : 3 ≤ r) : fW r σ (uU (uI σ r k x) r y) := by
  refine ⟨fun a j _ m => vI_q (fun q => m q.1), vI_q (fun q => by have := q.1; omega), fun a m => ?_, rfl, rfl, rfl⟩
  show (if a = r then y else vU σ a) = _
  rw [if_neg m]
theorem y_wd2 {b : Nat → Int32} {e q G F r : Nat} (hr : 3 ≤ r) (hG : G ≤ 3) (hk : tkk b e q = 2) (kx : sS → Option (Int32 × sS)) : ∀ (n j f : Nat) (u : List Nat) (σ : sS), q + j + n = tke b e q → n < f → tkD b e q σ → vI σ 1 7 = 0 → cRw r u σ → match sWd b G q n j u with
    | .inl (k, w) => ∃ τ, L_X5_readWord_2 F r (nI G) kx f (nI j) σ = some (0, τ) ∧ vI τ 1 7 = k ∧ vI τ 1 8 = nI w ∧ fW r σ τ
    | .inr v => ∃ τ, L_X5_readWord_2 F r (nI G) kx f (nI j) σ = kx τ ∧ tkD b e q τ ∧ vI τ 1 7 = 0 ∧ cRw r v τ ∧ fW r σ τ := by
  intro n
  induction n with
  | zero =>
    intro j f u σ hj hf h h7 hu
    obtain ⟨f, rfl⟩ : ∃ g, f = g + 1 := ⟨f - 1, by omega⟩
    obtain ⟨-, -, -, k1, k2, k3⟩ := tkk_2 hk h.2.2.2.1
    have hl := h.2.2.2.2.2.2.2 ((ck_2 h.2.2.2.1).mpr hk)
    refine ⟨σ, ?_, h, h7, hu, fW.rf⟩
    rw [L_X5_readWord_2, hl, if_pos (nI_le (by omega) (by omega))]
  | succ n ih =>
    intro j f u σ hj hf h h7 hu
    obtain ⟨f, rfl⟩ : ∃ g, f = g + 1 := ⟨f - 1, by omega⟩
    obtain ⟨-, -, -, k1, k2, k3⟩ := tkk_2 hk h.2.2.2.1
    have hl := h.2.2.2.2.2.2.2 ((ck_2 h.2.2.2.1).mpr hk)
    have he := h.2.2.1
    have h6 := tke_le (b := b) h.2.2.2.1
    obtain ⟨x, ex, x1, x2⟩ := kSm_n (k2 j (by omega))
    have e26 := (c26 x (by omega) x1).2
    have hul := hu.1
    rw [L_X5_readWord_2, hl, if_neg (nI_ge (by omega) (by omega)), h.2.2.2.2.1, nI_add, y_by h.1 h.2.1 he (by omega), if_pos (show q + j < e by omega), ex, e26, hu.2.1]
    simp only [bnd_s]
    rw [sWd, ex, e26, nI_clamp (by omega)]
    by_cases hc : x - 97 < G
    · rw [if_pos hc, if_pos (nI_lt hc (by omega))]
      by_cases hl : u.length = 10
      · rw [if_pos hl, if_neg (by rw [hl]; decide)]
        exact ⟨_, rfl, rfl, rfl, fT.bl.W⟩
      · rw [if_neg hl, if_pos (show nI u.length < 10 from nI_lt (b := 10) (by omega) (by omega)), y_push hu (by omega), bd_s, nI_1]
        have n1 : ∀ {j : Nat}, vI (uU (uI σ r u.length (nI (x - 97))) r (nI (u.length + 1))) 1 j = vI σ 1 j := fun {j} => vI_q (fun q => by have := q.1; omega)
        have hi := ih (j + 1) f (u ++ [x - 97]) _ (by omega) (by omega) (h.u (k := u.length) (x := nI (x - 97)) (y := nI (u.length + 1)) hr) (n1.trans h7) (hu.ap (by omega))
        cases hs : sWd b G q n (j + 1) (u ++ [x - 97]) with
        | inl k =>
          obtain ⟨k, w⟩ := k
          rw [hs] at hi
          obtain ⟨τ, t1, t2, t3, t4⟩ := hi
          exact ⟨τ, t1, t2, t3, (fW.p hr).tr t4⟩
        | inr v =>
          rw [hs] at hi
          obtain ⟨τ, t1, t2, t3, t4, t5⟩ := hi
          exact ⟨τ, t1, t2, t3, t4, (fW.p hr).tr t5⟩
    · rw [if_neg hc, if_neg (fun c => hc ((nI_ltI (by omega) (by omega)).mp c))]
      exact ⟨_, rfl, rfl, rfl, fT.bl.W⟩
theorem ck_40 {b : Nat → Int32} {e q : Nat} (hq : q ≤ e) {z : Int32} (hz : z = 40 ∨ z = 41) : ckk b e q = z ↔ tkk b e q = 4 ∧ b q = z := by
  rcases hz with rfl | rfl
  · rcases tk_cases (b := b) hq with ⟨-, c, c'⟩ | ⟨-, c, c'⟩ | ⟨-, c, c', -⟩ | ⟨-, c, c', d⟩ | ⟨-, c, c'⟩
    · rw [c, c']; exact ⟨fun h => absurd h (by decide), fun h => absurd h.1 (by decide)⟩
    · rw [c, c']; exact ⟨fun h => absurd h (by decide), fun h => absurd h.1 (by decide)⟩
    · rw [c, c']; exact ⟨fun h => absurd h (by decide), fun h => absurd h.1 (by decide)⟩
    · rw [c, c']
      rcases d with d | d | d <;> rw [d] <;> decide
    · rw [c, c']; exact ⟨fun h => absurd h (by decide), fun h => absurd h.1 (by decide)⟩
  · rcases tk_cases (b := b) hq with ⟨-, c, c'⟩ | ⟨-, c, c'⟩ | ⟨-, c, c', -⟩ | ⟨-, c, c', d⟩ | ⟨-, c, c'⟩
    · rw [c, c']; exact ⟨fun h => absurd h (by decide), fun h => absurd h.1 (by decide)⟩
    · rw [c, c']; exact ⟨fun h => absurd h (by decide), fun h => absurd h.1 (by decide)⟩
    · rw [c, c']; exact ⟨fun h => absurd h (by decide), fun h => absurd h.1 (by decide)⟩
    · rw [c, c']
      rcases d with d | d | d <;> rw [d] <;> decide
    · rw [c, c']; exact ⟨fun h => absurd h (by decide), fun h => absurd h.1 (by decide)⟩
/-- a part is read: letters up to its sign -/
def yPt (b : Nat → Int32) (e r : Nat) (z : Int32) (σ : sS) (x : pE (Nat × List Nat)) (o : Option (Int32 × sS)) : Prop := match x with
  | .inl (k, w) => ∃ τ, o = some (0, τ) ∧ vI τ 1 7 = k ∧ vI τ 1 8 = nI w ∧ fW r σ τ
  | .inr (p, v) => if tkk b e p = 4 ∧ b p = z ∧ (r = 6 ∨ v ≠ []) then ∃ τ, o = some (1, τ) ∧ tkD b e p τ ∧ vI τ 1 7 = 0 ∧ cRw r v τ ∧ fW r σ τ else ∃ τ, o = some (0, τ) ∧ vI τ 1 7 = 1 ∧ vI τ 1 8 = nI p ∧ fW r σ τ
theorem yPt.ft {b : Nat → Int32} {e r : Nat} {z : Int32} {σ τ : sS} {x : pE (Nat × List Nat)} {o : Option (Int32 × sS)} (h : yPt b e r z τ x o) (f : fW r σ τ) : yPt b e r z σ x o := by
  cases x with
  | inl k =>
    obtain ⟨τ, t1, t2, t3, t4⟩ := h
    exact ⟨τ, t1, t2, t3, f.tr t4⟩
  | inr w =>
    obtain ⟨p, v⟩ := w
    have h : if tkk b e p = 4 ∧ b p = z ∧ (r = 6 ∨ v ≠ []) then _ else _ := h
    show if tkk b e p = 4 ∧ b p = z ∧ (r = 6 ∨ v ≠ []) then _ else _
    by_cases c : tkk b e p = 4 ∧ b p = z ∧ (r = 6 ∨ v ≠ [])
    · rw [if_pos c] at h ⊢
      obtain ⟨τ, t1, t2, t3, t4, t5⟩ := h
      exact ⟨τ, t1, t2, t3, t4, f.tr t5⟩
    · rw [if_neg c] at h ⊢
      obtain ⟨τ, t1, t2, t3, t4⟩ := h
      exact ⟨τ, t1, t2, t3, f.tr t4⟩
theorem y_pt9 {b : Nat → Int32} {e G F r : Nat} {z : Int32} (hr : r = 6 ∨ r = 7) (hz : z = 40 ∨ z = 41) (hG : G ≤ 3) (he : e ≤ 400) (hF : 402 < F) : ∀ (n p i f : Nat) (u : List Nat) (σ : sS), tkC b e p σ → vI σ 1 7 = 0 → cRw r u σ → e < tq b e p + n → tq b e p ≤ e → i ≤ tq b e p → n < f → yPt b e r z σ (sWords b e G n (tq b e p) u) (L_X5_readPart_9 F r z (nI G) (fun σ2 => L_X5_readPart_83 F r σ2) f (nI i) σ) := by
  intro n
  induction n with
  | zero => intro p i f u σ _ _ _ hn h1; omega
  | succ n ih =>
    intro p i f u σ h h7 hu hn hq hi hf
    obtain ⟨f, rfl⟩ : ∃ g, f = g + 1 := ⟨f - 1, by omega⟩
    obtain ⟨s1, s2⟩ := y_step h
    have sf : fT σ (t_st e σ) := fT.st
    have s7 : vI (t_st e σ) 1 7 = 0 := h7
    have su := hu.ft sf (by omega)
    rw [L_X5_readPart_9, if_neg (show ¬ (400 : Int32) < nI i from fun c => by have := (nI_ltI (a := 400) (by decide) (by omega)).mp c; omega), s1, bd_s]
    generalize tq b e p = q at s2 hn hq hi
    generalize t_st e σ = ρ at s2 s7 sf su
    refine yPt.ft ?_ sf.W
    have hck := ck_40 (b := b) s2.2.2.2.1 hz
    rw [s2.2.2.2.2.2.1, su.2.1, sWords]
    have main : yPt b e r z ρ (if tkk b e q = 2 then pbd (sWd b G q (tke b e q - q) 0 u) (fun v => sWords b e G n (nx b e q) v) else .inr (q, u)) (L_X5_readPart_52 F r z (nI G) (L_X5_readPart_9 F r z (nI G) (fun σ2 => L_X5_readPart_83 F r σ2) f) (fun σ2 => L_X5_readPart_83 F r σ2) (nI i) ρ) ∨ (tkk b e q = 4 ∧ b q = z ∧ (r = 6 ∨ u ≠ [])) := by
      unfold L_X5_readPart_52
      rw [s2.2.2.2.2.2.1]
      by_cases hk : tkk b e q = 2
      · refine Or.inl ?_
        rw [if_pos hk, if_pos ((ck_2 s2.2.2.2.1).mpr hk)]
        obtain ⟨ql, -, -, k1, k2, k3⟩ := tkk_2 hk s2.2.2.2.1
        have hw := y_wd2 (F := F) (G := G) (r := r) (by omega) hG hk (fun σ1 => some (1, σ1)) (tke b e q - q) 0 F u ρ (by omega) (by omega) s2 s7 su
        unfold L_X5_readWord
        cases hs : sWd b G q (tke b e q - q) 0 u with
        | inl k =>
          obtain ⟨k, w⟩ := k
          rw [hs] at hw
          obtain ⟨τ, t1, t2, t3, t4⟩ := hw
          rw [show L_X5_readWord_2 F r (nI G) (fun σ1 => some (1, σ1)) F 0 ρ = some (0, τ) from t1, bd2_s, if_pos rfl]
          exact ⟨τ, rfl, t2, t3, t4⟩
        | inr v =>
          rw [hs] at hw
          obtain ⟨τ, t1, t2, t3, t4, t5⟩ := hw
          rw [show L_X5_readWord_2 F r (nI G) (fun σ1 => some (1, σ1)) F 0 ρ = some (1, τ) from t1, bd2_s, if_neg i1n0, nI_1]
          have h6 := tke_le (b := b) s2.2.2.2.1
          have h8 := scn_le (P := kBl b) (e := e) (e - tke b e q) (tke b e q) (by omega)
          have h9 : tq b e (tke b e q) = scn (kBl b) e (tke b e q) := rfl
          exact (ih (tke b e q) (i + 1) f v τ (t2.s hk) t3 t4 (by omega) (by omega) (by omega) (by omega)).ft t5
      · rw [if_neg hk, if_neg (fun c => hk ((ck_2 s2.2.2.2.1).mp c))]
        by_cases hc : tkk b e q = 4 ∧ b q = z ∧ (r = 6 ∨ u ≠ [])
        · exact Or.inr hc
        · refine Or.inl ?_
          show if tkk b e q = 4 ∧ b q = z ∧ (r = 6 ∨ u ≠ []) then _ else _
          rw [if_neg hc]
          exact ⟨t_blame ρ 1 (vI ρ 1 5), rfl, rfl, s2.2.2.2.2.1, fT.bl.W⟩
    by_cases hc : tkk b e q = 4 ∧ b q = z ∧ (r = 6 ∨ u ≠ [])
    · rw [if_pos (hck.mpr ⟨hc.1, hc.2.1⟩), if_neg (show ¬ tkk b e q = 2 by rw [hc.1]; decide)]
      have fin : yPt b e r z ρ (.inr (q, u)) (some (1, ρ)) := by
        show if tkk b e q = 4 ∧ b q = z ∧ (r = 6 ∨ u ≠ []) then _ else _
        rw [if_pos hc]
        exact ⟨ρ, rfl, s2, s7, su, fW.rf⟩
      by_cases r6 : r = 6
      · rw [if_pos r6]
        exact fin
      · rw [if_neg r6]
        have hne : u ≠ [] := hc.2.2.resolve_left r6
        have hpos : 0 < u.length := List.length_pos_iff.mpr hne
        have hul := hu.1
        rw [if_neg (show ¬ nI u.length ≤ 0 from nI_ge (a := 0) (by omega) (by omega))]
        exact fin
    · have m := main.resolve_right hc
      by_cases hcz : ckk b e q = z
      · have h2 := hck.mp hcz
        have r6 : ¬ r = 6 := fun c => hc ⟨h2.1, h2.2, Or.inl c⟩
        have hu0 : u = [] := Classical.byContradiction (fun c => hc ⟨h2.1, h2.2, Or.inr c⟩)
        rw [if_pos hcz, if_neg r6, if_pos (show nI u.length ≤ 0 by rw [hu0]; decide)]
        exact m
      · rw [if_neg hcz]
        exact m
theorem y_wp {r : Nat} {σ : sS} (hC : vC σ r = 10) : rz σ r 10 = uU (uZ σ r 10) r 0 := by
  unfold rz rx
  rw [if_neg (fun c => by have := c.1; omega)]
theorem y_part {b : Nat → Int32} {e G F r p : Nat} {z : Int32} {σ : sS} (hr : r = 6 ∨ r = 7) (hz : z = 40 ∨ z = 41) (hG : G ≤ 3) (hF : 402 < F) (h : tkC b e p σ) (h7 : vI σ 1 7 = 0) (hC : vC σ r = 10) : yPt b e r z σ (sWords b e G 401 (tq b e p) []) (L_X5_readPart F r z (nI G) σ) := by
  have he := h.2.2.2.2
  unfold L_X5_readPart
  rw [bnd_s, y_wp hC]
  have n : ∀ {c j : Nat}, c ≠ r → vI (uU (uZ σ r 10) r 0) c j = vI σ c j := by
    intro c j hc
    show (if c = r ∧ j < 10 then 0 else vI σ c j) = _
    rw [if_neg (fun q => hc q.1)]
  have h' : tkC b e p (uU (uZ σ r 10) r 0) := ⟨fun j hj => (n (by omega)).trans (h.1 j hj), (n (by omega)).trans h.2.1, (n (by omega)).trans h.2.2.1, h.2.2.2⟩
  have hu : cRw r [] (uU (uZ σ r 10) r 0) := by
    refine ⟨Nat.zero_le _, ?_, hC, fun j hj => absurd hj (Nat.not_lt_zero j)⟩
    show (if r = r then (0 : Int32) else _) = _
    rw [if_pos rfl]
    rfl
  have hf : fW r σ (uU (uZ σ r 10) r 0) := by
    refine ⟨fun a j _ m => n m, n (by omega), fun a m => ?_, rfl, rfl, rfl⟩
    show (if a = r then (0 : Int32) else vU σ a) = _
    rw [if_neg m]
  have hq := scn_le (P := kBl b) (e := e) (e - p) p (by have := h.2.2.2.1; omega)
  have h9 : tq b e p = scn (kBl b) e p := rfl
  exact (y_pt9 (F := F) hr hz hG he hF 401 p 0 F [] _ h' ((n (by omega)).trans h7) hu (by omega) (by omega) (by omega) (by omega)).ft hf
theorem sWd_len {b : Nat → Int32} {G q : Nat} : ∀ (n j : Nat) (u v : List Nat), sWd b G q n j u = .inr v → v.length = u.length + n := by
  intro n
  induction n with
  | zero =>
    intro j u v h
    rw [sWd] at h
    injection h with h
    rw [h]
    rfl
  | succ n ih =>
    intro j u v h
    rw [sWd] at h
    split at h
    · split at h
      · exact nomatch h
      · have := ih _ _ _ h
        rw [List.length_append] at this
        have : v.length = u.length + 1 + n := this
        omega
    · exact nomatch h
theorem sWords_len {b : Nat → Int32} {e G : Nat} : ∀ (n q : Nat) (u : List Nat) (z : Nat × List Nat), sWords b e G n q u = .inr z → u.length ≤ z.2.length ∧ (tkk b e q = 2 → q < tke b e q → u.length < z.2.length) := by
  intro n
  induction n with
  | zero => intro q u z h; exact nomatch h
  | succ n ih =>
    intro q u z h
    rw [sWords] at h
    by_cases hk : tkk b e q = 2
    · rw [if_pos hk] at h
      obtain ⟨v, hv, h⟩ := pbd_r h
      have h1 := sWd_len _ _ _ _ hv
      have h2 := (ih _ _ _ h).1
      exact ⟨by omega, fun _ hq => by omega⟩
    · rw [if_neg hk] at h
      injection h with h
      rw [← h]
      exact ⟨Nat.le_refl _, fun c => absurd c hk⟩
/-- what the reading of a word leaves alone -/
def fL (σ τ : sS) : Prop := (∀ a j, a ≠ 1 → a ≠ 6 → a ≠ 7 → vI τ a j = vI σ a j) ∧ vI τ 1 3 = vI σ 1 3 ∧ (∀ a, a ≠ 6 → a ≠ 7 → vU τ a = vU σ a) ∧ τ.2.1 = σ.2.1 ∧ τ.2.2.1 = σ.2.2.1 ∧ τ.2.2.2.2 = σ.2.2.2.2
theorem fW.L {r : Nat} {σ τ : sS} (h : fW r σ τ) (hr : r = 6 ∨ r = 7) : fL σ τ := ⟨fun a j h1 h6 h7 => h.1 a j h1 (by omega), h.2.1, fun a h6 h7 => h.2.2.1 a (by omega), h.2.2.2⟩
theorem fL.tr {σ τ υ : sS} (h : fL σ τ) (k : fL τ υ) : fL σ υ := ⟨fun a j n m l => (k.1 a j n m l).trans (h.1 a j n m l), k.2.1.trans h.2.1, fun a n m => (k.2.2.1 a n m).trans (h.2.2.1 a n m), k.2.2.2.1.trans h.2.2.2.1, k.2.2.2.2.1.trans h.2.2.2.2.1, k.2.2.2.2.2.trans h.2.2.2.2.2⟩
def yLs (σ : sS) (x : pE (List Nat × List Nat)) (o : Option (Int32 × sS)) : Prop := match x with
  | .inl (k, w) => ∃ τ, o = some (0, τ) ∧ vI τ 1 7 = k ∧ vI τ 1 8 = nI w ∧ fL σ τ
  | .inr (u, v) => ∃ τ, o = some (1, τ) ∧ vI τ 1 7 = 0 ∧ cRw 6 u τ ∧ cRw 7 v τ ∧ v ≠ [] ∧ fL σ τ
theorem y_lasso {b : Nat → Int32} {e G F p : Nat} {σ : sS} (hG : G ≤ 3) (hF : 402 < F) (h : tkC b e p σ) (h7 : vI σ 1 7 = 0) (hC6 : vC σ 6 = 10) (hC7 : vC σ 7 = 10) : yLs σ (sLasso b e G (tq b e p)) (L_X5_readLasso F (nI G) σ) := by
  have r6 : (6 : Nat) = 6 ∨ (6 : Nat) = 7 := Or.inl rfl
  have r7 : (7 : Nat) = 6 ∨ (7 : Nat) = 7 := Or.inr rfl
  have hp := y_part (G := G) (F := F) r6 (Or.inl rfl) hG hF h h7 hC6
  unfold L_X5_readLasso sLasso
  cases hs : sWords b e G 401 (tq b e p) [] with
  | inl k =>
    obtain ⟨k, w⟩ := k
    rw [hs] at hp
    obtain ⟨τ, t1, t2, t3, t4⟩ := hp
    rw [t1, bd2_s, if_pos rfl]
    exact ⟨τ, rfl, t2, t3, t4.L r6⟩
  | inr z =>
    obtain ⟨q, u⟩ := z
    rw [hs] at hp
    have hp : if tkk b e q = 4 ∧ b q = 40 ∧ ((6 : Nat) = 6 ∨ u ≠ []) then _ else _ := hp
    show yLs σ (if tkk b e q = 4 ∧ b q = 40 then sRound b e G (nx b e q) u else .inl (1, q)) _
    by_cases hc : tkk b e q = 4 ∧ b q = 40
    · rw [if_pos ⟨hc.1, hc.2, Or.inl rfl⟩] at hp
      rw [if_pos hc]
      obtain ⟨τ, t1, t2, t3, t4, t5⟩ := hp
      rw [t1, bd2_s, if_neg i1n0]
      have hC7' : vC τ 7 = 10 := by show τ.2.2.2.2.1 7 = 10; rw [t5.2.2.2.2.2]; exact hC7
      have hck : ckk b e q = 40 := (ck_40 t2.2.2.2.1 (Or.inl rfl)).mpr hc
      have t2' : tkC b e (tke b e q) τ := t2.c (by rw [hck]; decide)
      have hp2 := y_part (G := G) (F := F) r7 (Or.inr rfl) hG hF t2' t3 hC7'
      rw [show tq b e (tke b e q) = nx b e q from rfl] at hp2
      have hq1 : nx b e q ≤ e := (nx_le t2.2.2.2.1).2
      generalize nx b e q = q1 at hp2 hq1
      unfold sRound
      cases hs2 : sWords b e G 401 q1 [] with
      | inl k =>
        obtain ⟨k, w⟩ := k
        rw [hs2] at hp2
        obtain ⟨υ, u1, u2, u3, u4⟩ := hp2
        have hk : tkk b e q1 = 2 := Classical.byContradiction (fun c => by rw [sWords, if_neg c] at hs2; exact nomatch hs2)
        rw [if_pos hk, u1, bd2_s, if_pos rfl]
        exact ⟨υ, rfl, u2, u3, (t5.L r6).tr (u4.L r7)⟩
      | inr z =>
        obtain ⟨q3, v⟩ := z
        have hlen := (sWords_len _ _ _ _ hs2).2
        rw [hs2] at hp2
        have hp2 : if tkk b e q3 = 4 ∧ b q3 = 41 ∧ ((7 : Nat) = 6 ∨ v ≠ []) then _ else _ := hp2
        by_cases hk : tkk b e q1 = 2
        · obtain ⟨-, -, -, -, -, k3⟩ := tkk_2 hk hq1
          have hv : v ≠ [] := fun c => by
            have := hlen hk k3
            rw [c] at this
            exact absurd this (Nat.lt_irrefl _)
          rw [if_pos hk]
          show yLs σ (if tkk b e q3 = 4 ∧ b q3 = 41 then (if tkk b e (nx b e q3) = 1 then .inr (u, v) else .inl (1, nx b e q3)) else .inl (1, q3)) _
          by_cases hc3 : tkk b e q3 = 4 ∧ b q3 = 41
          · rw [if_pos ⟨hc3.1, hc3.2, Or.inr hv⟩] at hp2
            rw [if_pos hc3]
            obtain ⟨υ, u1, u2, u3, u4, u5⟩ := hp2
            rw [u1, bd2_s, if_neg i1n0]
            have hck3 : ckk b e q3 = 41 := (ck_40 u2.2.2.2.1 (Or.inr rfl)).mpr hc3
            obtain ⟨s1, s2⟩ := y_step (u2.c (by rw [hck3]; decide))
            have sf : fT υ (t_st e υ) := fT.st
            have s7 : vI (t_st e υ) 1 7 = 0 := u3
            have c6 : cRw 6 u (t_st e υ) := by
              obtain ⟨a1, a2, a3, a4⟩ := t4
              refine cRw.ft ⟨a1, (u5.2.2.1 6 (by decide)).trans a2, ?_, fun j hj => (u5.1 6 j (by decide) (by decide)).trans (a4 j hj)⟩ sf (by decide)
              show υ.2.2.2.2.1 6 = 10
              rw [u5.2.2.2.2.2]
              exact a3
            have c7 : cRw 7 v (t_st e υ) := u4.ft sf (by decide)
            rw [s1, bd_s]
            rw [show tq b e (tke b e q3) = nx b e q3 from rfl] at s2
            generalize t_st e υ = ρ at s2 sf s7 c6 c7
            generalize nx b e q3 = q4 at s2
            have c0 := (ck_59 (b := b) s2.2.2.2.1).1
            rw [s2.2.2.2.2.2.1]
            by_cases k1 : tkk b e q4 = 1
            · rw [if_pos k1, if_pos (c0.mpr k1)]
              exact ⟨ρ, rfl, s7, c6, c7, hv, (t5.L r6).tr ((u5.L r7).tr ((fT.W (r := 7) sf).L r7))⟩
            · rw [if_neg k1, if_neg (fun c => k1 (c0.mp c))]
              exact ⟨t_blame ρ 1 (vI ρ 1 5), rfl, rfl, s2.2.2.2.2.1, (t5.L r6).tr ((u5.L r7).tr (((fT.W (r := 7) sf).L r7).tr ((fT.W (r := 7) fT.bl).L r7)))⟩
          · rw [if_neg (fun c => hc3 ⟨c.1, c.2.1⟩)] at hp2
            rw [if_neg hc3]
            obtain ⟨υ, u1, u2, u3, u4⟩ := hp2
            rw [u1, bd2_s, if_pos rfl]
            exact ⟨υ, rfl, u2, u3, (t5.L r6).tr (u4.L r7)⟩
        · rw [if_neg hk]
          have e2 : (q1, ([] : List Nat)) = (q3, v) := by
            rw [sWords, if_neg hk] at hs2
            injection hs2
          injection e2 with e3 e4
          rw [if_neg (fun c => by rcases c.2.2 with d | d; exact absurd d (by decide); exact d e4.symm)] at hp2
          obtain ⟨υ, u1, u2, u3, u4⟩ := hp2
          rw [u1, bd2_s, if_pos rfl, e3]
          exact ⟨υ, rfl, u2, u3, (t5.L r6).tr (u4.L r7)⟩
    · rw [if_neg (fun c => hc ⟨c.1, c.2.1⟩)] at hp
      rw [if_neg hc]
      obtain ⟨τ, t1, t2, t3, t4⟩ := hp
      rw [t1, bd2_s, if_pos rfl]
      exact ⟨τ, rfl, t2, t3, t4.L r6⟩
