/-! the complement: where the component goes from a node -/
theorem b_e1 : ∀ d, d < 8 → (nI d &&& 1 = 0 ↔ d % 2 = 0) := by decide +kernel
theorem y_evN {t P : Nat} (ht : t < 16) : ∀ s, s ≤ 4 → p_ev (nI t) (nI (rv P)) s = nI (evN t P s) := by
  intro s
  induction s with
  | zero => intro _; rfl
  | succ s ih =>
    intro hs
    have d8 : dg P s < 8 := dg_lt
    rw [p_ev, evN, y_in ht (by omega), ih (by omega), k_rov (by omega), b_ev s (by omega) _ (evN_lt s)]
    by_cases hb : t.testBit s = true
    · rw [if_pos hb, if_neg i1n0]
      by_cases he : dg P s % 2 = 0
      · rw [if_pos ((b_e1 _ d8).mpr he), if_pos ⟨hb, he⟩]
      · rw [if_neg (fun q => he ((b_e1 _ d8).mp q)), if_neg (fun q => he q.2), Nat.add_zero]
    · rw [if_neg hb, if_pos rfl, if_neg (fun q => hb q.1), Nat.add_zero]
theorem y_ev {t P : Nat} (ht : t < 16) : p_ev (nI t) (nI (rv P)) 4 = nI (evn t P) := by rw [y_evN ht 4 (by decide), evN_4]
def gCo (B : Nat × Nat) (c : Nat) (x0 : nd) (L : List Nat) (σ : sS) (o : Option zS) (τ : sS) : Prop := fz L σ τ ∧ match o with
  | some y => cZ B c y τ ∧ zO x0 y
  | none => cFu B c τ
theorem y_gpN {c : Nat} {t mo : Int32} {σ : sS} (h : vI σ c 6 = 2) : ∀ n i, p_gp c t mo n i σ = σ
  | 0, _ => rfl
  | n + 1, i => by rw [p_gp, if_pos h]
theorem y_gp {B : Nat × Nat} {c t g mo : Nat} {x0 : nd} {R : List Nat} (hc : 33 ≤ c ∧ c ≤ 35) (ht : t < 16) (hmo : mo < 16) (hg : g ≠ 0) (hR : R.length ≤ 128) : ∀ (n i : Nat) (σ : sS) (z : zS), i + n = R.length → cZ B c z σ → zO x0 z → (∀ j, j < R.length → vI σ 16 j = nI (rv (R.getD j 0))) → okE ((R.drop i).map (fun P => (t, g, P, evn t P &&& mo))) z → gCo B c x0 (L1 c) σ (goL ((R.drop i).map (fun P => (t, g, P, evn t P &&& mo))) z) (p_gp c (nI t) (nI mo) n i σ) := by
  intro n
  induction n with
  | zero =>
    intro i σ z hi h hO _ _
    rw [List.drop_eq_nil_of_le (by omega)]
    exact ⟨fz.rf, h, hO⟩
  | succ n ih =>
    intro i σ z hi h hO h16 hE
    have e : R.drop i = R.getD i 0 :: R.drop (i + 1) := by
      rw [List.drop_eq_getElem_cons (show i < R.length by omega), List.getD_eq_getElem?_getD, List.getElem?_eq_getElem (show i < R.length by omega)]
      rfl
    rw [e, List.map_cons] at hE ⊢
    obtain ⟨e1, e2⟩ := hE
    have ek : p_ky (nI t) (rg σ 16 (nI i)) (nI mo &&& p_ev (nI t) (rg σ 16 (nI i)) 4) = nI (kyN (t, g, R.getD i 0, evn t (R.getD i 0) &&& mo)) := by
      rw [rg_nI (by omega), h16 i (by omega), y_ev ht, b_an _ hmo _ (evn_lt _ _), Nat.and_comm]
      exact ky_mk ht (Nat.lt_of_le_of_lt Nat.and_le_left (evn_lt _ _)) hg
    rw [p_gp, if_neg (by rw [h.1]; decide)]
    unfold p_g1
    rw [ek]
    obtain ⟨g1, g2⟩ := y_go1 hc h hO e1 (fun y hy => by rw [hy] at e2; exact e2.1)
    show gCo B c x0 (L1 c) σ (match go1 z (t, g, R.getD i 0, evn t (R.getD i 0) &&& mo) with | none => none | some y => goL _ y) _
    cases hgo : go1 z (t, g, R.getD i 0, evn t (R.getD i 0) &&& mo) with
    | none =>
      rw [hgo] at g2
      rw [y_gpN g2.1]
      exact ⟨g1, g2⟩
    | some y =>
      rw [hgo] at g2 e2
      have h16' : ∀ j, j < R.length → vI (rqu (p_mt σ c (nI (kyN (t, g, R.getD i 0, evn t (R.getD i 0) &&& mo)))) (c + 9) (p_ma σ c (nI (kyN (t, g, R.getD i 0, evn t (R.getD i 0) &&& mo))))) 16 j = nI (rv (R.getD j 0)) := fun j hj => (g1.1 16 j (by unfold L1; simp; omega)).trans (h16 j hj)
      obtain ⟨f1, f2⟩ := ih (i + 1) _ y (by omega) g2 (hO.go e1 hgo) h16' e2.2
      exact ⟨g1.tr f1, f2⟩
theorem cZ.k {B : Nat × Nat} {c : Nat} {z : zS} {σ τ : sS} (hc : 33 ≤ c ∧ c ≤ 35) (h : cZ B c z σ) (f : fK σ τ) : cZ B c z τ := by
  obtain ⟨a1, a2, a3, ⟨a4, a5⟩, ⟨i1, i2, i3⟩, a6, a7, a8, a9⟩ := h
  obtain ⟨f1, f2⟩ := f
  have n : ∀ {a j : Nat}, a ≠ 15 → a ≠ 16 → vI τ a j = vI σ a j := fun h1 h6 => f1 _ _ h1 h6
  have hV : ∀ a, vC τ a = vC σ a := fun a => by show τ.2.2.2.2.1 a = σ.2.2.2.2.1 a; rw [f2]
  have hU : ∀ a, vU τ a = vU σ a := fun a => by show τ.2.2.2.1 a = σ.2.2.2.1 a; rw [f2]
  have e26 : ∀ {j : Nat}, vI τ 26 j = vI σ 26 j := n (by decide) (by decide)
  refine ⟨(n (by omega) (by omega)).trans a1, (n (by omega) (by omega)).trans a2, fun m hm => (n (by omega) (by omega)).trans (a3 m hm), ⟨by rw [hV]; exact a4, by rw [hV]; exact a5⟩, ⟨fun s hs => by rw [e26]; exact i1 s hs, fun m hm => ?_, fun s s' h1 h2 e hne => ?_⟩, by rw [hU]; exact a6, fun j hj => (n (by omega) (by omega)).trans (a7 j hj), a8, a9.c (by rw [f2])⟩
  · obtain ⟨k, k1, k2, k3⟩ := i2 m hm
    exact ⟨k, k1, e26.trans k2, fun k' hk' => by rw [e26]; exact k3 k' hk'⟩
  · rw [e26, e26] at e
    rw [e26] at hne
    exact i3 s s' h1 h2 e hne
theorem fK.z {L : List Nat} {σ τ : sS} (f : fK σ τ) (h1 : 15 ∈ L) (h2 : 16 ∈ L) : fz L σ τ := by
  obtain ⟨f1, f2⟩ := f
  refine ⟨fun b j n => f1 b j (fun e => n (e ▸ h1)) (fun e => n (e ▸ h2)), fun b _ => ?_, fun b _ => ?_, by rw [f2], by rw [f2]⟩
  · show τ.2.2.2.1 b = σ.2.2.2.1 b; rw [f2]
  · show τ.2.2.2.2.1 b = σ.2.2.2.2.1 b; rw [f2]
theorem cFu.k {B : Nat × Nat} {c : Nat} {σ τ : sS} (hc : 33 ≤ c ∧ c ≤ 35) (h : cFu B c σ) (f : fK σ τ) : cFu B c τ := ⟨(f.1 _ _ (by omega) (by omega)).trans h.1, h.2.c (by rw [f.2])⟩
def L2 (c : Nat) : List Nat := [c, c + 3, 26, c + 9, 15, 16]
theorem L12 {c : Nat} : ∀ x, x ∈ L1 c → x ∈ L2 c := by
  intro x hx
  unfold L1 at hx
  unfold L2
  simp only [List.mem_cons, List.not_mem_nil, or_false] at hx ⊢
  omega
theorem L2_n {c b : Nat} (h0 : b ≠ c) (h3 : b ≠ c + 3) (h6 : b ≠ 26) (h9 : b ≠ c + 9) (h15 : b ≠ 15) (h16 : b ≠ 16) : b ∉ L2 c := by
  unfold L2
  simp only [List.mem_cons, List.not_mem_nil, or_false]
  omega
/-- the automaton of the complement, and what the finder needs -/
def cAu (c G : Nat) (M : aM) (σ : sS) : Prop := mOk G M ∧ vI σ (c - 6) 1 = nI (mN M) ∧ vI σ (c - 6) 2 = nI G ∧ vI σ (c - 6) 3 = nI (mB M) ∧ vI σ (c - 6) 4 = nI (mF M) ∧ (∀ s f, s < 3 → f < 4 → vI σ (c - 6 + 3) (s * 4 + f) = nI (mE M s f)) ∧ vC σ 16 = 128
theorem cAu.z {c G : Nat} {M : aM} {σ τ : sS} {L : List Nat} (h : cAu c G M σ) (f : fz L σ τ) (h1 : c - 6 ∉ L) (h2 : c - 6 + 3 ∉ L) : cAu c G M τ := by
  obtain ⟨a0, a1, a2, a3, a4, a5, a6⟩ := h
  exact ⟨a0, (f.1 _ _ h1).trans a1, (f.1 _ _ h1).trans a2, (f.1 _ _ h1).trans a3, (f.1 _ _ h1).trans a4, fun s g hs hg => (f.1 _ _ h2).trans (a5 s g hs hg), (f.2.2.1 16 (Or.inr (by decide))).trans a6⟩
theorem cAu.k {c G : Nat} {M : aM} {σ τ : sS} (hc : 33 ≤ c ∧ c ≤ 35) (h : cAu c G M σ) (f : fK σ τ) : cAu c G M τ := h.z (L := [15, 16]) (f.z (by decide) (by decide)) (by simp; omega) (by simp; omega)
theorem cAu.l2 {c G : Nat} {M : aM} {σ τ : sS} (hc : 33 ≤ c ∧ c ≤ 35) (h : cAu c G M σ) (f : fz (L2 c) σ τ) : cAu c G M τ := h.z f (L2_n (by omega) (by omega) (by omega) (by omega) (by omega) (by omega)) (L2_n (by omega) (by omega) (by omega) (by omega) (by omega) (by omega))
theorem y_gr {B : Nat × Nat} {c t g G : Nat} {M : aM} {x0 : nd} {σ : sS} {z : zS} (hc : 33 ≤ c ∧ c ≤ 35) (ht : t < 16) (hg : odd7 g) (hA : cAu c G M σ) (h : cZ B c z σ) (hO : zO x0 z) (hE : okE ((rkS t (mF M) g (fun _ => 7)).map (fun P => (t, g, P, 0))) z) : gCo B c x0 (L2 c) σ (goL ((rkS t (mF M) g (fun _ => 7)).map (fun P => (t, g, P, 0))) z) (p_gr c (nI t) (nI g) σ) := by
  have g0 : g ≠ 0 := by rcases hg with h | h | h | h <;> omega
  have hl := rk_len (t := t) (f := mF M) (g := g) (cap := fun _ => 7) ht hg
  obtain ⟨u1, u2, u3, u4⟩ := y_fu (σ := σ) (t := t) (f := mF M) (g := g) (a := k_lv (nI g)) (cap := fun _ => g) ht hA.1.b.2.1 hg (k_lvl hg) (fun _ _ _ => Nat.le_refl _) hA.2.2.2.2.2.2
  rw [rkS_cap hg] at u1 u2
  have hf : fK σ (k_fu σ (nI t) (nI (mF M)) (nI g) (k_lv (nI g))) := ⟨u3, u4⟩
  have em : ∀ l : List Nat, l.map (fun P => ((t, g, P, 0) : nd)) = l.map (fun P => (t, g, P, evn t P &&& 0)) := fun l => by simp only [Nat.and_zero]
  rw [em] at hE ⊢
  have hp := y_gp (R := rkS t (mF M) g (fun _ => 7)) (mo := 0) hc ht (by decide) g0 hl (rkS t (mF M) g (fun _ => 7)).length 0 _ z (by omega) (h.k hc hf) hO u2 (by rw [List.drop_zero]; exact hE)
  rw [List.drop_zero] at hp
  have e0 : p_gr c (nI t) (nI g) σ = p_gp c (nI t) (nI 0) (rkS t (mF M) g (fun _ => 7)).length 0 (k_fu σ (nI t) (nI (mF M)) (nI g) (k_lv (nI g))) := by
    unfold p_gr p_ct
    rw [hA.2.2.2.2.1, u1, nI_clamp (by omega)]
    rfl
  rw [e0]
  exact ⟨(hf.z (by unfold L2; simp) (by unfold L2; simp)).tr (hp.1.mo L12), hp.2⟩
theorem y_grN {B : Nat × Nat} {c t g G : Nat} {M : aM} {σ : sS} (hc : 33 ≤ c ∧ c ≤ 35) (ht : t < 16) (hg : odd7 g) (hA : cAu c G M σ) (h : cFu B c σ) : fz (L2 c) σ (p_gr c (nI t) (nI g) σ) ∧ cFu B c (p_gr c (nI t) (nI g) σ) := by
  obtain ⟨-, -, u3, u4⟩ := y_fu (σ := σ) (t := t) (f := mF M) (g := g) (a := k_lv (nI g)) (cap := fun _ => g) ht hA.1.b.2.1 hg (k_lvl hg) (fun _ _ _ => Nat.le_refl _) hA.2.2.2.2.2.2
  have hf : fK σ (k_fu σ (nI t) (nI (mF M)) (nI g) (k_lv (nI g))) := ⟨u3, u4⟩
  unfold p_gr
  rw [hA.2.2.2.2.1, y_gpN (h.k hc hf).1]
  exact ⟨hf.z (by unfold L2; simp) (by unfold L2; simp), h.k hc hf⟩
theorem y_ggN {B : Nat × Nat} {c t G : Nat} {M : aM} (hc : 33 ≤ c ∧ c ≤ 35) (ht : t < 16) : ∀ (n k f : Nat) (σ : sS), cAu c G M σ → cFu B c σ → k + n = nfb t (mF M) → n < f → fz (L2 c) σ (p_gg c (nI t) (2 * nI (nfb t (mF M)) - 1) f (nI (2 * k + 1)) σ) ∧ cFu B c (p_gg c (nI t) (2 * nI (nfb t (mF M)) - 1) f (nI (2 * k + 1)) σ) := by
  intro n
  induction n with
  | zero =>
    intro k f σ hA h hk hf
    obtain ⟨f, rfl⟩ : ∃ k, f = k + 1 := ⟨f - 1, by omega⟩
    have h4 := nfb_4 t ht _ hA.1.b.2.1
    rw [p_gg, if_pos ((b_bd _ (by omega) k (by omega)).mpr (by omega))]
    exact ⟨fz.rf, h⟩
  | succ n ih =>
    intro k f σ hA h hk hf
    obtain ⟨f, rfl⟩ : ∃ k, f = k + 1 := ⟨f - 1, by omega⟩
    have h4 := nfb_4 t ht _ hA.1.b.2.1
    have ho : odd7 (2 * k + 1) := by unfold odd7; omega
    have e : nI (2 * k + 1) + 2 = nI (2 * (k + 1) + 1) := by rw [show (2 : Int32) = nI 2 from rfl, nI_add]; congr 1
    rw [p_gg, if_neg (fun q => by have := (b_bd _ (by omega) k (by omega)).mp q; omega), e]
    obtain ⟨f1, f2⟩ := y_grN (B := B) hc ht ho hA h
    obtain ⟨f3, f4⟩ := ih (k + 1) f _ (hA.l2 hc f1) f2 (by omega) (by omega)
    exact ⟨f1.tr f3, f4⟩
theorem y_gg {B : Nat × Nat} {c t G : Nat} {M : aM} {x0 : nd} (hc : 33 ≤ c ∧ c ≤ 35) (ht : t < 16) : ∀ (n k f : Nat) (σ : sS) (z : zS), cAu c G M σ → cZ B c z σ → zO x0 z → k + n = nfb t (mF M) → n < f → okE (((List.range' k n).map (fun k => 2 * k + 1)).flatMap (fun g => (rkS t (mF M) g (fun _ => 7)).map (fun P => (t, g, P, 0)))) z → gCo B c x0 (L2 c) σ (goL (((List.range' k n).map (fun k => 2 * k + 1)).flatMap (fun g => (rkS t (mF M) g (fun _ => 7)).map (fun P => (t, g, P, 0)))) z) (p_gg c (nI t) (2 * nI (nfb t (mF M)) - 1) f (nI (2 * k + 1)) σ) := by
  intro n
  induction n with
  | zero =>
    intro k f σ z hA h hO hk hf _
    obtain ⟨f, rfl⟩ : ∃ k, f = k + 1 := ⟨f - 1, by omega⟩
    have h4 := nfb_4 t ht _ hA.1.b.2.1
    rw [p_gg, if_pos ((b_bd _ (by omega) k (by omega)).mpr (by omega))]
    exact ⟨fz.rf, h, hO⟩
  | succ n ih =>
    intro k f σ z hA h hO hk hf hE
    obtain ⟨f, rfl⟩ : ∃ k, f = k + 1 := ⟨f - 1, by omega⟩
    have h4 := nfb_4 t ht _ hA.1.b.2.1
    have ho : odd7 (2 * k + 1) := by unfold odd7; omega
    have e : nI (2 * k + 1) + 2 = nI (2 * (k + 1) + 1) := by rw [show (2 : Int32) = nI 2 from rfl, nI_add]; congr 1
    rw [List.range'_succ, List.map_cons, List.flatMap_cons] at hE ⊢
    rw [p_gg, if_neg (fun q => by have := (b_bd _ (by omega) k (by omega)).mp q; omega), e]
    obtain ⟨f1, f2⟩ := y_gr hc ht ho hA h hO hE.app1
    rw [goL_app]
    cases hgo : goL ((rkS t (mF M) (2 * k + 1) (fun _ => 7)).map (fun P => (t, 2 * k + 1, P, 0))) z with
    | none =>
      rw [hgo] at f2
      obtain ⟨f3, f4⟩ := y_ggN (B := B) hc ht n (k + 1) f _ (hA.l2 hc f1) f2 (by omega) (by omega)
      exact ⟨f1.tr f3, f4⟩
    | some y =>
      rw [hgo] at f2
      obtain ⟨f3, f4⟩ := ih (k + 1) f _ y (hA.l2 hc f1) f2.1 f2.2 (by omega) (by omega) (hE.app2 hgo)
      exact ⟨f1.tr f3, f4⟩
theorem y_fs {B : Nat × Nat} {c t G : Nat} {M : aM} {x0 : nd} {σ : sS} {z : zS} (hc : 33 ≤ c ∧ c ≤ 35) (ht : t < 16) (hA : cAu c G M σ) (h : cZ B c z σ) (hO : zO x0 z) (hE : okE (sucS M t) z) : gCo B c x0 (L2 c) σ (goL (sucS M t) z) (p_fs σ c (nI t)) := by
  unfold sucS at hE ⊢
  rw [List.range_eq_range'] at hE ⊢
  obtain ⟨e1, e2⟩ := hE
  obtain ⟨g1, g2⟩ := y_go1 (x := (t, 0, 0, 0)) hc h hO e1 (fun y hy => by rw [hy] at e2; exact e2.1)
  have ek : kyN (t, 0, 0, 0) = t := if_pos rfl
  rw [ek] at g1 g2
  have f1 := g1.mo (L' := L2 c) L12
  have hA' := hA.l2 hc f1
  have h4 := nfb_4 t ht _ hA.1.b.2.1
  have em : k_gt (nI t) (nI (mF M)) = 2 * nI (nfb t (mF M)) - 1 := by
    unfold k_gt
    rw [b_nf t ht _ hA.1.b.2.1]
  have e0 : p_fs σ c (nI t) = p_gg c (nI t) (2 * nI (nfb t (mF M)) - 1) 64 (nI (2 * 0 + 1)) (rqu (p_mt σ c (nI t)) (c + 9) (p_ma σ c (nI t))) := by
    unfold p_fs
    rw [hA'.2.2.2.2.1, em]
    rfl
  rw [e0]
  show gCo B c x0 (L2 c) σ (match go1 z (t, 0, 0, 0) with | none => none | some y => goL _ y) _
  cases hgo : go1 z (t, 0, 0, 0) with
  | none =>
    rw [hgo] at g2
    obtain ⟨f3, f4⟩ := y_ggN (B := B) hc ht (nfb t (mF M)) 0 64 _ hA' g2 (by omega) (by omega)
    exact ⟨f1.tr f3, f4⟩
  | some y =>
    rw [hgo] at g2 e2
    obtain ⟨f3, f4⟩ := y_gg (B := B) (x0 := x0) hc ht (nfb t (mF M)) 0 64 _ y hA' g2 (hO.go e1 hgo) (by omega) (by omega) e2.2
    exact ⟨f1.tr f3, f4⟩
