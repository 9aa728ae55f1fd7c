/-! the component goes wide -/
/-- nothing has changed but Loops, Shower and their rows -/
def jrl (σ τ : sS) : Prop := (∀ b, (b < 19 ∨ (25 < b ∧ b < 56) ∨ 61 < b) → vI τ b = vI σ b ∧ vU τ b = vU σ b ∧ vC τ b = vC σ b) ∧ τ.2.1 = σ.2.1 ∧ τ.2.2.1 = σ.2.2.1
theorem jrl.rf {σ : sS} : jrl σ σ := ⟨fun _ _ => ⟨rfl, rfl, rfl⟩, rfl, rfl⟩
theorem jrl.tr {σ τ υ : sS} (h : jrl σ τ) (k : jrl τ υ) : jrl σ υ := ⟨fun b hb => ⟨(k.1 b hb).1.trans (h.1 b hb).1, (k.1 b hb).2.1.trans (h.1 b hb).2.1, (k.1 b hb).2.2.trans (h.1 b hb).2.2⟩, k.2.1.trans h.2.1, k.2.2.trans h.2.2⟩
theorem jrl_s {σ τ : sS} (h : srel σ τ) : jrl σ τ := ⟨fun b hb => h.1 b (by omega), h.2⟩
theorem jrl_l {σ τ : sS} (h : lrel σ τ) : jrl σ τ := ⟨fun b hb => h.1 b (by omega), h.2⟩
/-- letters and goals -/
def gll (G : gG) (v : Nat) : Nat → Nat → List (Nat × Nat)
  | 0, _ => []
  | k + 1, s => (GS G v s).map (fun t => (s, t)) ++ gll G v k (s + 1)
def glt (G : gG) (v : Nat) : List (Nat × Nat) := gll G v (GL G) 0
def bF (v : Nat) : List (Nat × Nat) → bS → bS
  | [], S => S
  | e :: l, S => bF v l (bm e.2 (some (v, e.1)) S)
def e2k (e : Nat × Nat) : Nat × Nat := (e.1 / 2048, e.2)
theorem bE_F {v : Nat} : ∀ (l : List (Nat × Nat)) (S : bS), bE v l S = bF v (l.map e2k) S
  | [], S => rfl
  | e :: l, S => bE_F l _
theorem bF_a {v : Nat} : ∀ (l m : List (Nat × Nat)) (S : bS), bF v (l ++ m) S = bF v m (bF v l S)
  | [], m, S => rfl
  | e :: l, m, S => bF_a l m _
theorem bX_bF {v : Nat} : ∀ (l : List (Nat × Nat)) (S : bS), bX S (bF v l S)
  | [], S => bX.rf
  | e :: l, S => bX_bm.tr (bX_bF l _)
/-- what was met, as the component holds it -/
def cPa (S : bS) (τ : sS) : Prop := ∀ x w, x ∈ S.1 → S.2 x = some w → vI τ 58 x = nI w.1 ∧ vI τ 59 x = nI w.2
def rCB (n : Nat) (S : bS) (τ : sS) : Prop := vU τ 57 = nI S.1.length ∧ (∀ i, i < S.1.length → vI τ 57 i = nI (S.1.getD i 0)) ∧ (∀ x, x < n → vI τ 60 x = if x ∈ S.1 then nI ((wyO S x).length + 1) else 0) ∧ cPa S τ ∧ (n ≤ vC τ 58 ∧ n ≤ vC τ 59 ∧ n ≤ vC τ 60) ∧ vC τ 57 ≤ 270000 ∧ ∀ x, x ∈ S.1 → x < n
/-- one is pushed, and told whence -/
theorem y_s1e {n v s t k : Nat} {τ : sS} (hk : k < 3000) (hU : vU τ 57 = nI k) (hC : vC τ 57 ≤ 270000) (h8 : n ≤ vC τ 58) (h9 : n ≤ vC τ 59) (h0 : n ≤ vC τ 60) (ht : t < n) (hn : n ≤ 3000) (hv : v < 3000) : vU (w_s1 τ (nI v) (nI s) (nI t)) 57 = nI (k + 1) ∧ (∀ j, vI (w_s1 τ (nI v) (nI s) (nI t)) 57 j = if j = k then nI t else vI τ 57 j) ∧ (∀ j, vI (w_s1 τ (nI v) (nI s) (nI t)) 58 j = if j = t then nI v else vI τ 58 j) ∧ (∀ j, vI (w_s1 τ (nI v) (nI s) (nI t)) 59 j = if j = t then nI s else vI τ 59 j) ∧ (∀ j, vI (w_s1 τ (nI v) (nI s) (nI t)) 60 j = if j = t then vI τ 60 v + 1 else vI τ 60 j) ∧ (∀ b, b ≠ 57 → vC (w_s1 τ (nI v) (nI s) (nI t)) b = vC τ b) ∧ vC (w_s1 τ (nI v) (nI s) (nI t)) 57 ≤ 270000 ∧ (∀ j, vI (w_s1 τ (nI v) (nI s) (nI t)) 22 j = vI τ 22 j) ∧ (∀ j, vI (w_s1 τ (nI v) (nI s) (nI t)) 56 j = vI τ 56 j) ∧ (∀ j, vI (w_s1 τ (nI v) (nI s) (nI t)) 61 j = vI τ 61 j) ∧ ∀ B, Rm B τ → Rm B (w_s1 τ (nI v) (nI s) (nI t)) := by
  obtain ⟨p1, p2, p3, p4, p5, p6, p7, p8, p9⟩ := rqu_p (x := nI t) hU (by omega) hC
  have e : w_s1 τ (nI v) (nI s) (nI t) = uI (uI (uI (rqu τ 57 (nI t)) 58 t (nI v)) 59 t (nI s)) 60 t (vI τ 60 v + 1) := by
    unfold w_s1
    have c8 : t < vC (rqu τ 57 (nI t)) 58 := by rw [p5 58 (by decide)]; omega
    rw [rp_n c8 (by omega)]
    have c9 : t < vC (uI (rqu τ 57 (nI t)) 58 t (nI v)) 59 := by show t < vC (rqu τ 57 (nI t)) 59; rw [p5 59 (by decide)]; omega
    rw [rp_n c9 (by omega)]
    have c0 : t < vC (uI (uI (rqu τ 57 (nI t)) 58 t (nI v)) 59 t (nI s)) 60 := by show t < vC (rqu τ 57 (nI t)) 60; rw [p5 60 (by decide)]; omega
    rw [rp_n c0 (by omega), rg_nI (by omega), vI_q (fun q => absurd q.1 (by decide)), vI_q (fun q => absurd q.1 (by decide)), p3 60 v (by decide)]
  have hc57 : vC (rqu τ 57 (nI t)) 57 ≤ 270000 := by
    have e9 : vC (rqu τ 57 (nI t)) 57 = vC (rx τ 57 (k + 1)) 57 := by
      show (rqu τ 57 (nI t)).2.2.2.2.1 57 = (rx τ 57 (k + 1)).2.2.2.2.1 57
      rw [p9]
    rw [e9, rx_C]
    exact (rw_cap_le hC).1
  rw [e]
  refine ⟨p1, fun j => ?_, fun j => ?_, fun j => ?_, fun j => ?_, fun b hb => p5 b hb, hc57, fun j => ?_, fun j => ?_, fun j => ?_, fun B hB => ?_⟩
  · rw [vI_q (fun q => absurd q.1 (by decide)), vI_q (fun q => absurd q.1 (by decide)), vI_q (fun q => absurd q.1 (by decide))]
    exact p2 j
  · rw [vI_q (fun q => absurd q.1 (by decide)), vI_q (fun q => absurd q.1 (by decide)), vI_u, p3 58 j (by decide)]
    by_cases c : j = t
    · rw [if_pos ⟨rfl, c⟩, if_pos c]
    · rw [if_neg (fun q => c q.2), if_neg c]
  · rw [vI_q (fun q => absurd q.1 (by decide)), vI_u, vI_q (fun q => absurd q.1 (by decide)), p3 59 j (by decide)]
    by_cases c : j = t
    · rw [if_pos ⟨rfl, c⟩, if_pos c]
    · rw [if_neg (fun q => c q.2), if_neg c]
  · rw [vI_u, vI_q (fun q => absurd q.1 (by decide)), vI_q (fun q => absurd q.1 (by decide)), p3 60 j (by decide)]
    by_cases c : j = t
    · rw [if_pos ⟨rfl, c⟩, if_pos c]
    · rw [if_neg (fun q => c q.2), if_neg c]
  · rw [vI_q (fun q => absurd q.1 (by decide)), vI_q (fun q => absurd q.1 (by decide)), vI_q (fun q => absurd q.1 (by decide))]
    exact p3 22 j (by decide)
  · rw [vI_q (fun q => absurd q.1 (by decide)), vI_q (fun q => absurd q.1 (by decide)), vI_q (fun q => absurd q.1 (by decide))]
    exact p3 56 j (by decide)
  · rw [vI_q (fun q => absurd q.1 (by decide)), vI_q (fun q => absurd q.1 (by decide)), vI_q (fun q => absurd q.1 (by decide))]
    exact p3 61 j (by decide)
  · exact (hB.rx (r := 57) (m := k + 1) (by decide) (Or.inl (by omega))).c p9
theorem len_lt {n t : Nat} {l : List Nat} (h : l.Nodup) (hl : ∀ x, x ∈ l → x < n) (ht : t < n) (htn : t ∉ l) : l.length < n := by
  have := nodup_len (n := n) (l := t :: l) (List.nodup_cons.mpr ⟨htn, h⟩) (fun x hx => by
    rcases List.mem_cons.mp hx with w | w
    · rw [w]; exact ht
    · exact hl x w)
  rw [List.length_cons] at this
  omega
/-- what a search changes: its rows alone -/
def sq (σ τ : sS) : Prop := srel σ τ ∧ (∀ j, vI τ 56 j = vI σ 56 j) ∧ (∀ j, vI τ 61 j = vI σ 61 j) ∧ vC τ 61 = vC σ 61 ∧ ∀ B, Rm B σ → Rm B τ
theorem sq.rf {σ : sS} : sq σ σ := ⟨srel.rf, fun _ => rfl, fun _ => rfl, rfl, fun _ h => h⟩
theorem sq.tr {σ τ υ : sS} (h : sq σ τ) (k : sq τ υ) : sq σ υ := ⟨h.1.tr k.1, fun j => (k.2.1 j).trans (h.2.1 j), fun j => (k.2.2.1 j).trans (h.2.2.1 j), k.2.2.2.1.trans h.2.2.2.1, fun B q => k.2.2.2.2 B (h.2.2.2.2 B q)⟩
theorem getD_l {l : List Nat} {x : Nat} : (l ++ [x]).getD l.length 0 = x := by
  rw [List.getD_eq_getElem?_getD, List.getElem?_append_right (Nat.le_refl _), Nat.sub_self]
  rfl
theorem bm_new {S : bS} {x : Nat} {w : Option (Nat × Nat)} (h : x ∉ S.1) : bm x w S = (S.1 ++ [x], pu S.2 x w) := if_neg h
theorem bm_old {S : bS} {x : Nat} {w : Option (Nat × Nat)} (h : x ∈ S.1) : bm x w S = S := if_pos h
theorem rCB.s1 {n v s t : Nat} {S : bS} {τ : sS} (h : rCB n S τ) (hK : bK S) (hn : n ≤ 3000) (hv : v ∈ S.1) (ht : t < n) (htn : t ∉ S.1) (hs : s < 3) : rCB n (bm t (some (v, s)) S) (w_s1 τ (nI v) (nI s) (nI t)) ∧ sq τ (w_s1 τ (nI v) (nI s) (nI t)) := by
  obtain ⟨a1, a2, a3, a4, ⟨a5, a6, a7⟩, a8, a9⟩ := h
  have hl := hK.len
  have vn := a9 v hv
  have hlt := len_lt hK.1 a9 ht htn
  obtain ⟨b1, b2, b3, b4, b5, b6, b7, b8, b9, b10, b11⟩ := y_s1e (n := n) (v := v) (s := s) (t := t) (by omega) a1 a8 a5 a6 a7 ht hn (by omega)
  have hK2 := bK_bm hK (x := t) (w := some (v, s)) (by omega) (fun q hq => by rw [← Option.some.inj hq]; exact ⟨hv, hs⟩)
  have hX := bX_bm (S := S) (x := t) (w := some (v, s))
  have hw : ∀ x, x ∈ S.1 → wyO (bm t (some (v, s)) S) x = wyO S x := fun x hx => bX_wyO hX hK hx
  have ht2 : t ∈ (bm t (some (v, s)) S).1 := bm_in.1
  have e2 : (bm t (some (v, s)) S).2 t = some (v, s) := by rw [bm_new htn]; exact pu_s
  refine ⟨⟨?_, fun i hi => ?_, fun x hx => ?_, fun x w hx hw2 => ?_, ⟨?_, ?_, ?_⟩, b7, fun x hx => ?_⟩, w_s1_ok.1, b9, b10, b6 61 (by decide), b11⟩
  · rw [b1, bm_new htn]
    show _ = nI (S.1 ++ [t]).length
    rw [List.length_append]; rfl
  · rw [bm_new htn] at hi ⊢
    have hi : i < (S.1 ++ [t]).length := hi
    rw [List.length_append] at hi
    simp only [List.length_cons, List.length_nil] at hi
    show _ = nI ((S.1 ++ [t]).getD i 0)
    rw [b2]
    by_cases c : i = S.1.length
    · rw [if_pos c, c, getD_l]
    · rw [if_neg c, getD_app (by omega)]
      exact a2 i (by omega)
  · rw [b5]
    by_cases c : x = t
    · rw [if_pos c, c, if_pos ht2, a3 v vn, if_pos hv, (wyO_s hK2 ht2 e2).1, hw v hv, nI_1, List.length_append]
      rfl
    · rw [if_neg c, a3 x hx]
      by_cases m : x ∈ S.1
      · rw [if_pos m, if_pos (hX.m m), hw x m]
      · rw [if_neg m, if_neg (fun q => (bm_m q).elim m c)]
  · rw [b3, b4]
    by_cases c : x = t
    · rw [c] at hw2
      rw [e2] at hw2
      rw [if_pos c, if_pos c, ← Option.some.inj hw2]
      exact ⟨rfl, rfl⟩
    · rw [if_neg c, if_neg c]
      have m : x ∈ S.1 := (bm_m hx).resolve_right c
      rw [hX.2 x m] at hw2
      exact a4 x w m hw2
  · rw [b6 58 (by decide)]; exact a5
  · rw [b6 59 (by decide)]; exact a6
  · rw [b6 60 (by decide)]; exact a7
  · rcases bm_m hx with q | q
    · exact a9 x q
    · rw [q]; exact ht
/-- the search that stops at the first one that is sought -/
def stp (n : Nat) (q : Nat → Prop) (S T : bS) (x : Nat) (τ : sS) : Prop := rCB n S τ ∧ bK S ∧ bX S T ∧ q x ∧ ∃ pre, S.1 = pre ++ [x] ∧ ∀ y, y ∈ pre → ¬ q y
theorem nI_m1n {k : Nat} (h : k < 2 ^ 31) : ¬ (nI k = (-1 : Int32)) := nI_n1' h
theorem y_wi {G : gG} {fF fN fE fM : sS → List Int32 → Int32} {V q : Nat → Prop} {σ1 : sS} (hG : gOk G) (hS : ∀ τ, srel σ1 τ → gSt G fF fN fE fM τ) (hq : ∀ τ, srel σ1 τ → ∀ x, V x → (w_so fM τ (nI x) = 0 ↔ ¬ q x)) (hV : ∀ x, V x → ∀ s, s < GL G → ∀ t, t ∈ GS G x s → V t) {v s : Nat} (hv : v < GN G) (hs : s < GL G) (hvV : V v) : ∀ (k i : Nat) (S : bS) (τ : sS), i + k = (GS G v s).length → srel σ1 τ → rCB (GN G) S τ → bK S → v ∈ S.1 → (∀ x, x ∈ S.1 → V x ∧ ¬ q x) → (∃ τ', w_i fE fM (nI v) (nI s) (-1) k i τ = (false, 0, τ') ∧ sq τ τ' ∧ rCB (GN G) (bF v (((GS G v s).drop i).map (fun t => (s, t))) S) τ' ∧ bK (bF v (((GS G v s).drop i).map (fun t => (s, t))) S) ∧ ∀ x, x ∈ (bF v (((GS G v s).drop i).map (fun t => (s, t))) S).1 → V x ∧ ¬ q x) ∨ (∃ x τ' S', w_i fE fM (nI v) (nI s) (-1) k i τ = (true, nI x, τ') ∧ sq τ τ' ∧ stp (GN G) q S' (bF v (((GS G v s).drop i).map (fun t => (s, t))) S) x τ') := by
  intro k
  induction k with
  | zero =>
    intro i S τ hi hsr hR hK hvS hVq
    rw [List.drop_eq_nil_of_le (by omega)]
    exact Or.inl ⟨τ, rfl, sq.rf, hR, hK, hVq⟩
  | succ k ih =>
    intro i S τ hi hsr hR hK hvS hVq
    have hi' : i < (GS G v s).length := by omega
    obtain ⟨-, -, g3⟩ := hS τ hsr v hv
    have eE := (g3 s hs).2 i hi'
    have tm : (GS G v s).getD i 0 ∈ GS G v s := getD_mem hi'
    have dr : (GS G v s).drop i = (GS G v s).getD i 0 :: (GS G v s).drop (i + 1) := by
      rw [List.drop_eq_getElem_cons hi', List.getD_eq_getElem?_getD, List.getElem?_eq_getElem hi']
      rfl
    have tn := (hG.2.2 v hv s hs).2 _ tm
    have tV := hV v hvV s hs _ tm
    have n3 := hG.1
    have l3 := hG.2.1
    rw [dr]
    generalize (GS G v s).getD i 0 = t at eE tm tn tV
    rw [w_i, eE, List.map_cons, bF]
    have e60 : rg τ 60 (nI t) = if t ∈ S.1 then nI ((wyO S t).length + 1) else 0 := by
      rw [rg_nI (by omega)]; exact hR.2.2.1 t tn
    have hlen := hK.len
    by_cases c : t ∈ S.1
    · have c0 : ¬ (rg τ 60 (nI t) = 0 ∨ nI t = (-1 : Int32)) := by
        rw [e60, if_pos c]
        have := wyO_le hK c
        rintro (z | z)
        · have := (nI_k0 (by omega)).mp z; omega
        · exact nI_n1' (by omega) z
      rw [if_neg c0, show bm t (some (v, s)) S = S from bm_old c]
      exact ih (i + 1) S τ (by omega) hsr hR hK hvS hVq
    · have c0 : rg τ 60 (nI t) = 0 ∨ nI t = (-1 : Int32) := Or.inl (by rw [e60, if_neg c])
      rw [if_pos c0]
      obtain ⟨r1, r2⟩ := hR.s1 (s := s) hK n3 hvS tn c (by omega)
      have hK2 := bK_bm hK (x := t) (w := some (v, s)) (by omega) (fun z hz => by rw [← Option.some.inj hz]; exact ⟨hvS, by omega⟩)
      have hsr2 := hsr.tr r2.1
      have eh : w_ht fM (w_s1 τ (nI v) (nI s) (nI t)) (-1) (nI t) = w_so fM (w_s1 τ (nI v) (nI s) (nI t)) (nI t) := by
        unfold w_ht
        rw [if_neg (nI_n1' (by omega)), if_pos rfl]
      rw [eh]
      by_cases d : q t
      · rw [if_neg (fun z => (hq _ hsr2 t tV).mp z d)]
        refine Or.inr ⟨t, _, bm t (some (v, s)) S, rfl, r2, r1, hK2, bX_bF _ _, d, S.1, ?_, fun y hy => (hVq y hy).2⟩
        rw [bm_new c]
      · rw [if_pos ((hq _ hsr2 t tV).mpr d)]
        have I := ih (i + 1) (bm t (some (v, s)) S) _ (by omega) hsr2 r1 hK2 (bX_bm.m hvS) (fun x hx => by
          rcases bm_m hx with z | z
          · exact hVq x z
          · rw [z]; exact ⟨tV, d⟩)
        rcases I with ⟨τ', i1, i2, i3⟩ | ⟨x, τ', S', i1, i2, i3⟩
        · exact Or.inl ⟨τ', i1, r2.tr i2, i3⟩
        · exact Or.inr ⟨x, τ', S', i1, r2.tr i2, i3⟩
theorem y_wo {G : gG} {fF fN fE fM : sS → List Int32 → Int32} {V q : Nat → Prop} {σ1 : sS} (hG : gOk G) (hS : ∀ τ, srel σ1 τ → gSt G fF fN fE fM τ) (hq : ∀ τ, srel σ1 τ → ∀ x, V x → (w_so fM τ (nI x) = 0 ↔ ¬ q x)) (hV : ∀ x, V x → ∀ s, s < GL G → ∀ t, t ∈ GS G x s → V t) {v : Nat} (hv : v < GN G) (hvV : V v) : ∀ (k s : Nat) (S : bS) (τ : sS), s + k = GL G → srel σ1 τ → rCB (GN G) S τ → bK S → v ∈ S.1 → (∀ x, x ∈ S.1 → V x ∧ ¬ q x) → (∃ τ', w_o fN fE fM (nI v) (-1) k s τ = (false, 0, τ') ∧ sq τ τ' ∧ rCB (GN G) (bF v (gll G v k s) S) τ' ∧ bK (bF v (gll G v k s) S) ∧ ∀ x, x ∈ (bF v (gll G v k s) S).1 → V x ∧ ¬ q x) ∨ (∃ x τ' S', w_o fN fE fM (nI v) (-1) k s τ = (true, nI x, τ') ∧ sq τ τ' ∧ stp (GN G) q S' (bF v (gll G v k s) S) x τ') := by
  intro k
  induction k with
  | zero =>
    intro s S τ _ hsr hR hK hvS hVq
    exact Or.inl ⟨τ, rfl, sq.rf, hR, hK, hVq⟩
  | succ k ih =>
    intro s S τ hs hsr hR hK hvS hVq
    have hsL : s < GL G := by omega
    obtain ⟨-, -, g3⟩ := hS τ hsr v hv
    have eN := (g3 s hsL).1
    have gl := (hG.2.2 v hv s hsL).1
    have gf : g_F fN τ (nI v) (nI s) = (GS G v s).length := by
      unfold g_F
      rw [eN, nI_clamp (by omega)]
    rw [w_o, gf, gll, bF_a]
    have I := y_wi hG hS hq hV hv hsL hvV (GS G v s).length 0 S τ (by omega) hsr hR hK hvS hVq
    rw [List.drop_zero] at I
    rcases I with ⟨τ', i1, i2, i3, i4, i5⟩ | ⟨x, τ', S', i1, i2, i3⟩
    · rw [i1, if_neg (show ¬ ((false, (0 : Int32), τ') : Bool × Int32 × sS).1 = true from Bool.false_ne_true)]
      have I2 := ih (s + 1) _ τ' (by omega) (hsr.tr i2.1) i3 i4 ((bX_bF _ _).m hvS) i5
      rcases I2 with ⟨τ2, j1, j2, j3⟩ | ⟨x, τ2, S', j1, j2, j3⟩
      · exact Or.inl ⟨τ2, j1, i2.tr j2, j3⟩
      · exact Or.inr ⟨x, τ2, S', j1, i2.tr j2, j3⟩
    · rw [i1, if_pos rfl]
      exact Or.inr ⟨x, τ', S', rfl, i2, i3.1, i3.2.1, i3.2.2.1.tr (bX_bF _ _), i3.2.2.2⟩
