/-! the component shows -/
theorem y_wr {S : bS} {pl : Nat} (hK : bK S) (hp : pl ≤ 3000) : ∀ (i : Nat) (τ : sS), i < S.1.length → cPa S τ → pl + (wyO S (S.1.getD i 0)).length ≤ vC τ 61 → (∀ j, j < (wyO S (S.1.getD i 0)).length → vI (w_wr pl (wyO S (S.1.getD i 0)).length (nI (S.1.getD i 0)) τ) 61 (pl + j) = nI ((wyO S (S.1.getD i 0)).getD j 0)) ∧ (∀ j, (j < pl ∨ pl + (wyO S (S.1.getD i 0)).length ≤ j) → vI (w_wr pl (wyO S (S.1.getD i 0)).length (nI (S.1.getD i 0)) τ) 61 j = vI τ 61 j) := by
  intro i
  induction i using Nat.strongRecOn with
  | _ i ih =>
    intro τ hi hP hc
    have m := getD_mem hi
    have p3 := hK.2.1 _ m
    have hl3 := hK.len
    have hwl := wyO_le hK m
    cases hq : S.2 (S.1.getD i 0) with
    | none =>
      rw [wyO_n hq]
      exact ⟨fun j hj => (nomatch hj), fun j _ => rfl⟩
    | some w =>
      obtain ⟨e1, e2, e3, e4⟩ := wyO_s hK m hq
      obtain ⟨-, j, j1, j2⟩ := hK.2.2 i w hi hq
      obtain ⟨b1, b2⟩ := hP _ w m hq
      have el : (wyO S (S.1.getD i 0)).length = (wyO S w.1).length + 1 := by
        rw [e1, List.length_append]; rfl
      have st : rp τ 61 (nI pl + nI (wyO S w.1).length) (rg τ 59 (nI (S.1.getD i 0))) = uI τ 61 (pl + (wyO S w.1).length) (nI w.2) := by
        rw [nI_add, rp_n (by omega) (by omega), rg_nI (by omega), b2]
      have st2 : rg (uI τ 61 (pl + (wyO S w.1).length) (nI w.2)) 58 (nI (S.1.getD i 0)) = nI w.1 := by
        rw [rg_nI (by omega), vI_q (fun q => absurd q.1 (by decide))]; exact b1
      have hP2 : cPa S (uI τ 61 (pl + (wyO S w.1).length) (nI w.2)) := fun x y hx hy => by
        rw [vI_q (fun q => absurd q.1 (by decide)), vI_q (fun q => absurd q.1 (by decide))]; exact hP x y hx hy
      obtain ⟨r1, r2⟩ := ih j j1 (uI τ 61 (pl + (wyO S w.1).length) (nI w.2)) (by omega) hP2 (by show _ ≤ vC τ 61; rw [j2]; omega)
      rw [j2] at r1 r2
      rw [el, w_wr, st, st2]
      refine ⟨fun k hk => ?_, fun k hk => ?_⟩
      · rw [e1]
        by_cases c : k < (wyO S w.1).length
        · rw [r1 k c, getD_app c]
        · have ek : k = (wyO S w.1).length := by omega
          rw [ek, r2 _ (Or.inr (Nat.le_refl _)), vI_e, getD_l]
      · rw [r2 k (by omega)]
        exact vI_q (fun q => by have := q.2; omega)
theorem y_wrx {S : bS} {pl x : Nat} {τ : sS} (hK : bK S) (hp : pl ≤ 3000) (hx : x ∈ S.1) (hP : cPa S τ) (hc : pl + (wyO S x).length ≤ vC τ 61) : (∀ j, j < (wyO S x).length → vI (w_wr pl (wyO S x).length (nI x) τ) 61 (pl + j) = nI ((wyO S x).getD j 0)) ∧ (∀ j, (j < pl ∨ pl + (wyO S x).length ≤ j) → vI (w_wr pl (wyO S x).length (nI x) τ) 61 j = vI τ 61 j) := by
  obtain ⟨i, i1, i2⟩ := mem_getD hx
  have := y_wr (pl := pl) hK hp i τ i1 hP (by rw [i2]; exact hc)
  rw [i2] at this
  exact this
theorem rchN_c {sc sc' : Nat → List Nat} {V : Nat → Prop} (h : ∀ v, V v → sc v = sc' v) (hV : ∀ v, V v → ∀ t, t ∈ sc v → V t) : ∀ (k v w : Nat), V v → (rchN sc k v w ↔ rchN sc' k v w) := by
  intro k
  induction k with
  | zero => intro v w _; exact Iff.rfl
  | succ k ih =>
    intro v w hv
    constructor
    · rintro ⟨u, u1, u2⟩
      exact ⟨u, by rw [← h v hv]; exact u1, (ih u w (hV v hv u u1)).mp u2⟩
    · rintro ⟨u, u1, u2⟩
      rw [← h v hv] at u1
      exact ⟨u, u1, (ih u w (hV v hv u u1)).mpr u2⟩
theorem lpP_c {sc sc' : Nat → List Nat} {V : Nat → Prop} (h : ∀ v, V v → sc v = sc' v) (hV : ∀ v, V v → ∀ t, t ∈ sc v → V t) {v : Nat} (hv : V v) : lpP sc v ↔ lpP sc' v := by
  constructor
  · rintro ⟨u, u1, k, u2⟩
    exact ⟨u, by rw [← h v hv]; exact u1, k, (rchN_c h hV k u v (hV v hv u u1)).mp u2⟩
  · rintro ⟨u, u1, k, u2⟩
    rw [← h v hv] at u1
    exact ⟨u, u1, k, (rchN_c h hV k u v (hV v hv u u1)).mpr u2⟩
theorem gdP_c {sc sc' : Nat → List Nat} {V : Nat → Prop} {mk : Nat → Bool} (h : ∀ v, V v → sc v = sc' v) (hV : ∀ v, V v → ∀ t, t ∈ sc v → V t) {v : Nat} (hv : V v) : gdP sc mk v ↔ gdP sc' mk v := by
  constructor
  · rintro ⟨w, ⟨k, w1⟩, w2, w3⟩
    have wV := rchN_in (p := V) hV hv w1
    exact ⟨w, ⟨k, (rchN_c h hV k v w hv).mp w1⟩, w2, (lpP_c h hV wV).mp w3⟩
  · rintro ⟨w, ⟨k, w1⟩, w2, w3⟩
    have w1 := (rchN_c h hV k v w hv).mpr w1
    have wV := rchN_in (p := V) hV hv w1
    exact ⟨w, ⟨k, w1⟩, w2, (lpP_c h hV wV).mpr w3⟩
theorem gll_2 {G : gG} {v : Nat} : ∀ (k s : Nat), (gll G v k s).map (fun e => e.2) = gdr G v k s 0
  | 0, s => rfl
  | k + 1, s => by
    rw [gll, gdr, List.map_append, gll_2 k (s + 1), List.drop_zero, List.map_map]
    congr 1
    exact List.map_id _
theorem esc_g {G : gG} {el : Nat → List (Nat × Nat)} {v : Nat} (h : (el v).map e2k = glt G v) : esc el v = gsc G v := by
  unfold esc gsc
  rw [← gll_2, show gll G v (GL G) 0 = glt G v from rfl, ← h, List.map_map]
  rfl
/-- all that can be come to from the first ones -/
def gV (G : gG) (x : Nat) : Prop := x < GN G ∧ ∃ f, f < GN G ∧ GF G f = true ∧ rch (gsc G) f x
theorem gV.s {G : gG} (hG : gOk G) {x s t : Nat} (h : gV G x) (hs : s < GL G) (ht : t ∈ GS G x s) : gV G t := by
  obtain ⟨h1, f, f1, f2, f3⟩ := h
  exact ⟨(hG.2.2 x h1 s hs).2 t ht, f, f1, f2, f3.tr (rch.e (gsc_mem.mpr ⟨s, hs, ht⟩))⟩
theorem gV.sc {G : gG} (hG : gOk G) {x t : Nat} (h : gV G x) (ht : t ∈ gsc G x) : gV G t := by
  obtain ⟨s, h1, h2⟩ := gsc_mem.mp ht
  exact h.s hG h1 h2
def cShw (o : Option (List Nat × List Nat)) (τ : sS) : Prop := match o with
  | none => vI τ 56 6 = 0
  | some w => vI τ 56 6 = 1 ∧ w.1.length ≤ 1000 ∧ w.2.length ≤ 1001 ∧ vI τ 56 7 = nI w.1.length ∧ vI τ 56 8 = nI w.2.length ∧ ∀ j, j < w.1.length + w.2.length → vI τ 61 j = nI ((w.1 ++ w.2).getD j 0)
/-- the graph that the component shows from, the reference's edges of it -/
def gTie (G : gG) (el : Nat → List (Nat × Nat)) : Prop := gOk G ∧ GN G ≤ 1000 ∧ bO (gV G) el ∧ ∀ v, gV G v → (el v).map e2k = glt G v
noncomputable def gSh (G : gG) (el : Nat → List (Nat × Nat)) : Option (List Nat × List Nat) := shS el (GM G) (bA el 3001 0 (bI (GF G) (GN G) 0 bS0))
theorem bI_ok {p : Nat → Bool} : ∀ (k i : Nat) (S : bS), bK S → i + k ≤ 3000 → bK (bI p k i S) ∧ ∀ x, x ∈ (bI p k i S).1 → x ∈ S.1 ∨ (p x = true ∧ i ≤ x ∧ x < i + k)
  | 0, i, S, h, _ => ⟨h, fun x hx => Or.inl hx⟩
  | k + 1, i, S, h, hi => by
    rw [bI]
    by_cases c : p i = true
    · rw [if_pos c]
      obtain ⟨r1, r2⟩ := bI_ok k (i + 1) (bm i none S) (bK_bm h (by omega) (fun q hq => nomatch hq)) (by omega)
      refine ⟨r1, fun x hx => ?_⟩
      rcases r2 x hx with q | q
      · rcases bm_m q with z | z
        · exact Or.inl z
        · rw [z]; exact Or.inr ⟨c, by omega, by omega⟩
      · exact Or.inr ⟨q.1, by omega, by omega⟩
    · rw [if_neg c]
      obtain ⟨r1, r2⟩ := bI_ok k (i + 1) S h (by omega)
      refine ⟨r1, fun x hx => ?_⟩
      rcases r2 x hx with q | q
      · exact Or.inl q
      · exact Or.inr ⟨q.1, by omega, by omega⟩
theorem bK_0 : bK bS0 := ⟨List.nodup_nil, fun x hx => (nomatch hx), fun i w hi => (nomatch hi)⟩
theorem gT_ok {G : gG} {el : Nat → List (Nat × Nat)} (hT : gTie G el) : bK (bA el 3001 0 (bI (GF G) (GN G) 0 bS0)) ∧ (∀ x, x ∈ (bA el 3001 0 (bI (GF G) (GN G) 0 bS0)).1 → gV G x) ∧ ∀ x, x ∈ (bA el 3001 0 (bI (GF G) (GN G) 0 bS0)).1 → ∀ e, e ∈ el x → e.2 ∈ (bA el 3001 0 (bI (GF G) (GN G) 0 bS0)).1 := by
  obtain ⟨hG, h10, hO, hel⟩ := hT
  obtain ⟨k1, k2⟩ := bI_ok (p := GF G) (GN G) 0 bS0 bK_0 (by have := hG.1; omega)
  have hV : ∀ x, x ∈ (bI (GF G) (GN G) 0 bS0).1 → gV G x := fun x hx => by
    rcases k2 x hx with q | q
    · exact nomatch q
    · exact ⟨by omega, x, by omega, q.1, rch.rf⟩
  obtain ⟨-, -, b3, b4, -⟩ := bA_ok hO 3001 0 (bI (GF G) (GN G) 0 bS0) (by omega) k1.1 hV (Nat.zero_le _) (fun i hi => absurd hi (Nat.not_lt_zero i))
  exact ⟨bK_bA hO 3001 0 _ k1 hV, b3, b4⟩
theorem getD_r {l m : List Nat} {j : Nat} (h : l.length ≤ j) : (l ++ m).getD j 0 = m.getD (j - l.length) 0 := by
  rw [List.getD_eq_getElem?_getD, List.getD_eq_getElem?_getD, List.getElem?_append_right h]
theorem w_ln_e {τ : sS} {x k : Nat} (hx : x < 2 ^ 31) (hk : k < 2 ^ 20) (h : vI τ 60 x = nI (k + 1)) : w_ln τ (nI x) = k ∧ w_lo τ (nI x) := by
  have e : w_ln τ (nI x) = k := by
    unfold w_ln
    rw [rg_nI hx, h, nI_pred, nI_clamp (by omega)]
  refine ⟨e, ?_⟩
  unfold w_lo
  rw [e, rg_nI hx]
  exact ⟨h, hk⟩
theorem y_show {G : gG} {fV fF fL fN fE fM : fG} {el : Nat → List (Nat × Nat)} {B : Nat × Nat} {σ : sS} (hT : gTie G el) (hJ : ∀ τ, jrl σ τ → gSt G fF fN fE fM τ ∧ fV τ [] = nI (GN G) ∧ fL τ [] = nI (GL G)) (hR : Rm B σ) : Sh_ok fV fF fL fN fE fM (jrl σ) σ ∧ (Sh_r fV fF fL fN fE fM σ).1 = (if (gSh G el).isSome = true then 1 else 0) ∧ cShw (gSh G el) (Sh_r fV fF fL fN fE fM σ).2 ∧ jrl σ (Sh_r fV fF fL fN fE fM σ).2 ∧ Rm B (Sh_r fV fF fL fN fE fM σ).2 := by
  obtain ⟨hG, h10, hO, hel⟩ := hT
  have n3 := hG.1
  have l3 := hG.2.1
  obtain ⟨-, jV, jL⟩ := hJ σ jrl.rf
  have eV : nV fV σ = GN G := by unfold nV; rw [jV, nI_clamp (by omega)]
  have eL : nV fL σ = GL G := by unfold nV; rw [jL, nI_clamp (by omega)]
  obtain ⟨i1, i2, i3, i4⟩ := l_iniP (σ := σ) n3
  have hl : ∀ τ, lg (l_ini σ (GN G)) τ → jrl σ τ := fun τ h => jrl_l (i3.tr h.rel)
  obtain ⟨o1, o2⟩ := l_okP (J := jrl σ) (fF := fF) (fN := fN) (fE := fE) (fM := fM) hG hl (fun τ h => (hJ τ (hl τ h)).1)
  obtain ⟨y1, y2⟩ := y_run (fF := fF) (fN := fN) (fE := fE) (fM := fM) hG (fun τ h => (hJ τ (hl τ h)).1)
  have j0 := hl _ y2
  have R0 : Rm B (l_run fF fN fE fM (GL G) (GN G) σ) := (i4 B hR).c (by rw [y2.2])
  have c57 : vC (l_run fF fN fE fM (GL G) (GN G) σ) 57 ≤ 270000 := Nat.le_trans (R0.1 57 (by decide)) (by decide)
  have hsc : ∀ v, gV G v → esc el v = gsc G v := fun v hv => esc_g (hel v hv)
  have hcl : ∀ v, gV G v → ∀ t, t ∈ esc el v → gV G t := fun v hv t ht => hv.sc hG (by rw [← hsc v hv]; exact ht)
  unfold Sh_ok Sh_r Sh_1 w_sh gSh
  rw [eV, eL]
  generalize l_run fF fN fE fM (GL G) (GN G) σ = τ0 at y1 j0 R0 c57
  have hS0 : ∀ υ, srel τ0 υ → gSt G fF fN fE fM υ := fun υ h => (hJ υ (j0.tr (jrl_s h))).1
  have hq : ∀ υ, srel τ0 υ → ∀ x, gV G x → (w_so fM υ (nI x) = 0 ↔ ¬ shP el (GM G) x) := by
    intro υ h x hx
    obtain ⟨x1, f, f1, f2, f3⟩ := id hx
    obtain ⟨-, z1, -⟩ := y1 f x f1 f2 f3
    have m1 := (hS0 υ h x x1).2.1
    have e4 : l_hs υ (nI x) 4 = l_hs τ0 (nI x) 4 := by
      unfold l_hs
      rw [rg_nI (by omega), rg_nI (by omega), (h.1 22 (by omega)).1]
    have lp : lpP (esc el) x ↔ lpP (gsc G) x := lpP_c hsc hcl hx
    unfold w_so shP
    rw [e4, lp]
    by_cases a : fM υ [nI x] = 0
    · rw [if_pos a]
      exact ⟨fun _ z => absurd z.1 (by rw [m1.mp a]; exact Bool.false_ne_true), fun _ => rfl⟩
    · rw [if_neg a]
      have am : GM G x = true := by
        cases hm : GM G x with
        | true => rfl
        | false => exact absurd (m1.mpr hm) a
      by_cases b : l_hs τ0 (nI x) 4 = 0
      · rw [if_pos b]
        exact ⟨fun _ z => z1.mp b z.2, fun _ => rfl⟩
      · rw [if_neg b]
        exact ⟨fun z => absurd z (by decide), fun z => absurd ⟨am, Classical.byContradiction (fun w => b (z1.mpr w))⟩ z⟩
  obtain ⟨s1, s2⟩ := y_se1 (V := gV G) (q := shP el (GM G)) (el := el) hG hS0 hq (fun x h1 h2 => ⟨h1, x, h1, h2, rch.rf⟩) (fun x hx s hs t ht => hx.s hG hs ht) hel c57
  generalize w_se fF fN fE fM (GL G) (GN G) τ0 (-1) = r at s1 s2
  obtain ⟨-, TV, -⟩ := gT_ok ⟨hG, h10, hO, hel⟩
  generalize bA el 3001 0 (bI (GF G) (GN G) 0 bS0) = T at s2 TV
  have base : (∀ σ1 τ, srel σ1 τ → jrl σ σ1 → jrl σ τ) ∧ (∀ τ, jrl σ τ → fL τ [] = nI (GL G)) ∧ GL G ≤ 3 ∧ GN G ≤ 100000 ∧ (∀ σ1 τ, lrel σ1 τ → jrl σ σ1 → jrl σ τ) := ⟨fun σ1 τ a b => b.tr (jrl_s a), fun τ h => (hJ τ h).2.2, l3, by omega, fun σ1 τ a b => b.tr (jrl_l a)⟩
  rcases s2 with ⟨a1, a2⟩ | ⟨x, S', a1, a2⟩
  · have en : shS el (GM G) T = none := by unfold shS; rw [fstP_n a2]
    rw [en, a1]
    refine ⟨⟨_, base.1, base.2.1, base.2.2.1, base.2.2.2.1, base.2.2.2.2, o1, fun τ h => (hJ τ h).2.1, jrl.rf, o2, c57, fun z => absurd rfl z, fun z => absurd rfl z⟩, rfl, ?_, ?_, ?_⟩
    · show vI (w_sw fF fN fE fM (GL G) (GN G) r) 56 6 = 0
      unfold w_sw
      rw [if_pos a1]
      exact vI_e
    · show jrl σ (w_sw fF fN fE fM (GL G) (GN G) r)
      unfold w_sw
      rw [if_pos a1]
      exact (j0.tr (jrl_s s1.1)).tr (jrl_s srel.uI)
    · show Rm B (w_sw fF fN fE fM (GL G) (GN G) r)
      unfold w_sw
      rw [if_pos a1]
      exact (s1.2.2.2.2 B R0).c rfl
  · obtain ⟨b1, b2, b3, b4, pre, b5, b6⟩ := a2
    have xS : x ∈ S'.1 := by rw [b5]; simp
    have xn := b1.2.2.2.2.2.2 x xS
    obtain ⟨⟨m, em⟩, -⟩ := id b3
    have es : shS el (GM G) T = some (wyO S' x, rndO el x) := by
      unfold shS
      rw [em, b5, List.append_assoc, show [x] ++ m = x :: m from rfl, fstP_s b4 b6]
      show some (wyO T x, rndO el x) = _
      rw [bX_wyO b3 b2 xS]
    have xV : gV G x := TV x (b3.m xS)
    have hlS := nodup_len b2.1 b1.2.2.2.2.2.2
    have hle := wyO_le b2 xS
    obtain ⟨w, hw⟩ := bHA_lp hO xV b4.2
    have hrl := rndO_le hO (fun z hz => Nat.lt_of_lt_of_le hz.1 h10) xV
    have er : rndO el x = wyO (bHA el x 3001 0 (bH0 x)).2 w.1 ++ [w.2] := by
      unfold rndO rndW
      rw [hw]
    obtain ⟨ln1, lo1⟩ := w_ln_e (τ := r.2.2) (x := x) (k := (wyO S' x).length) (by omega) (by omega) (by rw [b1.2.2.1 x xn, if_pos xS])
    have P1 : cPa S' (rx (uI r.2.2 56 6 1) 61 (0 + (wyO S' x).length)) := fun y z hy hz => by
      rw [rx_at.1, rx_at.1, vI_q (fun q => absurd q.1 (by decide)), vI_q (fun q => absurd q.1 (by decide))]
      exact b1.2.2.2.1 y z hy hz
    obtain ⟨ww1, ww2⟩ := y_wrx (pl := 0) b2 (by omega) xS P1 (rx_cap (by omega))
    have e2 : w_2 r = uI (w_wr 0 (wyO S' x).length (nI x) (rx (uI r.2.2 56 6 1) 61 (0 + (wyO S' x).length))) 56 7 (nI (wyO S' x).length) := by
      unfold w_2 w_ww
      rw [a1, ln1]
    have q1 := w_wr_ok (pl := 0) (wyO S' x).length (nI x) (rx (uI r.2.2 56 6 1) 61 (0 + (wyO S' x).length))
    have sr2 : srel r.2.2 (w_2 r) := by
      rw [e2]
      exact ((srel.uI.tr (srel.rx (by decide) (by decide))).tr q1.1).tr srel.uI
    have R1 : Rm B (w_2 r) := by
      rw [e2]
      have k1 : Rm B (uI r.2.2 56 6 1) := (s1.2.2.2.2 B R0).c rfl
      have k2 := k1.rx (r := 61) (m := 0 + (wyO S' x).length) (by decide) (Or.inl (by omega))
      exact k2.c (by show (w_wr 0 (wyO S' x).length (nI x) (rx (uI r.2.2 56 6 1) 61 (0 + (wyO S' x).length))).2.2.2.2 = _; rw [q1.2.1])
    have c57' : vC (w_2 r) 57 ≤ 270000 := Nat.le_trans (R1.1 57 (by decide)) (by decide)
    have v566 : vI (w_2 r) 56 6 = 1 := by
      rw [e2, vI_q (fun q => absurd q.2 (by decide)), q1.2.2, rx_I, vI_e]
    have v567 : vI (w_2 r) 56 7 = nI (wyO S' x).length := by rw [e2, vI_e]
    have v61 : ∀ j, j < (wyO S' x).length → vI (w_2 r) 61 j = nI ((wyO S' x).getD j 0) := fun j hj => by
      have := ww1 j hj
      rw [show 0 + j = j from Nat.zero_add j] at this
      rw [e2, vI_q (fun q => absurd q.1 (by decide))]
      exact this
    have j2 : jrl σ (w_2 r) := (j0.tr (jrl_s s1.1)).tr (jrl_s sr2)
    obtain ⟨t1, t2⟩ := y_se2 (V := gV G) (fF := fF) (fN := fN) (fE := fE) (fM := fM) (τ := w_2 r) (el := el) hG h10 (fun υ h => (hJ υ (j2.tr (jrl_s h))).1) (fun x hx s hs t ht => hx.s hG hs ht) hel hO xn xV c57' hw
    rw [es]
    have e4 : w_sw fF fN fE fM (GL G) (GN G) r = w_4 (w_se fF fN fE fM (GL G) (GN G) (w_2 r) (nI x)).2.2 (nI x) (wyO S' x).length := by
      unfold w_sw
      rw [a1, ln1, if_neg (nI_n1' (by omega))]
    rw [e4, a1]
    generalize w_se fF fN fE fM (GL G) (GN G) (w_2 r) (nI x) = r2 at t1 t2
    obtain ⟨h1, h2, h3, h4, h5, h6, h7, h8⟩ := t2
    have hl2 : (rndO el x).length = (wyO (bHA el x 3001 0 (bH0 x)).2 w.1).length + 1 := by rw [er, List.length_append]; rfl
    generalize (bHA el x 3001 0 (bH0 x)).2 = S2 at h1 h2 h4 h5 h8 er hl2
    obtain ⟨ln2, lo2⟩ := w_ln_e (τ := r2.2.2) (x := x) (k := (wyO S2 w.1).length + 1) (by omega) (by omega) h8
    have w13 := h1.2.1 _ h2
    have cap : (wyO S' x).length + ((wyO S2 w.1).length + 1) ≤ vC (rx r2.2.2 61 ((wyO S' x).length + ((wyO S2 w.1).length + 1))) 61 := rx_cap (by omega)
    have st : rp (rx r2.2.2 61 ((wyO S' x).length + ((wyO S2 w.1).length + 1))) 61 (nI (wyO S' x).length + nI (wyO S2 w.1).length) (rg (rx r2.2.2 61 ((wyO S' x).length + ((wyO S2 w.1).length + 1))) 59 (nI x)) = uI (rx r2.2.2 61 ((wyO S' x).length + ((wyO S2 w.1).length + 1))) 61 ((wyO S' x).length + (wyO S2 w.1).length) (nI w.2) := by
      rw [nI_add, rp_n (by omega) (by omega), rg_nI (by omega), rx_at.1, h7]
    have st2 : rg (uI (rx r2.2.2 61 ((wyO S' x).length + ((wyO S2 w.1).length + 1))) 61 ((wyO S' x).length + (wyO S2 w.1).length) (nI w.2)) 58 (nI x) = nI w.1 := by
      rw [rg_nI (by omega), vI_q (fun q => absurd q.1 (by decide)), rx_at.1, h6]
    have P2 : cPa S2 (uI (rx r2.2.2 61 ((wyO S' x).length + ((wyO S2 w.1).length + 1))) 61 ((wyO S' x).length + (wyO S2 w.1).length) (nI w.2)) := fun y z hy hz => by
      rw [vI_q (fun q => absurd q.1 (by decide)), vI_q (fun q => absurd q.1 (by decide)), rx_at.1, rx_at.1]
      exact h5 y z hy hz
    obtain ⟨u1, u2⟩ := y_wrx (pl := (wyO S' x).length) h1 (by omega) h2 P2 (by show _ ≤ vC (rx r2.2.2 61 ((wyO S' x).length + ((wyO S2 w.1).length + 1))) 61; omega)
    have q2 := w_wr_ok (pl := (wyO S' x).length) (wyO S2 w.1).length (nI w.1) (uI (rx r2.2.2 61 ((wyO S' x).length + ((wyO S2 w.1).length + 1))) 61 ((wyO S' x).length + (wyO S2 w.1).length) (nI w.2))
    have e5 : w_4 r2.2.2 (nI x) (wyO S' x).length = uI (w_wr (wyO S' x).length (wyO S2 w.1).length (nI w.1) (uI (rx r2.2.2 61 ((wyO S' x).length + ((wyO S2 w.1).length + 1))) 61 ((wyO S' x).length + (wyO S2 w.1).length) (nI w.2))) 56 8 (nI ((wyO S2 w.1).length + 1)) := by
      unfold w_4 w_ww
      rw [ln2, w_wr, st, st2]
    have sr3 : srel r2.2.2 (w_4 r2.2.2 (nI x) (wyO S' x).length) := by
      rw [e5]
      have k0 : srel (rx r2.2.2 61 ((wyO S' x).length + ((wyO S2 w.1).length + 1))) (uI (rx r2.2.2 61 ((wyO S' x).length + ((wyO S2 w.1).length + 1))) 61 ((wyO S' x).length + (wyO S2 w.1).length) (nI w.2)) := ⟨fun b hb => ⟨vI_r (by omega), rfl, rfl⟩, rfl, rfl⟩
      exact (((srel.rx (by decide) (by decide)).tr k0).tr q2.1).tr srel.uI
    have v56 : ∀ k, k ≠ 8 → vI (w_4 r2.2.2 (nI x) (wyO S' x).length) 56 k = vI (w_2 r) 56 k := fun k hk => by
      rw [e5, vI_q (fun q => hk q.2), q2.2.2, vI_r (by decide), rx_I]
      exact t1.2.1 k
    have z61 : ∀ j, j < (wyO S' x).length + (rndO el x).length → vI (w_4 r2.2.2 (nI x) (wyO S' x).length) 61 j = nI ((wyO S' x ++ rndO el x).getD j 0) := fun j hj => by
      rw [e5, vI_q (fun q => absurd q.1 (by decide))]
      by_cases c : j < (wyO S' x).length
      · rw [u2 j (Or.inl c), vI_q (fun q => by have := q.2; omega), rx_at.1, t1.2.2.1 j, v61 j c, getD_app c]
      · rw [getD_r (by omega), er]
        by_cases d : j - (wyO S' x).length < (wyO S2 w.1).length
        · have := u1 _ d
          rw [show (wyO S' x).length + (j - (wyO S' x).length) = j by omega] at this
          rw [this, getD_app d]
        · have ej : j = (wyO S' x).length + (wyO S2 w.1).length := by omega
          rw [u2 j (Or.inr (by omega)), ej, vI_e, Nat.add_sub_cancel_left, getD_l]
    refine ⟨⟨_, base.1, base.2.1, base.2.2.1, base.2.2.2.1, base.2.2.2.2, o1, fun τ h => (hJ τ h).2.1, jrl.rf, o2, c57, fun _ => lo1, fun _ => lo2⟩, ?_, ⟨?_, by show (wyO S' x).length ≤ 1000; omega, by show (rndO el x).length ≤ 1001; omega, ?_, ?_, z61⟩, ?_, ?_⟩
    · show (if nI x = -1 then (0 : Int32) else 1) = 1
      exact if_neg (nI_n1' (by omega))
    · exact (v56 6 (by decide)).trans v566
    · exact (v56 7 (by decide)).trans v567
    · show vI (w_4 r2.2.2 (nI x) (wyO S' x).length) 56 8 = nI (rndO el x).length
      rw [e5, vI_e, hl2]
    · exact (j2.tr (jrl_s t1.1)).tr (jrl_s sr3)
    · show Rm B (w_4 r2.2.2 (nI x) (wyO S' x).length)
      rw [e5]
      have k2 := (t1.2.2.2.2 B R1).rx (r := 61) (m := (wyO S' x).length + ((wyO S2 w.1).length + 1)) (by decide) (Or.inl (by omega))
      exact k2.c (by show (w_wr (wyO S' x).length (wyO S2 w.1).length (nI w.1) (uI (rx r2.2.2 61 ((wyO S' x).length + ((wyO S2 w.1).length + 1))) 61 ((wyO S' x).length + (wyO S2 w.1).length) (nI w.2))).2.2.2.2 = _; rw [q2.2.1]; rfl)
