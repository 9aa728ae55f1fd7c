/-! graphs; the component goes on -/
/-- a graph: how many vertices, letters; the goals; the marked ones, the first ones -/
abbrev gG : Type := Nat × Nat × (Nat → Nat → List Nat) × (Nat → Bool) × (Nat → Bool)
abbrev GN (G : gG) : Nat := G.1
abbrev GL (G : gG) : Nat := G.2.1
abbrev GS (G : gG) : Nat → Nat → List Nat := G.2.2.1
abbrev GM (G : gG) : Nat → Bool := G.2.2.2.1
abbrev GF (G : gG) : Nat → Bool := G.2.2.2.2
def gdr (G : gG) (v : Nat) : Nat → Nat → Nat → List Nat
  | 0, _, _ => []
  | k + 1, s, i => (GS G v s).drop i ++ gdr G v k (s + 1) 0
def gsc (G : gG) (v : Nat) : List Nat := gdr G v (GL G) 0 0
theorem gdr_mem {G : gG} {v t : Nat} : ∀ {k s : Nat}, t ∈ gdr G v k s 0 ↔ ∃ s', s ≤ s' ∧ s' < s + k ∧ t ∈ GS G v s' := by
  intro k
  induction k with
  | zero => intro s; exact ⟨fun q => (nomatch q), fun ⟨s', h1, h2, _⟩ => by omega⟩
  | succ k ih =>
    intro s
    rw [gdr, List.drop_zero, List.mem_append, ih]
    constructor
    · rintro (q | ⟨s', h1, h2, h3⟩)
      · exact ⟨s, by omega, by omega, q⟩
      · exact ⟨s', by omega, by omega, h3⟩
    · rintro ⟨s', h1, h2, h3⟩
      by_cases e : s' = s
      · rw [e] at h3; exact Or.inl h3
      · exact Or.inr ⟨s', by omega, by omega, h3⟩
theorem gsc_mem {G : gG} {v t : Nat} : t ∈ gsc G v ↔ ∃ s, s < GL G ∧ t ∈ GS G v s := by
  unfold gsc
  rw [gdr_mem]
  exact ⟨fun ⟨s, _, h2, h3⟩ => ⟨s, by omega, h3⟩, fun ⟨s, h2, h3⟩ => ⟨s, by omega, by omega, h3⟩⟩
def gOk (G : gG) : Prop := GN G ≤ 3000 ∧ GL G ≤ 3 ∧ ∀ v, v < GN G → ∀ s, s < GL G → (GS G v s).length < 60000 ∧ ∀ t, t ∈ GS G v s → t < GN G
theorem gOk.sc {G : gG} (h : gOk G) {v t : Nat} (hv : v < GN G) (ht : t ∈ gsc G v) : t < GN G := by
  obtain ⟨s, h2, h3⟩ := gsc_mem.mp ht
  exact (h.2.2 v hv s h2).2 t h3
/-- the component's functions of a graph tell this graph -/
def gSt (G : gG) (fF fN fE fM : sS → List Int32 → Int32) (σ : sS) : Prop := ∀ v, v < GN G → (fF σ [nI v] = 0 ↔ GF G v = false) ∧ (fM σ [nI v] = 0 ↔ GM G v = false) ∧ ∀ s, s < GL G → fN σ [nI v, nI s] = nI (GS G v s).length ∧ ∀ i, i < (GS G v s).length → fE σ [nI v, nI s, nI i] = nI ((GS G v s).getD i 0)
def gCu (G : gG) (u c : Nat) (x : Int32) : Prop := ∃ s i, i < 65536 ∧ s ≤ GL G ∧ x = nI (s * 65536 + i) ∧ (gsc G u).drop c = gdr G u (GL G - s) s i ∧ c ≤ (gsc G u).length ∧ (s < GL G → i ≤ (GS G u s).length)
def mid (G : gG) (J : sS → Prop) (od lo cu : Nat → Nat) (gd lp : Nat → Bool) (hs pa pc : List Nat) (ne : Nat) (τ : sS) : Prop := J τ ∧ lR (gsc G) (GN G) od lo cu gd lp hs pa ne τ ∧ TI (gsc G) (GM G) od lo cu gd lp hs pa ne ∧ (∀ v, v < GN G → od v = 0 → vI τ 23 v = 0) ∧ (∀ k, 1 ≤ k → k ≤ ne → ∃ w, w < GN G ∧ od w = k) ∧ ∀ u, u ∈ pc → gCu G u (cu u) (vI τ 23 u)
def LI (G : gG) (J : sS → Prop) (pa : List Nat) (ne : Nat) (τ : sS) : Prop := ∃ od lo cu gd lp hs, mid G J od lo cu gd lp hs pa pa ne τ
def lmo (G : gG) (σ τ : sS) : Prop := ∀ w, w < GN G → vI σ 20 w ≠ 0 → vI τ 20 w ≠ 0
def lg (σ τ : sS) : Prop := (∀ b j, (b < 19 ∨ 25 < b) → vI τ b j = vI σ b j) ∧ τ.2 = σ.2
theorem lg.rf {σ : sS} : lg σ σ := ⟨fun _ _ _ => rfl, rfl⟩
theorem lg.tr {σ τ υ : sS} (h : lg σ τ) (k : lg τ υ) : lg σ υ := ⟨fun b j q => (k.1 b j q).trans (h.1 b j q), k.2.trans h.2⟩
theorem lg.rel {σ τ : sS} (h : lg σ τ) : lrel σ τ := lrel.of2 h.2 (fun b hb => funext fun j => h.1 b j hb)
theorem lf1.rel {σ τ : sS} (h : lf1 lL σ τ) : lg σ τ := ⟨fun b j hb => h.1 b j (fun q => by
  have : b ∈ [19, 20, 21, 22, 24, 25] := q
  simp only [List.mem_cons, List.not_mem_nil, or_false] at this
  omega), h.2⟩
theorem lR.u23 {sc : Nat → List Nat} {n ne v : Nat} {x : Int32} {od lo cu : Nat → Nat} {gd lp : Nat → Bool} {hs pa : List Nat} {τ : sS} (h : lR sc n od lo cu gd lp hs pa ne τ) : lR sc n od lo cu gd lp hs pa ne (uI τ 23 v x) := by
  obtain ⟨a1, a2, a3, a4, a5, a8, a9, a10, a11, a12, a13⟩ := h
  exact ⟨a1, a2, a3, ⟨a4.1.c (fun _ _ => rfl), a4.2⟩, ⟨a5.1.c (fun _ _ => rfl), a5.2⟩, a8, a9, a10, a11, a12, a13⟩
theorem lR.ne0 {sc : Nat → List Nat} {n ne v : Nat} {od lo cu : Nat → Nat} {gd lp : Nat → Bool} {hs pa : List Nat} {τ : sS} (h : lR sc n od lo cu gd lp hs pa ne τ) (hb : ∀ v, od v ≤ ne) (hv : v < n) : vI τ 20 v = 0 ↔ od v = 0 := by
  have := hb v
  have := h.2.2.2.2.2.2.2.2.2.1
  have := h.2.2.2.2.2.2.2.2.2.2
  rw [h.1 v hv]
  exact nI_k0 (by omega)
/-- one that is new leaves room -/
theorem ne_lt {n ne t : Nat} {od : Nat → Nat} (ht : t < n) (h0 : od t = 0) (h : ∀ k, 1 ≤ k → k ≤ ne → ∃ w, w < n ∧ od w = k) : ne < n := by
  have h' : ∀ k, ∃ w, k ≤ ne → (w < n ∧ od w = k) := by
    intro k
    by_cases q : k = 0
    · exact ⟨t, fun _ => ⟨ht, by rw [q]; exact h0⟩⟩
    · by_cases q2 : k ≤ ne
      · obtain ⟨w, hw⟩ := h k (by omega) q2
        exact ⟨w, fun _ => hw⟩
      · exact ⟨0, fun z => absurd z q2⟩
  have f := fun k => (h' k).choose_spec
  have := pigeon n (ne + 1) (fun k => (h' k).choose) (fun a ha => (f a (by omega)).1) (fun a b ha hb e => by
    have e1 := (f a (by omega)).2
    have e2 := (f b (by omega)).2
    have e : (h' a).choose = (h' b).choose := e
    rw [e] at e1
    exact e1.symm.trans e2)
  omega
theorem od_sur {n ne t : Nat} {od : Nat → Nat} (ht : t < n) (h0 : od t = 0) (h : ∀ k, 1 ≤ k → k ≤ ne → ∃ w, w < n ∧ od w = k) : ∀ k, 1 ≤ k → k ≤ ne + 1 → ∃ w, w < n ∧ pu od t (ne + 1) w = k := by
  intro k h1 h2
  by_cases e : k = ne + 1
  · exact ⟨t, ht, by rw [pu_s, e]⟩
  · obtain ⟨w, w1, w2⟩ := h k h1 (by omega)
    exact ⟨w, w1, by rw [pu_n (fun q => by rw [q] at w2; omega)]; exact w2⟩
theorem lmo.rf {G : gG} {σ : sS} : lmo G σ σ := fun _ _ q => q
theorem lmo.tr {G : gG} {σ τ υ : sS} (h : lmo G σ τ) (k : lmo G τ υ) : lmo G σ υ := fun w hw q => k w hw (h w hw q)
theorem mid.mo {G : gG} {J : sS → Prop} {od lo cu lo' cu' : Nat → Nat} {gd lp gd' lp' : Nat → Bool} {hs pa pc hs' pa' pc' : List Nat} {ne : Nat} {σ τ : sS} (h : mid G J od lo cu gd lp hs pa pc ne σ) (k : mid G J od lo' cu' gd' lp' hs' pa' pc' ne τ) : lmo G σ τ := fun w hw q z => q ((h.2.1.ne0 h.2.2.1.1.2.2.1 hw).mpr ((k.2.1.ne0 k.2.2.1.1.2.2.1 hw).mp z))
theorem cur_e {s i : Nat} : ((nI s <<< ((16 : Int32) &&& 31)) + nI i) + 1 = nI (s * 65536 + (i + 1)) := by
  rw [show ((16 : Int32) &&& 31) = nI 16 from rfl, nI_shl (by decide), nI_add, nI_1, Nat.add_assoc]
theorem y_gi {G : gG} {J : sS → Prop} {fF fN fE fM : sS → List Int32 → Int32} (hG : gOk G) (hst : ∀ σ τ, lg σ τ → J σ → J τ) (hS : ∀ σ, J σ → gSt G fF fN fE fM σ) {v s m ne : Nat} {od : Nat → Nat} {lp : Nat → Bool} {hs pr : List Nat} (hv : v < GN G) (hsL : s < GL G) (hm : GL G - s = m + 1) : ∀ (k i : Nat) (lo cu : Nat → Nat) (gd : Nat → Bool) (τ : sS), i + k = (GS G v s).length → mid G J od lo cu gd lp hs (v :: pr) pr ne τ → (gsc G v).drop (cu v) = (GS G v s).drop i ++ gdr G v m (s + 1) 0 → cu v ≤ (gsc G v).length → ((g_i fE (nI v) (nI s) k i τ).1 = false ∧ ∃ lo' cu' gd', mid G J od lo' cu' gd' lp hs (v :: pr) pr ne (g_i fE (nI v) (nI s) k i τ).2 ∧ (gsc G v).drop (cu' v) = gdr G v m (s + 1) 0 ∧ cu' v ≤ (gsc G v).length) ∨ ((g_i fE (nI v) (nI s) k i τ).1 = true ∧ ∃ t, LI G J (t :: v :: pr) (ne + 1) (g_i fE (nI v) (nI s) k i τ).2 ∧ lmo G τ (g_i fE (nI v) (nI s) k i τ).2) := by
  intro k
  induction k with
  | zero =>
    intro i lo cu gd τ hi h hd hcl
    rw [List.drop_eq_nil_of_le (show (GS G v s).length ≤ i by omega), List.nil_append] at hd
    exact Or.inl ⟨rfl, lo, cu, gd, h, hd, hcl⟩
  | succ k ih =>
    intro i lo cu gd τ hi h hd hcl
    obtain ⟨hJ, hR, hT, h23, hsu, hcu⟩ := id h
    have il : i < (GS G v s).length := by omega
    obtain ⟨g1, g2, g3⟩ := hG
    obtain ⟨L1, L2⟩ := g3 v hv s hsL
    have et : (GS G v s).getD i 0 = (GS G v s)[i] := by rw [List.getD_eq_getElem?_getD, List.getElem?_eq_getElem il]; rfl
    have edr : (GS G v s).drop i = (GS G v s)[i] :: (GS G v s).drop (i + 1) := List.drop_eq_getElem_cons il
    have eE := (((hS τ hJ v hv).2.2 s hsL).2 i il)
    rw [et] at eE
    have tn : (GS G v s)[i] < GN G := L2 _ (List.getElem_mem il)
    rw [edr] at hd
    generalize (GS G v s)[i] = t at eE tn hd
    rw [List.cons_append] at hd
    have hd' : (gsc G v).drop (cu v + 1) = (GS G v s).drop (i + 1) ++ gdr G v m (s + 1) 0 := by
      rw [← List.drop_drop, hd]; rfl
    have hcl' : cu v + 1 ≤ (gsc G v).length := by
      refine Classical.byContradiction (fun c => ?_)
      rw [List.drop_eq_nil_of_le (by omega)] at hd
      exact nomatch hd
    have vh : v ∈ hs := hT.1.2.2.2.2.2.1 v List.mem_cons_self
    have vpr : v ∉ pr := fun q => by have := (List.pairwise_cons.mp hT.1.2.2.2.2.1).1 v q; omega
    have e20 : rg τ 20 (nI t) = vI τ 20 t := rg_nI (by omega)
    rw [g_i, eE, e20]
    by_cases c : od t = 0
    · refine Or.inr ?_
      have c' := (hR.ne0 hT.1.2.2.1 tn).mpr c
      rw [if_pos c']
      refine ⟨rfl, t, ?_, ?_⟩
      all_goals
        have e1 : rp τ 23 (nI v) (((nI s <<< ((16 : Int32) &&& 31)) + nI i) + 1) = uI τ 23 v (nI (s * 65536 + (i + 1))) := by
          have := hR.2.2.2.2.2.2.1 23 (by decide) (by decide)
          rw [cur_e, rp_n (by omega) (by omega)]
        have hnd := pw_nd hT.1.2.2.2.1
        have hpl : (v :: pr).length ≤ hs.length := List.Nodup.length_le_of_subset (pw_nd hT.1.2.2.2.2.1) (fun x hx => hT.1.2.2.2.2.2.1 x hx)
        have nlt := ne_lt tn c hsu
        have tv : t ≠ v := fun q => hT.1.1 v vh (q ▸ c)
        have th : t ∉ hs := fun q => hT.1.1 t q c
        obtain ⟨k1, k2, k3⟩ := flv_cu (gd := gd) (lp := lp) (hs := hs) hd
        have t0 := hT.1.2.2.2.2.2.2.2 t c
        have hcn : ∀ w, w ≠ v → pu cu v (cu v + 1) w = cu w := fun w q => pu_n q
        obtain ⟨r1, r2⟩ := y_en (cu' := pu cu v (cu v + 1)) (hR.u23 (v := v) (x := nI (s * 65536 + (i + 1)))) hnd hpl tn c hT.1.1 nlt t0.2 (by rw [hcn t tv]; exact t0.1) (fun w hw q => by
          by_cases e : w = v
          · rw [e]; exact k2 tv
          · rw [hcn w e])
        rw [e1]
        generalize l_en (uI τ 23 v (nI (s * 65536 + (i + 1)))) (nI t) = υ at r1 r2
        have hJ1 : J (uI τ 23 v (nI (s * 65536 + (i + 1)))) := hst τ _ ⟨fun b j hb => vI_q (fun z => by have := z.1; omega), rfl⟩ hJ
        have r23 : ∀ j, vI υ 23 j = vI (uI τ 23 v (nI (s * 65536 + (i + 1)))) 23 j := fun j => r2.1 23 j (by decide)
      · refine ⟨_, _, _, _, _, _, hst _ _ r2.rel hJ1, r1, hT.child hd c, fun w hw q => ?_, od_sur tn c hsu, fun u hu => ?_⟩
        · have wt : w ≠ t := fun z => by rw [z, pu_s] at q; omega
          rw [pu_n wt] at q
          have wv : w ≠ v := fun z => hT.1.1 v vh (z ▸ q)
          show vI υ 23 w = 0
          rw [r23, vI_q (fun z => wv z.2)]
          exact h23 w hw q
        · show gCu G u (pu cu v (cu v + 1) u) (vI υ 23 u)
          rw [r23]
          rcases List.mem_cons.mp hu with q | q
          · rw [q, hcn t tv, t0.1, vI_q (fun z => tv z.2), h23 t tn c]
            exact ⟨0, 0, by decide, Nat.zero_le _, rfl, rfl, Nat.zero_le _, fun _ => Nat.zero_le _⟩
          · rcases List.mem_cons.mp q with q | q
            · rw [q, pu_s, vI_e]
              refine ⟨s, i + 1, by omega, by omega, rfl, ?_, hcl', fun _ => by omega⟩
              rw [hm, gdr]
              exact hd'
            · have uv : u ≠ v := fun z => vpr (z ▸ q)
              rw [hcn u uv, vI_q (fun z => uv z.2)]
              exact hcu u q
      · intro w hw q z
        by_cases e : w = t
        · rw [e] at q; exact q c'
        · have z' := (r1.ne0 (hT.child hd c).1.2.2.1 hw).mp z
          rw [pu_n e] at z'
          exact q ((hR.ne0 hT.1.2.2.1 hw).mpr z')
    · rw [if_neg (fun q => c ((hR.ne0 hT.1.2.2.1 tn).mp q))]
      have step : ∃ lo' gd', mid G J od lo' (pu cu v (cu v + 1)) gd' lp hs (v :: pr) pr ne (l_la τ (nI v) (nI t)) := by
        have fin : ∀ lo' gd', (lR (gsc G) (GN G) od lo' (pu cu v (cu v + 1)) gd' lp hs (v :: pr) ne (l_la τ (nI v) (nI t)) ∧ lf1 lL τ (l_la τ (nI v) (nI t))) → TI (gsc G) (GM G) od lo' (pu cu v (cu v + 1)) gd' lp hs (v :: pr) ne → mid G J od lo' (pu cu v (cu v + 1)) gd' lp hs (v :: pr) pr ne (l_la τ (nI v) (nI t)) := by
          intro lo' gd' r q
          refine ⟨hst _ _ r.2.rel hJ, r.1, q, fun w hw z => ?_, hsu, fun u hu => ?_⟩
          · rw [r.2.1 23 w (by decide)]; exact h23 w hw z
          · have uv : u ≠ v := fun z => vpr (z ▸ hu)
            rw [r.2.1 23 u (by decide), pu_n uv]
            exact hcu u hu
        by_cases th : t ∈ hs
        · exact ⟨_, _, fin _ _ (y_laH hR hT hd th) (hT.lookH hd th)⟩
        · exact ⟨_, _, fin _ _ (y_laR hR hT hd th tn) (hT.lookR hd c th)⟩
      obtain ⟨lo', gd', hs'⟩ := step
      rcases ih (i + 1) lo' (pu cu v (cu v + 1)) gd' _ (by omega) hs' (by rw [pu_s]; exact hd') (by rw [pu_s]; exact hcl') with q | ⟨q1, t', q2, q3⟩
      · exact Or.inl q
      · exact Or.inr ⟨q1, t', q2, (h.mo hs').tr q3⟩
theorem y_go {G : gG} {J : sS → Prop} {fF fN fE fM : sS → List Int32 → Int32} (hG : gOk G) (hst : ∀ σ τ, lg σ τ → J σ → J τ) (hS : ∀ σ, J σ → gSt G fF fN fE fM σ) {v ne : Nat} {od : Nat → Nat} {lp : Nat → Bool} {hs pr : List Nat} (hv : v < GN G) : ∀ (k s i : Nat) (lo cu : Nat → Nat) (gd : Nat → Bool) (τ : sS), k = GL G - s → (s < GL G → i ≤ (GS G v s).length) → mid G J od lo cu gd lp hs (v :: pr) pr ne τ → (gsc G v).drop (cu v) = gdr G v k s i → cu v ≤ (gsc G v).length → ((g_o fN fE (nI v) k s i τ).1 = false ∧ ∃ lo' cu' gd', mid G J od lo' cu' gd' lp hs (v :: pr) pr ne (g_o fN fE (nI v) k s i τ).2 ∧ cu' v = (gsc G v).length) ∨ ((g_o fN fE (nI v) k s i τ).1 = true ∧ ∃ t, LI G J (t :: v :: pr) (ne + 1) (g_o fN fE (nI v) k s i τ).2 ∧ lmo G τ (g_o fN fE (nI v) k s i τ).2) := by
  intro k
  induction k with
  | zero =>
    intro s i lo cu gd τ hk hi h hd hcl
    refine Or.inl ⟨rfl, lo, cu, gd, h, ?_⟩
    have := List.drop_eq_nil_iff.mp (show (gsc G v).drop (cu v) = [] from hd)
    omega
  | succ k ih =>
    intro s i lo cu gd τ hk hi h hd hcl
    have hsL : s < GL G := by omega
    have hl := hi hsL
    have eN := ((hS τ h.1 v hv).2.2 s hsL).1
    have L1 := (hG.2.2 v hv s hsL).1
    have eF : g_F fN τ (nI v) (nI s) = (GS G v s).length := by
      unfold g_F
      rw [eN, nI_clamp (by omega)]
    rw [g_o, eF]
    rcases y_gi (s := s) (m := k) hG hst hS hv hsL (by omega) ((GS G v s).length - i) i lo cu gd τ (by omega) h hd hcl with ⟨q1, lo', cu', gd', q2, q3, q4⟩ | q
    · rw [if_neg (by rw [q1]; decide)]
      rcases ih (s + 1) 0 lo' cu' gd' _ (by omega) (fun _ => Nat.zero_le _) q2 q3 q4 with z | ⟨z1, t, z2, z3⟩
      · exact Or.inl z
      · exact Or.inr ⟨z1, t, z2, (h.mo q2).tr z3⟩
    · rw [if_pos q.1]
      exact Or.inr q
theorem LI.hok {G : gG} {J : sS → Prop} {v ne : Nat} {pr : List Nat} {τ : sS} (h : LI G J (v :: pr) ne τ) (l3 : GL G ≤ 3) : v < GN G ∧ hok τ ∧ l_tp τ = nI v ∧ ∃ c, c < 2 ^ 30 ∧ rg τ 23 (nI v) = nI c := by
  obtain ⟨od, lo, cu, gd, lp, hs, hJ, hR, hT, h23, hsu, hcu⟩ := h
  have vh : v ∈ hs := hT.1.2.2.2.2.2.1 v List.mem_cons_self
  have vn := hR.2.2.2.2.2.2.2.1 v vh
  have n3 := hR.2.2.2.2.2.2.2.2.2.1
  have hl := nodup_len (pw_nd hT.1.2.2.2.1) hR.2.2.2.2.2.2.2.1
  have pl := nodup_len (pw_nd hT.1.2.2.2.2.1) (fun x hx => hR.2.2.2.2.2.2.2.1 x (hT.1.2.2.2.2.2.1 x hx))
  rw [List.length_cons] at pl
  refine ⟨vn, ⟨hs.length - 1, by omega, ?_⟩, ?_, ?_⟩
  · rw [hR.2.2.2.2.1.2]
    have : 0 < hs.length := List.length_pos_of_mem vh
    rw [show hs.length - 1 + 1 = hs.length by omega]
  · unfold l_tp
    rw [hR.2.2.2.1.2, List.length_cons, nI_pred, rg_nI (by omega)]
    exact hR.2.2.2.1.1.1
  · obtain ⟨s, i, h1, h2, h3, h4⟩ := hcu v List.mem_cons_self
    exact ⟨s * 65536 + i, by omega, by rw [rg_nI (by omega)]; exact h3⟩
/-- one step: deeper or back -/
theorem y_gon {G : gG} {J : sS → Prop} {fF fN fE fM : sS → List Int32 → Int32} (hG : gOk G) (hst : ∀ σ τ, lg σ τ → J σ → J τ) (hS : ∀ σ, J σ → gSt G fF fN fE fM σ) {v ne : Nat} {pr : List Nat} {τ : sS} (h : LI G J (v :: pr) ne τ) : ((∃ t, LI G J (t :: v :: pr) (ne + 1) (l_gon fN fE fM (GL G) τ (nI v))) ∨ LI G J pr ne (l_gon fN fE fM (GL G) τ (nI v))) ∧ lmo G τ (l_gon fN fE fM (GL G) τ (nI v)) := by
  obtain ⟨vn, -, -, -⟩ := h.hok hG.2.1
  obtain ⟨od, lo, cu, gd, lp, hs, hm⟩ := h
  obtain ⟨hJ, hR, hT, h23, hsu, hcu⟩ := id hm
  have n3 := hG.1
  have l3 := hG.2.1
  obtain ⟨s, i, h1, h2, h3, h4, h5, h6⟩ := hcu v List.mem_cons_self
  have e23 : (rg τ 23 (nI v)).toNatClampNeg = s * 65536 + i := by rw [rg_nI (by omega), h3, nI_clamp (by omega)]
  have eg : l_gon fN fE fM (GL G) τ (nI v) = l_g2 fN fE fM (nI v) (GL G - s) s i τ := by
    unfold l_gon
    rw [e23, show (s * 65536 + i) / 65536 = s by omega, show (s * 65536 + i) % 65536 = i by omega]
  rw [eg]
  unfold l_g2
  have hm' : mid G J od lo cu gd lp hs (v :: pr) pr ne τ := ⟨hJ, hR, hT, h23, hsu, fun u hu => hcu u (List.mem_cons_of_mem _ hu)⟩
  rcases y_go hG hst hS vn (GL G - s) s i lo cu gd τ rfl h6 hm' h4 h5 with ⟨q1, lo', cu', gd', q2, q3⟩ | ⟨q1, t, q2, q3⟩
  · rw [if_neg (by rw [q1]; decide)]
    generalize (g_o fN fE (nI v) (GL G - s) s i τ).2 = υ at q2
    obtain ⟨kJ, kR, kT, k23, ksu, kcu⟩ := id q2
    have vh : v ∈ hs := kT.1.2.2.2.2.2.1 v List.mem_cons_self
    have lv := (kT.2.1 v vh).1
    have fin : ∀ lo'' gd'' lp'' hs'', lR (gsc G) (GN G) od lo'' cu' gd'' lp'' hs'' pr ne (l_lv fM υ (nI v)) → TI (gsc G) (GM G) od lo'' cu' gd'' lp'' hs'' pr ne → lf1 lL υ (l_lv fM υ (nI v)) → LI G J pr ne (l_lv fM υ (nI v)) ∧ lmo G τ (l_lv fM υ (nI v)) := by
      intro lo'' gd'' lp'' hs'' r1 r2 r3
      have m : mid G J od lo'' cu' gd'' lp'' hs'' pr pr ne (l_lv fM υ (nI v)) := by
        refine ⟨hst _ _ r3.rel kJ, r1, r2, fun w hw z => ?_, ksu, fun u hu => ?_⟩
        · rw [r3.1 23 w (by decide)]; exact k23 w hw z
        · rw [r3.1 23 u (by decide)]; exact kcu u hu
      exact ⟨⟨_, _, _, _, _, _, m⟩, (hm'.mo q2).tr (q2.mo m)⟩
    by_cases c : lo' v < od v
    · cases hp : pr with
      | nil =>
        exfalso
        rw [hp] at kT
        obtain ⟨u, u1, u2, -⟩ := (kT.2.1 v vh).2
        obtain ⟨p, p1, p2, -⟩ := kT.2.2.2.2.1 u u1
        rw [List.mem_singleton.mp p1] at p2
        omega
      | cons b l =>
        rw [hp] at kR kT fin
        have pl := nodup_len (pw_nd kT.1.2.2.2.2.1) (fun x hx => kR.2.2.2.2.2.2.2.1 x (kT.1.2.2.2.2.2.1 x hx))
        simp only [List.length_cons] at pl
        obtain ⟨r1, r2⟩ := y_lvB (fM := fM) kR kT c (by omega)
        obtain ⟨f1, f2⟩ := fin _ _ _ _ r1 (kT.back q3 c) r2
        exact ⟨Or.inr f1, f2⟩
    · obtain ⟨gd'', lp'', hr, r1, r2, r3⟩ := y_lvR (fM := fM) kR kT (fun σ' hσ w hw => (hS σ' (hst _ _ hσ.rel kJ) w hw).2.1) q3 (by omega)
      obtain ⟨f1, f2⟩ := fin _ _ _ _ r1 r2 r3
      exact ⟨Or.inr f1, f2⟩
  · rw [if_pos q1]
    exact ⟨Or.inl ⟨t, q2⟩, q3⟩
