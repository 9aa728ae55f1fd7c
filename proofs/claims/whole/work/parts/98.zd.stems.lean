/-! rounds: the component follows stems -/
def rdI (B : Nat × Nat) (G : gG) (P Gi : Nat) (σ0 : sS) (F H : Nat) (A : Nat → Nat → Prop) (τ : sS) : Prop := brl σ0 τ ∧ frw F (GN G) A τ ∧ frw H (GN G) (fun _ _ => False) τ ∧ (∀ v, v < GN G → vI τ 48 v = if GM G v = true then 1 else 0) ∧ vI τ 45 7 = nI (GN G) ∧ r_d F H Gi P τ ∧ Rm B τ
theorem y_tu {B : Nat × Nat} {G : gG} {P Gi F H : Nat} {σ0 τ : sS} {AF A : Nat → Nat → Prop} (hG : gOk G) (hFH : fh F H) (hb : brl σ0 τ) (hF : frw F (GN G) AF τ) (hH : frw H (GN G) A τ) (h48 : ∀ v, v < GN G → vI τ 48 v = if GM G v = true then 1 else 0) (h7 : vI τ 45 7 = nI (GN G)) (hd : r_d F H Gi P τ) (hR : Rm B τ) : rdI B G P Gi σ0 H F A (r_tu F H (GN G) τ) := by
  obtain ⟨ne, F1, F2, H1, H2, F5, H5⟩ := fh_ne hFH
  obtain ⟨k1, k2⟩ := r_tu_ok (n := GN G) hFH hd
  unfold r_tu at k1 k2 ⊢
  have R1 : Rm B (uR (uR τ 45 1 (some H)) 45 2 (some F)) := hR.c rfl
  have cv : ∀ b j, vI (uR (uR τ 45 1 (some H)) 45 2 (some F)) b j = vI τ b j := fun _ _ => rfl
  have cc : ∀ b, vC (uR (uR τ 45 1 (some H)) 45 2 (some F)) b = vC τ b := fun _ => rfl
  generalize uR (uR τ 45 1 (some H)) 45 2 (some F) = τ1 at k1 k2 R1 cv cc
  obtain ⟨z1, z2, z3, z4, z5, z6, z7⟩ := rz_at (σ := τ1) (r := F) (m := GN G)
  have n3 := hG.1
  refine ⟨hb.tr (brl_r k1), ?_, ⟨?_, fun v hv => ⟨0, z1 v hv, by decide, fun k => ?_⟩⟩, fun v hv => ?_, ?_, k2, R1.rz (by rcases hFH with q | q <;> (rw [q.1]; decide)) (Or.inl n3)⟩
  · exact hH.c (fun j _ => (z2 H j (Ne.symm ne)).trans (cv H j)) ((z3 H).trans ((rx_Cn (Ne.symm ne)).trans (cc H))) (fun _ _ _ => Iff.rfl)
  · rw [z3]; exact rx_cap (by omega)
  · rw [Nat.zero_testBit]
    exact ⟨fun q => (nomatch q), fun q => q.elim⟩
  · rw [z2 48 v (by omega), cv]; exact h48 v hv
  · rw [z2 45 7 (by omega), cv]; exact h7
/-- all stems are gone along by a letter -/
theorem y_sg {B : Nat × Nat} {G : gG} {fF fN fE fM : sS → List Int32 → Int32} {σ0 : sS} {P Gi F H s : Nat} {A : Nat → Nat → Prop} {τ : sS} (hG : gOk G) (hFH : fh F H) (hS : ∀ τ, brl σ0 τ → gSt G fF fN fE fM τ) (hs : s < GL G) (h : rdI B G P Gi σ0 F H A τ) : rdI B G P Gi σ0 H F (fun t j => ∃ u, u < GN G ∧ t ∈ GS G u s ∧ A u j) (r_tu F H (GN G) (r_av fN fE F H (GL G) (nI s) 0 (GN G) 0 τ)) := by
  obtain ⟨ne, F1, F2, H1, H2, F5, H5⟩ := fh_ne hFH
  obtain ⟨h1, h2, h3, h4, h5, h6, h7⟩ := h
  obtain ⟨r1, r2⟩ := y_av (b := 0) hG hFH hS hs (by decide) (GN G) 0 _ τ (by omega) h1 h2 h3
  have r1 : frw H (GN G) (fun t j => False ∨ ∃ u, 0 ≤ u ∧ u < GN G ∧ t ∈ GS G u s ∧ LN 0 (GL G) s (A u) j) (r_av fN fE F H (GL G) (nI s) 0 (GN G) 0 τ) := r1
  have r2 : lf1 [H] τ (r_av fN fE F H (GL G) (nI s) 0 (GN G) 0 τ) := r2
  generalize r_av fN fE F H (GL G) (nI s) 0 (GN G) 0 τ = τ1 at r1 r2
  have o : ∀ b j, b ≠ H → vI τ1 b j = vI τ b j := fun b j hb => r2.1 b j (fun q => hb (List.mem_singleton.mp q))
  refine y_tu hG hFH (h1.tr (brl_f r2 H1 H2)) (h2.c (fun j _ => o F j ne) (by unfold vC; rw [r2.2]) (fun _ _ _ => Iff.rfl)) (r1.c (fun _ _ => rfl) rfl (fun t j _ => ?_)) (fun v hv => (o 48 v (by omega)).trans (h4 v hv)) ((o 45 7 (by omega)).trans h5) ?_ (h7.c (by rw [r2.2]))
  · constructor
    · rintro (q | ⟨u, -, u2, u3, u4⟩)
      · exact q.elim
      · exact ⟨u, u2, u3, u4⟩
    · rintro ⟨u, u2, u3, u4⟩
      exact Or.inr ⟨u, Nat.zero_le _, u2, u3, u4⟩
  · obtain ⟨d1, d2, d3, d4⟩ := h6
    have e : ∀ k, vR τ1 45 k = vR τ 45 k := fun k => by unfold vR; rw [r2.2]
    exact ⟨(e 1).trans d1, (e 2).trans d2, (e 5).trans d3, (e 6).trans d4⟩
theorem rdI.c {B : Nat × Nat} {G : gG} {P Gi F H : Nat} {σ0 τ : sS} {A A' : Nat → Nat → Prop} (h : rdI B G P Gi σ0 F H A τ) (hA : ∀ v k, v < GN G → (A v k ↔ A' v k)) : rdI B G P Gi σ0 F H A' τ := ⟨h.1, h.2.1.c (fun _ _ => rfl) rfl hA, h.2.2⟩
theorem take_s {l : List Nat} {i : Nat} (h : i < l.length) : l.take (i + 1) = l.take i ++ [l.getD i 0] := by
  rw [List.take_succ, List.getD_eq_getElem?_getD, List.getElem?_eq_getElem h]
  rfl
theorem y_rgo {B : Nat × Nat} {G : gG} {fF fN fE fM : sS → List Int32 → Int32} {σ0 : sS} {P Gi : Nat} {w : List Nat} (hG : gOk G) (hS : ∀ τ, brl σ0 τ → gSt G fF fN fE fM τ) (hw : ∀ j, j < w.length → vI σ0 6 j = nI (w.getD j 0)) (hwg : ∀ s, s ∈ w → s < GL G) (hwl : w.length ≤ 10) : ∀ (k i F H : Nat) (τ : sS), i + k = w.length → fh F H → rdI B G P Gi σ0 F H (fun v j => j = 0 ∧ frm G (w.take i) v) τ → rdI B G P Gi σ0 (r_ff k F H).1 (r_ff k F H).2 (fun v j => j = 0 ∧ frm G w v) (r_go fN fE (GL G) (GN G) k i F H τ) ∧ fh (r_ff k F H).1 (r_ff k F H).2 := by
  intro k
  induction k with
  | zero =>
    intro i F H τ hi hFH h
    rw [List.take_of_length_le (by omega)] at h
    exact ⟨h, hFH⟩
  | succ k ih =>
    intro i F H τ hi hFH h
    have hi' : i < w.length := by omega
    have sg := hwg _ (getD_mem hi')
    have e6 : rg τ 6 (nI i) = nI (w.getD i 0) := by
      rw [rg_nI (by omega), (h.1.1 6 (by omega)).1]; exact hw i hi'
    rw [r_go, r_ff, e6]
    have hFH2 : fh H F := by rcases hFH with q | q <;> (unfold fh; omega)
    have n1 := y_sg hG hFH hS sg h
    refine ih (i + 1) H F _ (by omega) hFH2 (n1.c (fun t j _ => ?_))
    rw [take_s hi']
    constructor
    · rintro ⟨u, u1, u2, u3, u4⟩
      exact ⟨u3, frm_s.mpr ⟨u, u4, u2⟩⟩
    · rintro ⟨h1, h2⟩
      obtain ⟨u, u1, u2⟩ := frm_s.mp h2
      exact ⟨u, frm_n hG (fun s hs => hwg s (List.mem_of_mem_take hs)) u1, u2, h1, u1⟩
/-! all stems of a length at once -/
def be (g : Nat) (l : List Nat) : Nat := l.foldl (fun a s => a * g + s) 0
theorem be_s {g s : Nat} {l : List Nat} : be g (l ++ [s]) = be g l * g + s := by
  unfold be
  rw [List.foldl_append]
  rfl
theorem snoc_of {l : List Nat} {n : Nat} (h : l.length = n + 1) : ∃ m s, l = m ++ [s] ∧ m.length = n := by
  have hl : l ≠ [] := fun e => by rw [e] at h; exact nomatch h
  refine ⟨l.dropLast, l.getLast hl, (List.dropLast_concat_getLast hl).symm, ?_⟩
  rw [List.length_dropLast]; omega
theorem be_lt {g : Nat} : ∀ (n : Nat) (l : List Nat), l.length = n → (∀ s, s ∈ l → s < g) → be g l < g ^ n := by
  intro n
  induction n with
  | zero =>
    intro l hl _
    rw [List.length_eq_zero_iff.mp hl]
    exact Nat.one_pos
  | succ n ih =>
    intro l hl hs
    obtain ⟨m, s, e, hm⟩ := snoc_of hl
    rw [e] at hs
    have h1 := ih m hm (fun x hx => hs x (List.mem_append.mpr (Or.inl hx)))
    have h2 := hs s (by simp)
    rw [e, be_s, Nat.pow_succ]
    have : (be g m + 1) * g ≤ g ^ n * g := Nat.mul_le_mul_right _ h1
    rw [Nat.succ_mul] at this
    omega
def stA (G : gG) (i v k : Nat) : Prop := ∃ l, l.length = i ∧ (∀ s, s ∈ l → s < GL G) ∧ be (GL G) l = k ∧ frm G l v
theorem y_as {G : gG} {fF fN fE fM : sS → List Int32 → Int32} {σ0 : sS} {F H : Nat} {AF : Nat → Nat → Prop} (hG : gOk G) (hFH : fh F H) (hS : ∀ τ, brl σ0 τ → gSt G fF fN fE fM τ) : ∀ (k s : Nat) (A : Nat → Nat → Prop) (τ : sS), s + k = GL G → brl σ0 τ → frw F (GN G) AF τ → frw H (GN G) A τ → frw H (GN G) (fun t j => A t j ∨ ∃ s', s ≤ s' ∧ s' < GL G ∧ ∃ u, u < GN G ∧ t ∈ GS G u s' ∧ LN 1 (GL G) s' (AF u) j) (r_as fN fE F H (GL G) (GN G) k s τ) ∧ lf1 [H] τ (r_as fN fE F H (GL G) (GN G) k s τ) := by
  obtain ⟨ne, F1, F2, H1, H2, F5, H5⟩ := fh_ne hFH
  intro k
  induction k with
  | zero =>
    intro s A τ hs hb hF h
    exact ⟨h.c (fun _ _ => rfl) rfl (fun t j _ => ⟨Or.inl, fun q => q.elim id (fun ⟨s', h1, h2, _⟩ => by omega)⟩), lf1.rf⟩
  | succ k ih =>
    intro s A τ hs hb hF h
    rw [r_as]
    obtain ⟨r1, r2⟩ := y_av (b := 1) (s := s) hG hFH hS (by omega) (by decide) (GN G) 0 A τ (by omega) hb hF h
    have r1 : frw H (GN G) (fun t j => A t j ∨ ∃ u, 0 ≤ u ∧ u < GN G ∧ t ∈ GS G u s ∧ LN 1 (GL G) s (AF u) j) (r_av fN fE F H (GL G) (nI s) 1 (GN G) 0 τ) := r1
    have r2 : lf1 [H] τ (r_av fN fE F H (GL G) (nI s) 1 (GN G) 0 τ) := r2
    generalize r_av fN fE F H (GL G) (nI s) 1 (GN G) 0 τ = τ1 at r1 r2
    have hF1 : frw F (GN G) AF τ1 := hF.c (fun j _ => r2.1 F j (fun q => ne (List.mem_singleton.mp q))) (by unfold vC; rw [r2.2]) (fun _ _ _ => Iff.rfl)
    obtain ⟨i1, i2⟩ := ih (s + 1) _ τ1 (by omega) (hb.tr (brl_f r2 H1 H2)) hF1 r1
    refine ⟨i1.c (fun _ _ => rfl) rfl (fun t j _ => ?_), r2.tr i2⟩
    constructor
    · rintro ((q | ⟨u, -, u2, u3, u4⟩) | ⟨s', s1, s2, s3⟩)
      · exact Or.inl q
      · exact Or.inr ⟨s, by omega, by omega, u, u2, u3, u4⟩
      · exact Or.inr ⟨s', by omega, s2, s3⟩
    · rintro (q | ⟨s', s1, s2, u, u2, u3, u4⟩)
      · exact Or.inl (Or.inl q)
      · by_cases e : s' = s
        · rw [e] at u3 u4; exact Or.inl (Or.inr ⟨u, Nat.zero_le _, u2, u3, u4⟩)
        · exact Or.inr ⟨s', by omega, s2, u, u2, u3, u4⟩
theorem y_rag {B : Nat × Nat} {G : gG} {fF fN fE fM : sS → List Int32 → Int32} {σ0 : sS} {P Gi : Nat} (hG : gOk G) (hS : ∀ τ, brl σ0 τ → gSt G fF fN fE fM τ) : ∀ (k i F H : Nat) (τ : sS), i + k ≤ 3 → fh F H → rdI B G P Gi σ0 F H (stA G i) τ → rdI B G P Gi σ0 (r_ff k F H).1 (r_ff k F H).2 (stA G (i + k)) (r_ag fN fE (GL G) (GN G) k F H τ) ∧ fh (r_ff k F H).1 (r_ff k F H).2 := by
  intro k
  induction k with
  | zero => intro i F H τ _ hFH h; exact ⟨h, hFH⟩
  | succ k ih =>
    intro i F H τ hi hFH h
    obtain ⟨ne, F1, F2, H1, H2, F5, H5⟩ := fh_ne hFH
    have l3 := hG.2.1
    rw [r_ag, r_ff]
    have hFH2 : fh H F := by rcases hFH with q | q <;> (unfold fh; omega)
    obtain ⟨h1, h2, h3, h4, h5, h6, h7⟩ := h
    obtain ⟨r1, r2⟩ := y_as hG hFH hS (GL G) 0 _ τ (by omega) h1 h2 h3
    generalize r_as fN fE F H (GL G) (GN G) (GL G) 0 τ = τ1 at r1 r2
    have o : ∀ b j, b ≠ H → vI τ1 b j = vI τ b j := fun b j hb => r2.1 b j (fun q => hb (List.mem_singleton.mp q))
    have n1 : rdI B G P Gi σ0 H F (stA G (i + 1)) (r_tu F H (GN G) τ1) := by
      refine y_tu hG hFH (h1.tr (brl_f r2 H1 H2)) (h2.c (fun j _ => o F j ne) (by unfold vC; rw [r2.2]) (fun _ _ _ => Iff.rfl)) (r1.c (fun _ _ => rfl) rfl (fun t j _ => ?_)) (fun v hv => (o 48 v (by omega)).trans (h4 v hv)) ((o 45 7 (by omega)).trans h5) ?_ (h7.c (by rw [r2.2]))
      · constructor
        · rintro (q | ⟨s, -, s2, u, u2, u3, u4⟩)
          · exact q.elim
          · obtain ⟨x, x1, ⟨l, l1, l2, l3, l4⟩, x3⟩ := u4
            refine ⟨l ++ [s], by rw [List.length_append, l1]; rfl, fun y hy => ?_, by rw [be_s, l3, x3], frm_s.mpr ⟨u, l4, u3⟩⟩
            rcases List.mem_append.mp hy with z | z
            · exact l2 y z
            · rw [List.mem_singleton.mp z]; exact s2
        · rintro ⟨l, l1, l2, l3', l4⟩
          obtain ⟨m, s, e, hm⟩ := snoc_of l1
          rw [e] at l2 l3' l4
          obtain ⟨u, u1, u2⟩ := frm_s.mp l4
          have hms : ∀ y, y ∈ m → y < GL G := fun y hy => l2 y (List.mem_append.mpr (Or.inl hy))
          have hb := be_lt i m hm hms
          have h9 : GL G ^ i ≤ 9 := by
            have e1 : GL G ^ i ≤ 3 ^ i := Nat.pow_le_pow_left l3 i
            have e2 : (3 : Nat) ^ i ≤ 3 ^ 2 := Nat.pow_le_pow_right (by decide) (by omega)
            omega
          refine Or.inr ⟨s, Nat.zero_le _, l2 s (by simp), u, frm_n hG hms u1, u2, ?_⟩
          refine ⟨be (GL G) m, by omega, ⟨m, hm, hms, rfl, u1⟩, ?_⟩
          rw [← l3', be_s]
      · obtain ⟨d1, d2, d3, d4⟩ := h6
        have e : ∀ k, vR τ1 45 k = vR τ 45 k := fun k => by unfold vR; rw [r2.2]
        exact ⟨(e 1).trans d1, (e 2).trans d2, (e 5).trans d3, (e 6).trans d4⟩
    have := ih (i + 1) H F _ (by omega) hFH2 n1
    rw [show i + 1 + k = i + (k + 1) by omega] at this
    exact this
/-! setting out -/
theorem y_so {G : gG} {fF fN fE fM : sS → List Int32 → Int32} {σ0 : sS} {F H : Nat} (hG : gOk G) (hFH : fh F H) (hS : ∀ τ, brl σ0 τ → gSt G fF fN fE fM τ) : ∀ (k i : Nat) (τ : sS), i + k = GN G → brl σ0 τ → GN G ≤ vC τ F → GN G ≤ vC τ 48 → (∀ v, v < i → vI τ F v = (if GF G v = true then 1 else 0) ∧ vI τ 48 v = if GM G v = true then 1 else 0) → (∀ v, v < GN G → vI (r_so fF fM F k i τ) F v = (if GF G v = true then 1 else 0) ∧ vI (r_so fF fM F k i τ) 48 v = if GM G v = true then 1 else 0) ∧ lf1 [F, 48] τ (r_so fF fM F k i τ) := by
  obtain ⟨ne, F1, F2, H1, H2, F5, H5⟩ := fh_ne hFH
  intro k
  induction k with
  | zero => intro i τ hi hb _ _ h; exact ⟨fun v hv => h v (by omega), lf1.rf⟩
  | succ k ih =>
    intro i τ hi hb c1 c2 h
    have n3 := hG.1
    have ii : i < GN G := by omega
    obtain ⟨g1, -, -⟩ := hS τ hb i ii
    have e1 : (if fF τ [nI i] = 0 then (0 : Int32) else 1) = if GF G i = true then 1 else 0 := by
      cases hb2 : GF G i with
      | false => rw [if_pos (g1.mpr hb2), if_neg Bool.false_ne_true]
      | true => rw [if_neg (fun q => by rw [g1.mp q] at hb2; exact nomatch hb2), if_pos rfl]
    have fr : ∀ {x : Int32}, rrel τ (uI τ F i x) := fun {x} => ⟨fun b hb => ⟨vI_r (by omega), rfl, rfl⟩, rfl, fun _ _ => rfl⟩
    obtain ⟨-, g2, -⟩ := hS _ (hb.tr (brl_r (fr (x := if GF G i = true then 1 else 0)))) i ii
    have e2 : (if fM (uI τ F i (if GF G i = true then 1 else 0)) [nI i] = 0 then (0 : Int32) else 1) = if GM G i = true then 1 else 0 := by
      cases hb2 : GM G i with
      | false => rw [if_pos (g2.mpr hb2), if_neg Bool.false_ne_true]
      | true => rw [if_neg (fun q => by rw [g2.mp q] at hb2; exact nomatch hb2), if_pos rfl]
    have st : r_p1 fF fM F τ (nI i) = uI (uI τ F i (if GF G i = true then 1 else 0)) 48 i (if GM G i = true then 1 else 0) := by
      unfold r_p1
      rw [e1, rp_n (σ := τ) (r := F) (k := i) (by omega) (by omega), e2, rp_n (by show i < vC τ 48; omega) (by omega)]
    rw [r_so, st]
    have f1 : lf1 [F, 48] τ (uI (uI τ F i (if GF G i = true then 1 else 0)) 48 i (if GM G i = true then 1 else 0)) := (lf1.u (by simp)).tr (lf1.u (by simp))
    have rr : rrel τ (uI (uI τ F i (if GF G i = true then 1 else 0)) 48 i (if GM G i = true then 1 else 0)) := ⟨fun b hb => ⟨by rw [vI_r (by omega), vI_r (by omega)], rfl, rfl⟩, rfl, fun _ _ => rfl⟩
    have hh : ∀ v, v < i + 1 → vI (uI (uI τ F i (if GF G i = true then 1 else 0)) 48 i (if GM G i = true then 1 else 0)) F v = (if GF G v = true then 1 else 0) ∧ vI (uI (uI τ F i (if GF G i = true then 1 else 0)) 48 i (if GM G i = true then 1 else 0)) 48 v = if GM G v = true then 1 else 0 := by
      intro v hv
      by_cases e : v = i
      · rw [e]
        exact ⟨by rw [vI_q (fun q => by omega), vI_e], vI_e⟩
      · obtain ⟨q1, q2⟩ := h v (by omega)
        exact ⟨by rw [vI_q (fun q => e q.2), vI_q (fun q => e q.2)]; exact q1, by rw [vI_q (fun q => e q.2), vI_q (fun q => e q.2)]; exact q2⟩
    obtain ⟨r1, r2⟩ := ih (i + 1) _ (by omega) (hb.tr (brl_r rr)) c1 c2 hh
    exact ⟨r1, f1.tr r2⟩
theorem y_set {B : Nat × Nat} {G : gG} {fF fN fE fM : sS → List Int32 → Int32} {σ0 : sS} {P Gi F H : Nat} (hG : gOk G) (hFH : fh F H) (hS : ∀ τ, brl σ0 τ → gSt G fF fN fE fM τ) (hf1 : vR σ0 45 1 = some F) (hf2 : vR σ0 45 2 = some H) (hR : Rm B σ0) : rdI B G P Gi σ0 F H (fun v j => j = 0 ∧ frm G [] v) (r_set fF fM F H Gi P (GN G) σ0) := by
  obtain ⟨ne, F1, F2, H1, H2, F5, H5⟩ := fh_ne hFH
  have n3 := hG.1
  obtain ⟨k1, k2⟩ := r_set_ok (fF := fF) (fM := fM) (G := Gi) (P := P) (n := GN G) hFH hf1 hf2
  unfold r_set at k1 k2 ⊢
  have gF : F ∈ grR := by rcases hFH with q | q <;> (rw [q.1]; decide)
  have gH : H ∈ grR := by rcases hFH with q | q <;> (rw [q.2]; decide)
  have s0 : rrel σ0 (r_s0 F H Gi P (GN G) σ0) := by
    unfold r_s0
    exact (((rrel.rf.aR.aR.aI).az F1 (by omega)).az H1 (by omega)).az (by decide) (by decide)
  have R1 : Rm B (r_s0 F H Gi P (GN G) σ0) := by
    unfold r_s0
    have k : Rm B (uI (uR (uR σ0 45 5 (some Gi)) 45 6 (some P)) 45 7 (nI (GN G))) := hR.c rfl
    exact ((k.rz gF (Or.inl n3)).rz gH (Or.inl n3)).rz (by decide) (Or.inl n3)
  have v7 : vI (r_s0 F H Gi P (GN G) σ0) 45 7 = nI (GN G) := by
    unfold r_s0
    rw [rz_at.2.1 45 7 (by decide), rz_at.2.1 45 7 (by omega), rz_at.2.1 45 7 (by omega), vI_e]
  have vH : ∀ j, j < GN G → vI (r_s0 F H Gi P (GN G) σ0) H j = 0 := fun j hj => by
    unfold r_s0
    rw [rz_at.2.1 H j (by omega)]
    exact rz_at.1 j hj
  have cF : GN G ≤ vC (r_s0 F H Gi P (GN G) σ0) F := by
    unfold r_s0
    rw [rz_at.2.2.1, rx_Cn (by omega), rz_at.2.2.1, rx_Cn ne, rz_at.2.2.1]
    exact rx_cap (by omega)
  have cH : GN G ≤ vC (r_s0 F H Gi P (GN G) σ0) H := by
    unfold r_s0
    rw [rz_at.2.2.1, rx_Cn (by omega), rz_at.2.2.1]
    exact rx_cap (by omega)
  have c48 : GN G ≤ vC (r_s0 F H Gi P (GN G) σ0) 48 := by
    unfold r_s0
    rw [rz_at.2.2.1]
    exact rx_cap (by omega)
  generalize r_s0 F H Gi P (GN G) σ0 = τ0 at k1 k2 s0 R1 v7 vH cF cH c48
  obtain ⟨y1, y2⟩ := y_so hG hFH hS (GN G) 0 τ0 (by omega) (brl_r s0) cF c48 (fun v hv => absurd hv (Nat.not_lt_zero v))
  generalize r_so fF fM F (GN G) 0 τ0 = τ1 at k1 k2 y1 y2
  have o : ∀ b j, b ≠ F → b ≠ 48 → vI τ1 b j = vI τ0 b j := fun b j h1 h2 => y2.1 b j (fun q => by
    rcases List.mem_cons.mp q with z | z
    · exact h1 z
    · exact h2 (List.mem_singleton.mp z))
  have oc : ∀ b, vC τ1 b = vC τ0 b := fun b => by unfold vC; rw [y2.2]
  refine ⟨brl_r k1, ⟨by rw [oc]; exact cF, fun v hv => ?_⟩, ⟨by rw [oc]; exact cH, fun v hv => ⟨0, (o H v (Ne.symm ne) (by omega)).trans (vH v hv), by decide, fun k => ?_⟩⟩, fun v hv => (y1 v hv).2, (o 45 7 (by omega) (by decide)).trans v7, k2, R1.c (by rw [y2.2])⟩
  · refine ⟨if GF G v = true then 1 else 0, ?_, ?_, fun k => ?_⟩
    · rw [(y1 v hv).1]
      cases GF G v <;> rfl
    · cases GF G v <;> decide
    · have fe : frm G [] v ↔ GF G v = true := ⟨fun ⟨f, f1, f2, f3⟩ => by have f3 : f = v := f3; rw [← f3]; exact f2, fun q => ⟨v, hv, q, rfl⟩⟩
      show _ ↔ k = 0 ∧ frm G [] v
      rw [fe]
      cases hb : GF G v with
      | false =>
        rw [if_neg Bool.false_ne_true, Nat.zero_testBit]
        exact ⟨fun q => (nomatch q), fun q => nomatch q.2⟩
      | true =>
        rw [if_pos rfl, Nat.testBit_one_eq_true_iff_self_eq_zero]
        exact ⟨fun q => ⟨q, rfl⟩, fun q => q.1⟩
  · rw [Nat.zero_testBit]
    exact ⟨fun q => (nomatch q), fun q => q.elim⟩
