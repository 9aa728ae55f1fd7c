/-! counts, others: the reference -/
theorem x_aL (s r : Int32) : L_X12_areLong s r = if arL s r = true then 1 else 0 := by
  have e : L_X12_areLong s r = L_X11_areCounted s r := by
    unfold L_X12_areLong L_X12_in L_X11_areCounted
    by_cases h1 : s < 0
    · rw [if_pos h1, if_pos rfl, if_pos h1]
    · by_cases h2 : 3 < s
      · rw [if_neg h1, if_pos h2, if_pos rfl, if_neg h1, if_pos h2]
      · rw [if_neg h1, if_neg h2, if_neg (by decide), if_neg h1, if_neg h2]
        by_cases h3 : r < 1
        · rw [if_pos h3, if_pos rfl]
        · by_cases h4 : 3 < r
          · rw [if_neg h3, if_pos h4, if_pos rfl]
          · rw [if_neg h3, if_neg h4, if_neg (by decide)]
  rw [e, y_aC]
theorem le'_at {g : Nat} : ∀ (n v j : Nat), j < n → (le' g n v).getD j 0 = v / g ^ j % g
  | 0, v, j, h => absurd h (Nat.not_lt_zero _)
  | n + 1, v, 0, _ => by
    rw [le', Nat.pow_zero, Nat.div_one]
    rfl
  | n + 1, v, j + 1, h => by
    show (le' g n (v / g)).getD j 0 = _
    rw [le'_at n (v / g) j (by omega), Nat.div_div_eq_div_mul, Nat.pow_succ, Nat.mul_comm g]
theorem x_t6 {F i sl ln g : Nat} {x4 : Int32} {σ : sS} (hg : vI σ 90 19 = nI g) (hg3 : g ≤ 3) (hs : sl + ln ≤ 6) (kx : Int32 → Option (Int32 × sS)) : ∀ (m k f : Nat), k + m = sl + ln → m < f → L_X12_taken_6 F (nI i) (nI sl) (nI ln) x4 σ kx f (nI (g ^ k)) (nI k) = kx (nI (g ^ (sl + ln))) := by
  intro m
  induction m with
  | zero =>
    intro k f hk hf
    obtain ⟨f', rfl⟩ : ∃ g, f = g + 1 := ⟨f - 1, by omega⟩
    rw [L_X12_taken_6, nI_add, if_pos (nI_le (by omega) (by omega)), show k = sl + ln by omega]
  | succ m ih =>
    intro k f hk hf
    obtain ⟨f', rfl⟩ : ∃ g, f = g + 1 := ⟨f - 1, by omega⟩
    rw [L_X12_taken_6, nI_add, if_neg (nI_ge (by omega) (by omega)), bnd_s, hg, nI_mul, nI_1, ← Nat.pow_succ]
    exact ih (k + 1) f' (by omega) (by omega)
theorem x_t59 {F i sl ln g v : Nat} {x4 x5 x6 x7 : Int32} (hg1 : 1 ≤ g) (hg3 : g ≤ 3) (hs3 : sl ≤ 3) (hl3 : ln ≤ 3) (hv : v < 2 ^ 31) (kx : sS → Option (Int32 × sS)) : ∀ (m j f : Nat) (τ : sS), j + m = sl + ln → m < f → vI τ 90 19 = nI g → (∀ k, k < j → k < sl → vI τ 139 k = nI (v / g ^ k % g)) → (∀ k, sl ≤ k → k < j → vI τ 140 (k - sl) = nI (v / g ^ k % g)) → ∃ υ, L_X12_taken_59 F (nI i) (nI sl) (nI ln) x4 x5 x6 x7 kx f (nI (v / g ^ j)) (nI j) τ = kx υ ∧ (∀ k, k < sl → vI υ 139 k = nI (v / g ^ k % g)) ∧ (∀ k, k < ln → vI υ 140 k = nI (v / g ^ (sl + k) % g)) ∧ fm [139, 140] [] τ υ := by
  intro m
  induction m with
  | zero =>
    intro j f τ hj hf h19 h1 h2
    obtain ⟨f', rfl⟩ : ∃ g, f = g + 1 := ⟨f - 1, by omega⟩
    refine ⟨τ, ?_, fun k hk => h1 k (by omega) hk, fun k hk => ?_, fm.rf⟩
    · rw [L_X12_taken_59, nI_add, if_pos (nI_le (by omega) (by omega))]
    · have := h2 (sl + k) (by omega) (by omega)
      rw [show sl + k - sl = k by omega] at this
      exact this
  | succ m ih =>
    intro j f τ hj hf h19 h1 h2
    obtain ⟨f', rfl⟩ : ∃ g, f = g + 1 := ⟨f - 1, by omega⟩
    have hd : v / g ^ j < 2 ^ 31 := Nat.lt_of_le_of_lt (Nat.div_le_self _ _) hv
    have n0 : (!decide (nI g = (0 : Int32))) = true := by
      rw [decide_eq_false (fun z => by have := (nI_k0 (by omega)).mp z; omega)]; rfl
    have er : nI (v / g ^ j) - nI (v / g ^ j) / nI g * nI g = nI (v / g ^ j % g) := nI_rem hd (by omega)
    have ed : nI (v / g ^ j) / nI g = nI (v / g ^ (j + 1)) := by
      rw [nI_dv hd (by omega), Nat.div_div_eq_div_mul, Nat.pow_succ]
    rw [L_X12_taken_59, nI_add, if_neg (nI_ge (by omega) (by omega)), h19, n0, er]
    simp only [grd_s]
    by_cases c : sl ≤ j
    · rw [if_pos (nI_le c (by omega)), nI_sb c, inb_n (by omega) (by omega), grd_s, bnd_s, nI_clamp (by omega)]
      have f1 : fm [139, 140] [] τ (uI τ 140 (j - sl) (nI (v / g ^ j % g))) := fm.uI (Or.inl (by decide))
      have g19 : vI (uI τ 140 (j - sl) (nI (v / g ^ j % g))) 90 19 = nI g := (f1.f (fun q => nomatch q) (by decide)).trans h19
      obtain ⟨υ, r1, r2, r3, r4⟩ := ih (j + 1) f' (uI τ 140 (j - sl) (nI (v / g ^ j % g))) (by omega) (by omega) g19 (fun k a b => by
        rw [vI_q (fun q => absurd q.1 (by decide))]; exact h1 k (by omega) b) (fun k a b => by
        by_cases e : k = j
        · rw [e, vI_e]
        · rw [vI_q (fun q => by omega)]; exact h2 k a (by omega))
      refine ⟨υ, ?_, r2, r3, f1.tr r4⟩
      unfold L_X12_taken_106
      rw [g19, n0, grd_s, bnd_s, ed, nI_1]
      exact r1
    · rw [if_neg (nI_ge (by omega) (by omega)), inb_n (by omega) (by omega), grd_s, bnd_s, nI_clamp (by omega)]
      have f1 : fm [139, 140] [] τ (uI τ 139 j (nI (v / g ^ j % g))) := fm.uI (Or.inl (by decide))
      have g19 : vI (uI τ 139 j (nI (v / g ^ j % g))) 90 19 = nI g := (f1.f (fun q => nomatch q) (by decide)).trans h19
      obtain ⟨υ, r1, r2, r3, r4⟩ := ih (j + 1) f' (uI τ 139 j (nI (v / g ^ j % g))) (by omega) (by omega) g19 (fun k a b => by
        by_cases e : k = j
        · rw [e, vI_e]
        · rw [vI_q (fun q => e q.2)]; exact h1 k (by omega) b) (fun k a b => by
        rw [vI_q (fun q => absurd q.1 (by decide))]; exact h2 k a (by omega))
      refine ⟨υ, ?_, r2, r3, f1.tr r4⟩
      unfold L_X12_taken_106
      rw [g19, n0, grd_s, bnd_s, ed, nI_1]
      exact r1
def tnM : List Nat := [149, 150, 151, 152, 154, 155, 156, 157, 158, 159, 160, 164, 165, 139, 140]
def tnK : List Nat := [53, 61, 62, 63, 37, 38]
theorem x_t45 {F i sl ln g N : Nat} {x4 : Int32} {G : gG} {σ0 : sS} (hg1 : 1 ≤ g) (hg3 : g ≤ 3) (hs3 : sl ≤ 3) (hl3 : ln ≤ 3) (hN : N ≤ 729) (hF : 10 < F) (h19 : vI σ0 90 19 = nI g) (hT : ∀ τ w rd, fm tnM tnK σ0 τ → rRw 139 w τ → rRw 140 rd τ → w.length = sl → rd.length = ln → (∀ s, s ∈ w → s < g) → (∀ s, s ∈ rd → s < g) → ∃ υ, L_X12_isTaken F (nI i) x4 τ = some (tkv G w rd, υ) ∧ fm ikM ikK τ υ) (kx : Int32 → sS → Option (Int32 × sS)) : ∀ (m v f acc : Nat) (τ : sS), v + m = N → m < f → fm tnM tnK σ0 τ → ∃ υ, L_X12_taken_45 F (nI i) (nI sl) (nI ln) x4 (nI N) kx f (nI acc) (nI v) τ = kx (nI (acc + sg m (fun j => tkN G ((le' g (sl + ln) (v + j)).take sl) ((le' g (sl + ln) (v + j)).drop sl)))) υ ∧ fm tnM tnK σ0 υ := by
  intro m
  induction m with
  | zero =>
    intro v f acc τ hv hf hfr
    obtain ⟨f', rfl⟩ : ∃ g, f = g + 1 := ⟨f - 1, by omega⟩
    refine ⟨τ, ?_, hfr⟩
    rw [L_X12_taken_45, if_pos (nI_le (by omega) (by omega))]
    rfl
  | succ m ih =>
    intro v f acc τ hv hf hfr
    obtain ⟨f', rfl⟩ : ∃ g, f = g + 1 := ⟨f - 1, by omega⟩
    rw [L_X12_taken_45, if_neg (nI_ge (by omega) (by omega))]
    obtain ⟨τ1, a1, a2, a3, a4⟩ := x_t59 (F := F) (i := i) (x4 := x4) (x5 := nI N) (x6 := nI acc) (x7 := nI v) (v := v) hg1 hg3 hs3 hl3 (by omega) (fun σ5 => bd2 (L_X12_isTaken F (nI i) x4 σ5) (fun rq7 σ8 => if rq7 = 0 then (bnd (nI acc + 0) (fun yq10 => L_X12_taken_45 F (nI i) (nI sl) (nI ln) x4 (nI N) kx f' yq10 (nI v + 1) σ8)) else (bnd (nI acc + 1) (fun yq11 => L_X12_taken_45 F (nI i) (nI sl) (nI ln) x4 (nI N) kx f' yq11 (nI v + 1) σ8)))) (sl + ln) 0 F τ (by omega) (by omega) ((hfr.f (by decide) (by decide)).trans h19) (fun k a => absurd a (Nat.not_lt_zero k)) (fun k _ a => absurd a (Nat.not_lt_zero k))
    rw [Nat.pow_zero, Nat.div_one] at a1
    have a1 : L_X12_taken_59 F (nI i) (nI sl) (nI ln) x4 (nI N) (nI acc) (nI v) _ F (nI v) 0 τ = _ := a1
    rw [a1]
    have hf1 : fm tnM tnK σ0 τ1 := hfr.tr (a4.mo (by decide) (fun _ q => nomatch q))
    have hlen := le'_len (g := g) (sl + ln) v
    have hlt := le'_lt (g := g) (by omega) (sl + ln) v
    have w1 : rRw 139 ((le' g (sl + ln) v).take sl) τ1 := by
      refine ⟨by rw [List.length_take]; omega, fun k hk => ?_⟩
      rw [List.length_take] at hk
      rw [a2 k (by omega), List.getD_eq_getElem?_getD, List.getElem?_take_of_lt (by omega), ← List.getD_eq_getElem?_getD, le'_at _ _ _ (by omega)]
    have w2 : rRw 140 ((le' g (sl + ln) v).drop sl) τ1 := by
      refine ⟨by rw [List.length_drop]; omega, fun k hk => ?_⟩
      rw [List.length_drop] at hk
      rw [a3 k (by omega), List.getD_eq_getElem?_getD, List.getElem?_drop, ← List.getD_eq_getElem?_getD, le'_at _ _ _ (by omega)]
    obtain ⟨τ2, t1, t2⟩ := hT τ1 _ _ hf1 w1 w2 (by rw [List.length_take]; omega) (by rw [List.length_drop]; omega) (fun s hs => hlt s (List.mem_of_mem_take hs)) (fun s hs => hlt s (List.mem_of_mem_drop hs))
    rw [t1, bd2_s]
    have hf2 : fm tnM tnK σ0 τ2 := hf1.tr (t2.mo (by decide) (by decide))
    have e : sg (m + 1) (fun j => tkN G ((le' g (sl + ln) (v + j)).take sl) ((le' g (sl + ln) (v + j)).drop sl)) = tkN G ((le' g (sl + ln) v).take sl) ((le' g (sl + ln) v).drop sl) + sg m (fun j => tkN G ((le' g (sl + ln) (v + 1 + j)).take sl) ((le' g (sl + ln) (v + 1 + j)).drop sl)) := by
      rw [show m + 1 = 1 + m by omega, sg_sp]
      have e1 : sg 1 (fun j => tkN G ((le' g (sl + ln) (v + j)).take sl) ((le' g (sl + ln) (v + j)).drop sl)) = tkN G ((le' g (sl + ln) v).take sl) ((le' g (sl + ln) v).drop sl) := by rw [sg, sg, Nat.zero_add, Nat.add_zero]
      have e2 : (fun j => tkN G ((le' g (sl + ln) (v + (1 + j))).take sl) ((le' g (sl + ln) (v + (1 + j))).drop sl)) = fun j => tkN G ((le' g (sl + ln) (v + 1 + j)).take sl) ((le' g (sl + ln) (v + 1 + j)).drop sl) := funext fun j => by rw [show v + (1 + j) = v + 1 + j by omega]
      rw [e1, e2]
    rw [e]
    obtain ⟨υ, r1, r2⟩ := ih (v + 1) f' (acc + tkN G ((le' g (sl + ln) v).take sl) ((le' g (sl + ln) v).drop sl)) τ2 (by omega) (by omega) hf2
    refine ⟨υ, ?_, r2⟩
    rw [Nat.add_assoc] at r1
    rw [← r1]
    unfold tkv tkN
    by_cases c : bP (tak G ((le' g (sl + ln) v).take sl) ((le' g (sl + ln) v).drop sl)) = true
    · rw [if_pos c, if_pos c, if_neg (by decide), bnd_s, nI_1, nI_1]
    · rw [if_neg c, if_neg c, if_pos rfl, bnd_s, nI_1, show nI acc + 0 = nI acc from Int32.add_zero _]
      rfl
theorem x_taken {F i sl ln g : Nat} {x4 : Int32} {G : gG} {σ : sS} (hg1 : 1 ≤ g) (hg3 : g ≤ 3) (hGL : GL G = g) (hs3 : sl ≤ 3) (hl3 : ln ≤ 3) (hF : 1000 < F) (h19 : vI σ 90 19 = nI g) (hT : ∀ τ w rd, fm tnM (41 :: 42 :: tnK) σ τ → vI τ 90 41 = nI sl → vI τ 90 42 = nI ln → rRw 139 w τ → rRw 140 rd τ → w.length = sl → rd.length = ln → (∀ s, s ∈ w → s < g) → (∀ s, s ∈ rd → s < g) → ∃ υ, L_X12_isTaken F (nI i) x4 τ = some (tkv G w rd, υ) ∧ fm ikM ikK τ υ) : ∃ υ, L_X12_taken F (nI i) (nI sl) (nI ln) x4 σ = some (nI (cntS G sl ln), υ) ∧ fm tnM (41 :: 42 :: tnK) σ υ := by
  have hN : g ^ (sl + ln) ≤ 729 := by
    have e1 : g ^ (sl + ln) ≤ 3 ^ (sl + ln) := Nat.pow_le_pow_left hg3 _
    have e2 : (3 : Nat) ^ (sl + ln) ≤ 3 ^ 6 := Nat.pow_le_pow_right (by decide) (by omega)
    omega
  have f0 : fm tnM (41 :: 42 :: tnK) σ (uI (uI σ 90 41 (nI sl)) 90 42 (nI ln)) := (fm.uI (Or.inr ⟨rfl, by decide⟩)).tr (fm.uI (Or.inr ⟨rfl, by decide⟩))
  have v41 : vI (uI (uI σ 90 41 (nI sl)) 90 42 (nI ln)) 90 41 = nI sl := by rw [vI_q (fun q => absurd q.2 (by decide)), vI_e]
  have v42 : vI (uI (uI σ 90 41 (nI sl)) 90 42 (nI ln)) 90 42 = nI ln := vI_e
  obtain ⟨υ, r1, r2⟩ := x_t45 (F := F) (i := i) (x4 := x4) (G := G) (N := g ^ (sl + ln)) (σ0 := uI (uI σ 90 41 (nI sl)) 90 42 (nI ln)) hg1 hg3 hs3 hl3 hN (by omega) ((f0.f (by decide) (by decide)).trans h19) (fun τ w rd hf a b c d e1 e2 => hT τ w rd (f0.tr (hf.mo (fun _ q => q) (by decide))) ((hf.f (by decide) (by decide)).trans v41) ((hf.f (by decide) (by decide)).trans v42) a b c d e1 e2) (fun yq4 σ5 => some (yq4, σ5)) (g ^ (sl + ln)) 0 F 0 (uI (uI σ 90 41 (nI sl)) 90 42 (nI ln)) (by omega) (by omega) fm.rf
  refine ⟨υ, ?_, f0.tr (r2.mo (fun _ q => q) (by decide))⟩
  have t6 := x_t6 (F := F) (i := i) (sl := sl) (ln := ln) (x4 := x4) h19 hg3 (by omega) (fun yq1 => bnd (uI σ 90 41 (nI sl)) (fun σ2 => bnd (uI σ2 90 42 (nI ln)) (fun σ3 => L_X12_taken_45 F (nI i) (nI sl) (nI ln) x4 yq1 (fun yq4 σ5 => some ((yq4, σ5))) F 0 0 σ3))) (sl + ln) 0 F (by omega) (by omega)
  unfold L_X12_taken
  have t6 : L_X12_taken_6 F (nI i) (nI sl) (nI ln) x4 σ _ F 1 0 = _ := t6
  rw [t6, bnd_s, bnd_s]
  refine r1.trans ?_
  have e : (fun j => tkN G ((le' g (sl + ln) (0 + j)).take sl) ((le' g (sl + ln) (0 + j)).drop sl)) = fun j => (fun l => tkN G (l.take sl) (l.drop sl)) (le' g (sl + ln) j) := funext fun j => by rw [Nat.zero_add]
  rw [e, cnW_le (by omega) (sl + ln) (fun l => tkN G (l.take sl) (l.drop sl)), cnW_2, Nat.zero_add]
  unfold cntS
  rw [hGL]
theorem RI.tn {A : aS} {σ τ : sS} (h : RI A σ) (f : fm tnM (41 :: 42 :: tnK) σ τ) : RI A τ := ⟨h.1.keep f (by decide) (by decide) (by decide), h.2.f f (by decide) (by decide) (by decide) rfl⟩
theorem x_counts {A : aS} {σ : sS} {F : Nat} (hF : 40000000 < F) (h : RI A σ) (hI : aI A) (a s r : Int32) : xRI (sp_counts A a s r) (L_X12_counts F a s r σ) := by
  have h := h.z 0
  have h3 := h.1.c.1
  have hg := h.1.c.2
  unfold L_X12_counts sp_counts
  simp only [bnd_s]
  rw [x_isAuto h.1, bd_s]
  generalize uI σ 90 0 0 = ρ at h ⊢
  by_cases ha : aOk (aC A) a = true
  · obtain ⟨i, hi, rfl⟩ := aOk_t ha (by omega)
    rw [if_pos ha, if_pos ha, if_neg i1n0, nI_clamp (by omega), x_aL]
    by_cases hs : arL s r = true
    · rw [if_pos hs, if_pos hs, if_neg i1n0]
      obtain ⟨sl, ln, k1, k2, k3, rfl, rfl⟩ := arL_t hs
      rw [nI_clamp (by omega), nI_clamp (by omega)]
      have hG1 : 1 ≤ aG A := by
        rcases hI with q | q
        · omega
        · exact q
      obtain ⟨υ, t1, t2⟩ := x_taken (F := F) (i := i) (sl := sl) (ln := ln) (x4 := 0) (G := G0 (aMa A i) (aG A)) hG1 hg rfl k1 k3 (by omega) h.1.2.2.1.2.2.2.1 (fun τ w rd hf e41 e42 a b c d e1 e2 => x_isTk0 (F := F) (i := i) hF (h.tn hf).1 hi a e1 (by rw [c]; exact e41) b e2 (by rw [d]; exact e42) (by omega))
      rw [t1, bd2_s]
      exact xRI.g (h.tn t2) _
    · rw [if_neg hs, if_neg hs, if_pos rfl]
      exact xRI.r h 2
  · rw [if_neg ha, if_neg ha, if_pos rfl]
    exact xRI.r h 1
theorem x_others {A : aS} {σ : sS} {F : Nat} (hF : 40000000 < F) (h : RI A σ) (hI : aI A) (a s r : Int32) : xRI (sp_others A a s r) (L_X12_others F a s r σ) := by
  have h := h.z 0
  have h3 := h.1.c.1
  have hg := h.1.c.2
  unfold L_X12_others sp_others
  simp only [bnd_s]
  rw [x_isAuto h.1, bd_s]
  generalize uI σ 90 0 0 = ρ at h ⊢
  by_cases ha : aOk (aC A) a = true
  · obtain ⟨i, hi, rfl⟩ := aOk_t ha (by omega)
    rw [if_pos ha, if_pos ha, if_neg i1n0, nI_clamp (by omega), x_aL]
    by_cases hs : arL s r = true
    · rw [if_pos hs, if_pos hs, if_neg i1n0]
      obtain ⟨sl, ln, k1, k2, k3, rfl, rfl⟩ := arL_t hs
      rw [nI_clamp (show sl < 2 ^ 31 by omega), nI_clamp (show ln < 2 ^ 31 by omega)]
      have hG1 : 1 ≤ aG A := by
        rcases hI with q | q
        · omega
        · exact q
      rcases x_std (F := F) (i := i) (by omega) h hI hi with ⟨hq, τ, t1, t2, -⟩ | ⟨z, τ, hq, t1, t2, t3, t4, t5⟩
      · rw [hq, t1, bd2_s, if_pos rfl]
        exact xRI.r t2 3
      · rw [hq, t1, bd2_s, if_neg i1n0]
        obtain ⟨υ, s1, s2⟩ := x_taken (F := F) (i := i) (sl := sl) (ln := ln) (x4 := 1) (G := G1 z (aG A)) hG1 hg rfl k1 k3 (by omega) t2.1.2.2.1.2.2.2.1 (fun τ w rd hf e41 e42 a b c d e1 e2 => x_isTk1 (F := F) (i := i) hF (t2.tn hf).1 hG1 hi hq (((rCpl.s t3 hq).f hf (by decide) (by decide) (by decide)).v hq) t4 a e1 (by rw [c]; exact e41) b e2 (by rw [d]; exact e42) (by omega))
        rw [s1, bd2_s]
        exact xRI.g (t2.tn s2) _
    · rw [if_neg hs, if_neg hs, if_pos rfl]
      exact xRI.r h 2
  · rw [if_neg ha, if_neg ha, if_pos rfl]
    exact xRI.r h 1
