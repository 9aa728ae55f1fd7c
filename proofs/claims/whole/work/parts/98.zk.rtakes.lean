/-! takes, lacks: the reference -/
theorem sWords_le {b : Nat → Int32} {e G : Nat} : ∀ (n q : Nat) (u : List Nat) (z : Nat × List Nat), q ≤ e → sWords b e G n q u = .inr z → z.1 ≤ e := by
  intro n
  induction n with
  | zero => intro q u z _ h; exact nomatch h
  | succ n ih =>
    intro q u z hq h
    rw [sWords] at h
    by_cases hk : tkk b e q = 2
    · rw [if_pos hk] at h
      obtain ⟨v, hv, h⟩ := pbd_r h
      exact ih _ _ _ (nx_le hq).2 h
    · rw [if_neg hk] at h
      injection h with h
      rw [← h]
      exact hq
theorem sLasso_ne {b : Nat → Int32} {e G q : Nat} {u v : List Nat} (hq : q ≤ e) (h : sLasso b e G q = .inr (u, v)) : v ≠ [] := by
  unfold sLasso at h
  obtain ⟨z, hz, h⟩ := pbd_r h
  have hz1 := sWords_le _ _ _ _ hq hz
  split at h
  · unfold sRound at h
    split at h
    · rename_i hk
      obtain ⟨y, hy, h⟩ := pbd_r h
      have hlen := (sWords_len _ _ _ _ hy).2 hk (tkk_2 hk (nx_le hz1).2).2.2.2.2.2
      split at h
      · split at h
        · injection h with h
          injection h with h1 h2
          rw [← h2]
          intro c
          rw [c] at hlen
          exact absurd hlen (Nat.lt_irrefl _)
        · exact nomatch h
      · exact nomatch h
    · exact nomatch h
  · exact nomatch h
theorem x_lasI {A : aS} {σ : sS} {F : Nat} (hF : 402 < F) (h : RI A σ) (x : Int32) (f : aS → List Nat → List Nat → Int32 × aS) (kf : sS → Option (Int32 × sS)) (hk : ∀ u v τ, RI (aLz A 0) τ → wdO (aG A) u v → v ≠ [] → rRw 139 u τ → vI τ 90 41 = nI u.length → rRw 140 v τ → vI τ 90 42 = nI v.length → xRI (f (aLz A 0) u v) (kf τ)) : xRI (sp_las A x f) (if (L_X12_isLong x σ) = 0 then (bd (L_X12_begins F x σ) (fun σ7 => bd (L_X12_readLasso F σ7) (fun σ9 => if (vI σ9 90 7) ≤ 0 then (kf σ9) else (bd2 (L_X12_faulty σ9) (fun r s => some (r, s)))))) else (bd2 (L_X12_refused 2 σ) (fun r s => some (r, s)))) := by
  have h400 := h.1.1.1
  have hl : L_X12_isLong x σ = if aOk (aT A + 1) x = true then 0 else 1 := by
    unfold L_X12_isLong
    rw [h.1.1.2.1, x_long (by omega)]
    split
    · rw [if_neg i1n0]
    · rw [if_pos rfl]
  rw [hl]
  unfold sp_las
  by_cases ha : aOk (aT A + 1) x = true
  · rw [if_pos ha, if_pos ha, if_pos rfl]
    obtain ⟨e, he, rfl⟩ := aOk_t ha (by omega)
    rw [nI_clamp (by omega)]
    obtain ⟨τ1, τ, t1, t2, t3, t4⟩ := x_open hF h.1 (by omega : e ≤ aT A)
    rw [t1, bd_s, t2, bd_s]
    have hB : ∀ k, rB (aLz A k) τ := fun k => h.2.f t3 (by decide) (by decide) (by decide) rfl
    cases hs : sLasso (aB A) e (aG A) (tq (aB A) e 0) with
    | inl k =>
      obtain ⟨k, w⟩ := k
      rw [hs] at t4
      obtain ⟨u1, u2, u3, u4⟩ := t4
      rw [if_neg (f7_n u1 u2)]
      refine ⟨uI (uI τ 90 1 4) 90 2 (nI w), ?_, RI.ans ⟨u4, hB k⟩ 4 (nI w)⟩
      show some ((-1 : Int32), uI (uI τ 90 1 4) 90 2 (vI τ 90 8)) = _
      rw [u3]
    | inr z =>
      obtain ⟨u, v⟩ := z
      rw [hs] at t4
      obtain ⟨u1, u2, u3, u4, u5, u6⟩ := t4
      rw [if_pos (f7_0 u1)]
      exact hk u v τ ⟨u6, hB 0⟩ (sLasso_ok hs) (sLasso_ne (scn_le (P := kBl (aB A)) (e := e) e 0 (by omega)).2 hs) u2 u3 u4 u5
  · rw [if_neg ha, if_neg ha, if_neg i1n0]
    exact xRI.r h 2
theorem RI.ik {A : aS} {σ τ : sS} (h : RI A σ) (f : fm ikM ikK σ τ) : RI A τ := ⟨h.1.keep f (by decide) (by decide) (by decide), h.2.f f (by decide) (by decide) (by decide) rfl⟩
theorem tkv_x {A : aS} {G : gG} {u v : List Nat} {τ : sS} (h : RI A τ) : xRI (aGood A (tkv G u v)) (if tkv G u v = 0 then (bd2 (L_X12_good 0 τ) (fun rq13 σ14 => some ((rq13, σ14)))) else (bd2 (L_X12_good 1 τ) (fun rq16 σ17 => some ((rq16, σ17))))) := by
  unfold tkv
  by_cases c : bP (tak G u v) = true
  · rw [if_pos c, if_neg (by decide)]; exact xRI.g h 1
  · rw [if_neg c, if_pos rfl]; exact xRI.g h 0
theorem x_takes {A : aS} {σ : sS} {F : Nat} (hF : 40000000 < F) (h : RI A σ) (a x : Int32) : xRI (sp_takes A a x) (L_X12_takes F a x σ) := by
  have h := h.z 0
  have h3 := h.1.c.1
  unfold L_X12_takes sp_takes
  simp only [bnd_s]
  rw [x_isAuto h.1, bd_s]
  generalize uI σ 90 0 0 = ρ at h ⊢
  by_cases ha : aOk (aC A) a = true
  · obtain ⟨i, hi, rfl⟩ := aOk_t ha (by omega)
    rw [if_pos ha, if_pos ha, if_neg i1n0, nI_clamp (by omega)]
    refine x_lasI (by omega) h x _ (fun σ9 => bd2 (L_X12_isTaken F (nI i) 0 σ9) (fun rq12 σ13 => if rq12 = 0 then (bd2 (L_X12_good 0 σ13) (fun rq16 σ17 => some ((rq16, σ17)))) else (bd2 (L_X12_good 1 σ13) (fun rq19 σ20 => some ((rq19, σ20)))))) (fun u v τ hR hw hv h1 h2 h4 h5 => ?_)
    obtain ⟨τ2, t1, t2⟩ := x_isTk0 (F := F) (i := i) hF hR.1 hi h1 hw.1 h2 h4 hw.2.2.1 h5 (List.length_pos_iff.mpr hv)
    have t1 : L_X12_isTaken F (nI i) 0 τ = some (tkv (G0 (aMa A i) (aG A)) u v, τ2) := t1
    rw [t1, bd2_s]
    exact tkv_x (hR.ik t2)
  · rw [if_neg ha, if_neg ha, if_pos rfl]
    exact xRI.r h 1
theorem x_lacks {A : aS} {σ : sS} {F : Nat} (hF : 40000000 < F) (h : RI A σ) (hI : aI A) (a x : Int32) : xRI (sp_lacks A a x) (L_X12_lacks F a x σ) := by
  have h := h.z 0
  have h3 := h.1.c.1
  unfold L_X12_lacks sp_lacks
  simp only [bnd_s]
  rw [x_isAuto h.1, bd_s]
  generalize uI σ 90 0 0 = ρ at h ⊢
  by_cases ha : aOk (aC A) a = true
  · obtain ⟨i, hi, rfl⟩ := aOk_t ha (by omega)
    rw [if_pos ha, if_pos ha, if_neg i1n0, nI_clamp (by omega)]
    refine x_lasI (by omega) h x _ (fun σ9 => bd2 (L_X12_lays F (nI i) σ9) (fun rq12 σ13 => if rq12 = 0 then (bd2 (L_X12_refused 3 σ13) (fun rq26 σ27 => some ((rq26, σ27)))) else (bd2 (L_X12_isTaken F (nI i) 1 σ13) (fun rq16 σ17 => if rq16 = 0 then (bd2 (L_X12_good 0 σ17) (fun rq20 σ21 => some ((rq20, σ21)))) else (bd2 (L_X12_good 1 σ17) (fun rq23 σ24 => some ((rq23, σ24)))))))) (fun u v τ hR hw hv h1 h2 h4 h5 => ?_)
    have hG1 : 1 ≤ aG A := by
      rcases hI with q | q
      · omega
      · exact q
    rcases x_std (F := F) (i := i) (by omega) hR hI hi with ⟨hq, τ2, t1, t2, -⟩ | ⟨z, τ2, hq, t1, t2, t3, t4, t5⟩
    · have hq : cpl (aMa A i) (aG A) = none := hq
      rw [hq, t1, bd2_s, if_pos rfl]
      exact xRI.r t2 3
    · have hq : cpl (aMa A i) (aG A) = some z := hq
      rw [hq, t1, bd2_s, if_neg i1n0]
      obtain ⟨τ3, s1, s2⟩ := x_isTk1 (F := F) (i := i) (w := u) (rd := v) hF t2.1 hG1 hi hq t3 t4 ⟨h1.1, fun j hj => (t5.r (by decide) (by decide)).trans (h1.2 j hj)⟩ hw.1 ((t5.f (by decide) (by decide)).trans h2) ⟨h4.1, fun j hj => (t5.r (by decide) (by decide)).trans (h4.2 j hj)⟩ hw.2.2.1 ((t5.f (by decide) (by decide)).trans h5) (List.length_pos_iff.mpr hv)
      have s1 : L_X12_isTaken F (nI i) 1 τ2 = some (tkv (G1 z (aG A)) u v, τ3) := s1
      rw [s1, bd2_s]
      exact tkv_x (t2.ik s2)
  · rw [if_neg ha, if_neg ha, if_pos rfl]
    exact xRI.r h 1
