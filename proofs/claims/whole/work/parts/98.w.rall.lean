/-! the reference's graph of nodes; all -/
def rG1 (M : aM) (g : Nat) (τ : sS) : Prop := vI τ 90 37 = 1 ∧ vI τ 90 19 = nI g ∧ rCpl M g τ
theorem rCpl.v {M : aM} {g : Nat} {v : zS × (Nat → Nat)} {τ : sS} (h : rCpl M g τ) (hq : cpl M g = some v) : rCv g v τ := by
  unfold rCpl at h
  rw [hq] at h
  exact h
theorem rCpl.s {M : aM} {g : Nat} {v : zS × (Nat → Nat)} {τ : sS} (h : rCv g v τ) (hq : cpl M g = some v) : rCpl M g τ := by
  unfold rCpl
  rw [hq]
  exact h
theorem rG1.f {M : aM} {g : Nat} {τ υ : sS} (h : rG1 M g τ) (f : fm shM shK τ υ) : rG1 M g υ := by
  obtain ⟨h1, h2, h3⟩ := h
  exact ⟨(f.f (by decide) (by decide)).trans h1, (f.f (by decide) (by decide)).trans h2, h3.f f (by decide) (by decide) (by decide)⟩
theorem x_eAt {M : aM} {g n s k : Nat} {v : zS × (Nat → Nat)} {τ : sS} (h : rCv g v τ) (hO : cO M g v) (hg1 : 1 ≤ g) (hg : g ≤ 3) (hn : n < zN v.1) (hs : s < g) (hk : k < v.2 (n * g + s + 1) - v.2 (n * g + s)) : L_X12_edgeAt (nI n) (nI s) (nI k) τ = some (nI (zT v.1 (v.2 (n * g + s) + k))) := by
  obtain ⟨f1, f2, f3, f4⟩ := x_fan h hO hg1 hg hn hs
  have hN := hO.1.2.1
  have hE := hO.2.1
  unfold L_X12_edgeAt
  rw [i3n, inb_n (by omega) (by omega), grd_s, nI_clamp (by omega), f2, nI_add, inb_n (by omega) (by omega), grd_s, nI_clamp (by omega), h.1.2.2.2.2.2.2.2 _ (by omega)]
theorem x_G1 {M : aM} {g : Nat} {v : zS × (Nat → Nat)} {τ : sS} (hq : cpl M g = some v) (hO : cO M g v) (h3 : sM3 v.2 (zN v.1 * g)) (hg1 : 1 ≤ g) (hg : g ≤ 3) (h : rG1 M g τ) {p : Nat} (hp : p < zN v.1) : (rEd (elB (bNo v g) g) p τ ∧ ∀ e, e ∈ elB (bNo v g) g p → L_X12_goesBy (nI p) (nI e.1) τ = some (nI e.2, τ)) ∧ L_X12_isMarked (nI p) τ = some (if nfin (zX v.1 p) = true then 1 else 0) := by
  obtain ⟨h1, h2, hc⟩ := h
  have hv := hc.v hq
  have i10 : ¬ (1 : Int32) = 0 := by decide
  refine ⟨⟨x_efb h2 hg (fun s hs => (bNo_o (M := M) h3 hp hs).1) (fun s t k hs ht hk => ?_), fun e he => ?_⟩, ?_⟩
  · obtain ⟨f1, f2, f3, f4⟩ := x_fan hv hO hg1 hg hp hs
    have hb := (bNo_o (M := M) h3 hp hs).2
    have eh : L_X12_hasEdge (nI p) (nI s) (nI t) (nI k) τ = if t = 0 then (if k < v.2 (p * g + s + 1) - v.2 (p * g + s) then some 1 else some (-1)) else some (-1) := by
      unfold L_X12_hasEdge
      rw [bnd_s, h1, if_neg i10, if_pos rfl]
      by_cases c : t = 0
      · rw [if_pos ((nI_k0 (by omega)).mpr c), if_pos c, f1, bd_s]
        by_cases d : k < v.2 (p * g + s + 1) - v.2 (p * g + s)
        · rw [if_pos d, if_neg (nI_ge d (by omega))]
        · rw [if_neg d, if_pos (nI_le (by omega) (by omega))]
      · rw [if_neg (fun q => c ((nI_k0 (by omega)).mp q)), if_neg c]
    rw [eh]
    by_cases c : t = 0
    · rw [if_pos c]
      by_cases d : k < v.2 (p * g + s + 1) - v.2 (p * g + s)
      · rw [if_pos d]
        exact ⟨1, rfl, Or.inl ⟨rfl, by rw [c]; exact List.mem_singleton.mpr rfl, d⟩⟩
      · rw [if_neg d]
        exact ⟨-1, rfl, Or.inr (Or.inr ⟨rfl, fun q => d q.2, fun u hu => by
          have hu : u ∈ [0] := hu
          rw [List.mem_singleton.mp hu]; exact Nat.not_lt_zero _⟩)⟩
    · rw [if_neg c]
      exact ⟨-1, rfl, Or.inr (Or.inr ⟨rfl, fun q => c (by
        have q1 : t ∈ [0] := q.1
        exact List.mem_singleton.mp q1), fun u hu => by
          have hu : u ∈ [0] := hu
          rw [List.mem_singleton.mp hu]; exact Nat.not_lt_zero _⟩)⟩
  · obtain ⟨s, t, k, q1, q2, q3, q4⟩ := elB_mem.mp he
    have q2 : t ∈ [0] := q2
    have t0 := List.mem_singleton.mp q2
    have q3 : k < v.2 (p * g + s + 1) - v.2 (p * g + s) := q3
    have hb := (bNo_o (M := M) h3 hp q1).2
    obtain ⟨c1, c2, c3⟩ := cur_d (s := s) (t := t) (k := k) (by omega) (by omega) (by omega)
    rw [q4]
    unfold L_X12_goesBy
    simp only [bnd_s]
    rw [h1, if_neg i10, if_pos rfl, c1, c3, x_eAt hv hO hg1 hg hp q1 q3, bd_s]
    rfl
  · unfold L_X12_isMarked
    rw [bnd_s, h1, if_neg i10, if_pos rfl, x_fin hv.1 hp, bd_s]
    cases nfin (zX v.1 p)
    · rfl
    · rfl
theorem x_allR {A : aS} {σ : sS} {F : Nat} (hF : 40000000 < F) (h : RI A σ) (hI : aI A) (a : Int32) : xRI (sp_all A a) (L_X12_all F a σ) := by
  have h := h.z 0
  have h3 := h.1.c.1
  have hg := h.1.2.2.1.2.1
  unfold L_X12_all sp_all
  simp only [bnd_s]
  rw [x_isAuto h.1, bd_s]
  generalize uI σ 90 0 0 = ρ at h ⊢
  by_cases ha : aOk (aC A) a = true
  · obtain ⟨i, hi, rfl⟩ := aOk_t ha (by omega)
    rw [if_pos ha, if_pos ha, if_neg i1n0, nI_clamp (by omega)]
    have hm := h.1.2.2.1.2.2.2.2 i hi
    have hG1 : 1 ≤ aG A := by
      rcases hI with q | q
      · omega
      · exact q
    rcases x_std (F := F) (by omega) h hI hi with ⟨hq, τ, t1, t2, -⟩ | ⟨v, τ, hq, t1, t2, t3, t4, -⟩
    · rw [hq, t1, bd2_s, if_pos rfl]
      exact xRI.r t2 3
    · rw [hq, t1, bd2_s, if_neg i1n0]
      have c3 := cpl_3 hm.1 hg hq
      have f0 : fm [] [37, 38] τ (uI (uI τ 90 37 1) 90 38 (nI i)) := (fm.uI (Or.inr ⟨rfl, by decide⟩)).tr (fm.uI (Or.inr ⟨rfl, by decide⟩))
      obtain ⟨υ1, n1, n2, n3⟩ := x_meetsNone (F := F) (by omega) (uI (uI τ 90 37 1) 90 38 (nI i))
      obtain ⟨υ2, e1, e2, e3⟩ := x_meets n2 (x := 0) (by omega) none
      have e1 : L_X12_meets 0 (-1) (-1) υ1 = some υ2 := e1
      have g1 : rG1 (aMa A i) (aG A) υ2 := by
        have f1 : fm shM shK (uI (uI τ 90 37 1) 90 38 (nI i)) υ2 := (n3.tr e3).mo (by decide) (by decide)
        refine rG1.f (τ := uI (uI τ 90 37 1) 90 38 (nI i)) ⟨?_, ?_, ?_⟩ f1
        · rw [vI_q (fun q => absurd q.2 (by decide)), vI_e]
        · exact (f0.f (by decide) (fun q => nomatch q)).trans t2.1.2.2.1.2.2.2.1
        · exact (rCpl.s t3 hq).f f0 (fun _ _ q => nomatch q) (fun q => nomatch q) (by decide)
      have eB : bm 0 none ([], fun _ => none) = bI (GF (G1 v (aG A))) (GN (G1 v (aG A))) 0 bS0 := by
        have := bI_x (p := fun n => decide (n = 0)) 1 0 (zN v.1 - 1) bS0 (fun x hx => decide_eq_false (by omega))
        rw [show 1 + (zN v.1 - 1) = zN v.1 by have := t4.1.1; omega] at this
        show _ = bI (fun n => decide (n = 0)) (zN v.1) 0 bS0
        rw [this]
        rfl
      rw [eB] at e2
      obtain ⟨υ3, υ, s1, s2, s3, s4⟩ := x_shG (F := F) (G1_ok t4 c3 hg) (fun ω f p hp => (x_G1 hq t4 c3 hG1 hg (g1.f f) hp.1).1) (fun ω f p hp => (x_G1 hq t4 c3 hG1 hg (g1.f f) hp.1).2) hF e2
      rw [n1, bd_s, e1, bd_s, s1, bd_s, s2, bd2_s]
      have R2 : RI A υ2 := by
        have f1 : fm wM (37 :: 38 :: wK) τ υ2 := (f0.mo (fun _ q => nomatch q) (by decide)).tr ((n3.tr e3).mo (fun _ q => q) (by decide))
        exact ⟨t2.1.keep f1 (by decide) (by decide) (by decide), t2.2.f f1 (by decide) (by decide) (by decide) rfl⟩
      exact shA_x rfl (R2.sh s4 s3)
  · rw [if_neg ha, if_neg ha, if_pos rfl]
    exact xRI.r h 1
