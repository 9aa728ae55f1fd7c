/-! numbers: the component's side -/
/-- what the tape's own calls leave alone -/
def fT (σ τ : sS) : Prop := (∀ a j, a ≠ 1 → vI τ a j = vI σ a j) ∧ vI τ 1 1 = vI σ 1 1 ∧ vI τ 1 3 = vI σ 1 3 ∧ τ.2 = σ.2
theorem fT.rf {σ : sS} : fT σ σ := ⟨fun _ _ _ => rfl, rfl, rfl, rfl⟩
theorem fT.tr {σ τ υ : sS} (h : fT σ τ) (k : fT τ υ) : fT σ υ := ⟨fun a j n => (k.1 a j n).trans (h.1 a j n), k.2.1.trans h.2.1, k.2.2.1.trans h.2.2.1, k.2.2.2.trans h.2.2.2⟩
theorem fT.u {σ : sS} {k : Nat} {x : Int32} (h1 : k ≠ 1) (h3 : k ≠ 3) : fT σ (uI σ 1 k x) := ⟨fun a j n => vI_u.trans (if_neg (fun q => n q.1)), vI_u.trans (if_neg (fun q => h1 q.2.symm)), vI_u.trans (if_neg (fun q => h3 q.2.symm)), rfl⟩
theorem fT.bl {σ : sS} {w s : Int32} : fT σ (t_blame σ w s) := (fT.u (by decide) (by decide)).tr (fT.u (by decide) (by decide))
theorem fT.st {e : Nat} {σ : sS} : fT σ (t_st e σ) := (fT.u (by decide) (by decide)).tr ((fT.u (by decide) (by decide)).tr ((fT.u (by decide) (by decide)).tr (fT.u (by decide) (by decide))))
theorem y_whole {b : Nat → Int32} {e p l m : Nat} {σ : sS} (h : tkC b e p σ) (h7 : vI σ 1 7 = 0) (hl : l ≤ 9) (hm : m ≤ 9) : match sWhole b e (tq b e p) l m with
    | .inl (k, w) => ∃ τ, L_X9_whole (nI l) (nI m) σ = some (-1, τ) ∧ vI τ 1 7 = k ∧ vI τ 1 8 = nI w ∧ fT σ τ
    | .inr v => ∃ τ, L_X9_whole (nI l) (nI m) σ = some (nI v, τ) ∧ tkC b e (tke b e (tq b e p)) τ ∧ vI τ 1 7 = 0 ∧ fT σ τ := by
  obtain ⟨s1, s2⟩ := y_step h
  have een : t_en σ = e := by unfold t_en; rw [h.2.1, nI_clamp (by have := h.2.2.2.2; omega)]
  have ew : L_X9_whole (nI l) (nI m) σ = some (t_wa (t_st e σ) (nI l) (nI m), t_wz (t_st e σ) (nI l) (nI m)) := by
    unfold L_X9_step at s1
    have hk := (grd_at s1).1
    unfold L_X9_whole
    rw [hk, grd_s, een]
  rw [ew]
  have hf : fT σ (t_st e σ) := fT.st
  have f7 : vI (t_st e σ) 1 7 = 0 := h7
  generalize hq' : tq b e p = q at s2
  generalize t_st e σ = τ at s2 hf f7
  obtain ⟨d1, d2, d3, d4, d5, d6, ⟨r, r1, r2, r3⟩, -⟩ := s2
  unfold sWhole t_wa t_wz
  rw [d6]
  rcases tk_cases (b := b) d4 with ⟨-, c, c'⟩ | ⟨-, c, c'⟩ | ⟨ql, c, c', hd⟩ | ⟨-, c, c', c''⟩ | ⟨-, c, c'⟩
  · rw [c, c', if_neg (by decide), if_neg (by decide), if_neg (by decide), d5]
    exact ⟨_, rfl, rfl, rfl, hf.tr fT.bl⟩
  · rw [c, c', if_neg (by decide), if_neg (by decide), if_neg (by decide), d5]
    exact ⟨_, rfl, rfl, rfl, hf.tr fT.bl⟩
  · obtain ⟨x, e1, hx, e2⟩ := kDg_n hd
    have ev : t_vl τ = nI x := by
      unfold t_vl
      rw [d5, y_by d1 d2 d3 (by omega), if_pos ql, e1]
    rw [c, c', if_pos rfl, if_pos rfl, if_pos rfl, ev, e1, nI_clamp (by omega), d5]
    by_cases h1 : l ≤ x
    · rw [if_neg (Int32.not_lt.mpr (nI_le h1 (by omega))), if_neg (Int32.not_lt.mpr (nI_le h1 (by omega)))]
      by_cases h2 : x ≤ m
      · rw [if_pos (nI_le h2 (by omega)), if_pos (nI_le h2 (by omega)), if_pos ⟨h1, h2⟩]
        refine ⟨_, rfl, ⟨d1, d2, ?_, ?_, d3⟩, f7, hf⟩
        · rw [r2, r3 (by rw [c']; decide)]
        · exact (tke_le d4).2
      · rw [if_neg (nI_ge (by omega) (by omega)), if_neg (nI_ge (by omega) (by omega)), if_neg (fun c => h2 c.2)]
        exact ⟨_, rfl, rfl, rfl, hf.tr fT.bl⟩
    · rw [if_pos (nI_lt (by omega) (by omega)), if_pos (nI_lt (by omega) (by omega)), if_neg (fun c => h1 c.1)]
      exact ⟨_, rfl, rfl, rfl, hf.tr fT.bl⟩
  · have c3 : ¬ b q = 3 := by rcases c'' with z | z | z <;> rw [z] <;> decide
    rw [c, c', if_neg (by decide), if_neg c3, if_neg c3, d5]
    exact ⟨_, rfl, rfl, rfl, hf.tr fT.bl⟩
  · rw [c, c', if_neg (by decide), if_neg (by decide), if_neg (by decide), d5]
    exact ⟨_, rfl, rfl, rfl, hf.tr fT.bl⟩
