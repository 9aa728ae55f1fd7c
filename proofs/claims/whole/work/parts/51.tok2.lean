/-! steps and wholes of the tape, the place told by the state -/
def t_po (σ : sS) : Nat := (vI σ 1 2).toNatClampNeg
def t_st (e : Nat) (σ : sS) : sS := t_step σ e (t_po σ)
theorem tok.p {e : Nat} {σ : sS} (h : tok e σ) (he : e ≤ 400) : vI σ 1 2 = nI (t_po σ) ∧ t_po σ ≤ e := by
  obtain ⟨h1, p, h2, h3⟩ := h
  have e1 : t_po σ = p := by
    unfold t_po
    rw [h3, nI_clamp (by omega)]
  rw [e1]
  exact ⟨h3, h2⟩
theorem tok.st {e : Nat} {σ : sS} (h : tok e σ) (he : e ≤ 400) : tok e (t_st e σ) ∧ ∃ ln, ln ≤ 400 ∧ vI (t_st e σ) 1 6 = nI ln := t_step_ok he (h.p he).2 h.1
theorem tok.of {e : Nat} {σ τ : sS} (h : tok e σ) (h1 : vI τ 1 1 = vI σ 1 1) (h2 : vI τ 1 2 = vI σ 1 2) : tok e τ := by
  unfold tok
  rw [h1, h2]
  exact h
theorem tok.bl {e : Nat} {σ : sS} {w s : Int32} (h : tok e σ) : tok e (t_blame σ w s) := h.of ((u2_k (by decide)).trans (u2_k (by decide))) ((u2_k (by decide)).trans (u2_k (by decide)))
theorem tok.wz {e : Nat} {τ : sS} {l m : Int32} (h : tok e τ) : tok e (t_wz τ l m) := by
  unfold t_wz
  split
  · split
    · exact h.bl
    · split
      · exact h
      · exact h.bl
  · exact h.bl
theorem c_st {ad : Nat → Nat} {e : Nat} (he : e ≤ 400) (σ : sS) (h : tok e σ) : ab_X (sR ad) 3 mX9_step [.ref (ad 1)] σ none (t_st e σ) := c_X9_step σ h.1 he (h.p he).1 (h.p he).2
theorem c_wh {ad : Nat → Nat} {e : Nat} (he : e ≤ 400) (σ : sS) (h : tok e σ) (l m : Int32) : ab_X (sR ad) 4 mX9_whole [.ref (ad 1), .int l, .int m] σ (some (.int (t_wa (t_st e σ) l m))) (t_wz (t_st e σ) l m) := c_X9_whole σ h.1 he (h.p he).1 (h.p he).2 l m
