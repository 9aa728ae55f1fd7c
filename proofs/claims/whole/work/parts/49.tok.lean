/-! what a step of the tape keeps to -/
theorem tk_len {σ : sS} {e pl : Nat} (hE : vI σ 1 1 = nI e) (he : e ≤ 400) (hpl : pl ≤ e) : ∃ ln, (tk_kl σ e pl).2 = nI ln ∧ pl + ln ≤ e := by
  have hs := scn_le (P := b_sm σ) (e := e) (e - pl) pl (by omega)
  unfold tk_kl
  split
  · exact ⟨0, rfl, by omega⟩
  · rename_i h
    have hlt : pl < e := by
      have h2 : nI pl < vI σ 1 1 := Decidable.not_not.mp h
      rw [hE] at h2
      exact (nI_ltI (by omega) (by omega)).mp h2
    split
    · exact ⟨scn (b_sm σ) e pl - pl, rfl, by omega⟩
    · split
      · exact ⟨1, rfl, by omega⟩
      · exact ⟨1, rfl, by omega⟩
def tok (e : Nat) (σ : sS) : Prop := vI σ 1 1 = nI e ∧ ∃ p, p ≤ e ∧ vI σ 1 2 = nI p
theorem t_step_ok {σ : sS} {e p : Nat} (he : e ≤ 400) (hp : p ≤ e) (hE : vI σ 1 1 = nI e) : tok e (t_step σ e p) ∧ ∃ ln, ln ≤ 400 ∧ vI (t_step σ e p) 1 6 = nI ln := by
  have hs := scn_le (P := b_bl σ) (e := e) (e - p) p (by omega)
  obtain ⟨ln, h1, h2⟩ := tk_len (pl := scn (b_bl σ) e p) hE he hs.2
  have e1 : vI (t_step σ e p) 1 1 = nI e := by
    unfold t_step
    rw [u2_k (by decide), u2_k (by decide), u2_k (by decide), u2_k (by decide)]
    exact hE
  have e2 : vI (t_step σ e p) 1 2 = nI (scn (b_bl σ) e p + ln) := by
    unfold t_step
    rw [vI_s, h1, nI_add]
  have e6 : vI (t_step σ e p) 1 6 = nI ln := by
    unfold t_step
    rw [u2_k (by decide), u2_k (by decide), vI_s, h1]
  exact ⟨⟨e1, _, h2, e2⟩, ln, by omega, e6⟩
