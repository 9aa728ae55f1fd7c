/-! what the tape's methods and the names leave alone -/
theorem t_bl_n {σ : sS} {w s : Int32} {b : Nat} (hb : b ≠ 1) : vI (t_blame σ w s) b = vI σ b := (vI_r hb).trans (vI_r hb)
theorem t_st_n {e : Nat} {σ : sS} {b : Nat} (hb : b ≠ 1) : vI (t_st e σ) b = vI σ b := (vI_r hb).trans ((vI_r hb).trans ((vI_r hb).trans (vI_r hb)))
theorem t_wz_n {τ : sS} {l m : Int32} {b : Nat} (hb : b ≠ 1) : vI (t_wz τ l m) b = vI τ b := by
  unfold t_wz
  split
  · split
    · exact t_bl_n hb
    · split
      · rfl
      · exact t_bl_n hb
  · exact t_bl_n hb
theorem d_rs_n {τ : sS} {M ln b : Nat} (h1 : b ≠ 1) (h4 : b ≠ 4) (h5 : b ≠ 5) : vI (d_rs τ M ln) b = vI τ b := by
  unfold d_rs
  split
  · split
    · split
      · exact t_bl_n h1
      · exact (rp_I h5).trans (rp_I h4)
    · exact t_bl_n h1
  · exact t_bl_n h1
theorem d_rs_1 {τ : sS} {M ln k : Nat} (hk : k ≠ 7) (hk8 : k ≠ 8) : vI (d_rs τ M ln) 1 k = vI τ 1 k := by
  have hb : ∀ w s, vI (t_blame τ w s) 1 k = vI τ 1 k := fun w s => (u2_k hk8).trans (u2_k hk)
  unfold d_rs
  split
  · split
    · split
      · exact hb _ _
      · exact congrFun ((rp_I (by decide)).trans (rp_I (by decide))) k
    · exact hb _ _
  · exact hb _ _
theorem tok.rs {e : Nat} {τ : sS} {M ln : Nat} (h : tok e τ) : tok e (d_rs τ M ln) := h.of (d_rs_1 (by decide) (by decide)) (d_rs_1 (by decide) (by decide))
