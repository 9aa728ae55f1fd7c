/-! the law's loop: a step -/
theorem lg_rf (x : Int64) : lg_cmp x x = 0 := by simp [lg_cmp]
theorem rd_fault {A : aS} {σ : sS} (h : R0 A σ) : L_X12_fault σ = some (aF A, uI σ 90 0 0) := by rw [← h.2.1.1]; rfl
theorem rd_where {A : aS} {σ : sS} (h : R0 A σ) : L_X12_where σ = some (aW A, uI σ 90 0 0) := by rw [← h.2.1.2.2.1]; rfl
theorem rd_size {A : aS} {σ : sS} (h : R0 A σ) : L_X12_size σ = some (nI (aT A), uI σ 90 0 0) := by rw [← h.1.2.1]; rfl
theorem rd_trouble {A : aS} {σ : sS} (h : R0 A σ) : L_X12_trouble σ = some (aU A, uI σ 90 0 0) := by rw [← h.2.1.2.1]; rfl
theorem rd_met {A : aS} {σ : sS} (h : R0 A σ) : L_X12_met σ = some (aTh A, uI σ 90 0 0) := by rw [← h.2.1.2.2.2]; rfl
theorem lw_letter {b : Nat × Nat} {A : aS} {σ : sS} (h : LW b A σ) (i : Int32) : ∃ b' v x τ υ, L_letter i σ = some (v, τ) ∧ L_X12_letter i τ = some (x, υ) ∧ vI υ 90 0 = v ∧ (v = 0 → lg_cmp (vL υ 80 (0 : Int32).toNatClampNeg) x.toInt64 = 0) ∧ LW b' A υ ∧ b'.1 ≤ b.1 + 1 ∧ b'.2 ≤ b.2 + 6 := by
  have y := y_letter h.1.1 i
  cases hq : sp_letter A i with
  | none =>
    rw [hq] at y
    have hR : RI A (uT σ) := h.2.1.v (fun _ _ _ => rfl)
    obtain ⟨υ, u1, u2, u3⟩ := x_letter hR.1 i
    rw [hq] at u1 u3
    have f := f_L_X12_letter u1
    refine ⟨(b.1 + 1, b.2 + 6), 1, _, _, υ, y, u1, u3, fun q => absurd q (by decide), ⟨h.1.t.fm f (fun _ h => nomatch h), ⟨u2, hR.2.f f (fun _ _ h => nomatch h) (fun h => nomatch h) (by decide) rfl⟩, h.2.2⟩, Nat.le_refl _, Nat.le_refl _⟩
  | some x =>
    rw [hq] at y
    have hR : RI A (uL σ 80 0 x.toInt64) := h.2.1.v (fun _ _ _ => rfl)
    have hC : CI (b, σ) A (uL σ 80 0 x.toInt64) := h.1
    obtain ⟨υ, u1, u2, u3⟩ := x_letter hR.1 i
    rw [hq] at u1 u3
    have f := f_L_X12_letter u1
    have e : vL υ 80 (0 : Int32).toNatClampNeg = x.toInt64 := by
      rw [f.2.1 80 _ (fun h => nomatch h) (fun h => absurd h (by decide))]
      rfl
    refine ⟨b, 0, _, _, υ, y, u1, u3, fun _ => ?_, ⟨hC.fm f (fun _ h => nomatch h), ⟨u2, hR.2.f f (fun _ _ h => nomatch h) (fun h => nomatch h) (by decide) rfl⟩, h.2.2⟩, by omega, by omega⟩
    rw [e]
    exact lg_rf _
set_option maxRecDepth 20000 in
set_option maxHeartbeats 4000000 in
theorem lw_step {F sn k n : Nat} {sq : Nat → Int32} {kx : sS → Option (Int32 × sS)} {b : Nat × Nat} {A : aS} {σ : sS} (hF : 40000000 < F) (hn : sn ≤ 3072) (hk : 6 * k + 6 ≤ sn) (hlt : ¬ nI sn - 6 < nI (6 * k)) (h : LW b A σ) : lwS b (L_L_law_23 F sn sq kx n (nI (6 * k) + 6)) (L_L_law_23 F sn sq kx (n + 1) (nI (6 * k)) σ) := by
  have g0 : inb (nI (6 * k)) sn = true := inb_n (by omega) (by omega)
  have g1 : inb (nI (6 * k) + 1) sn = true := by rw [show (nI (6 * k) + 1 : Int32) = nI (6 * k + 1) from nI_add (6 * k) 1]; exact inb_n (by omega) (by omega)
  have g2 : inb (nI (6 * k) + 2) sn = true := by rw [show (nI (6 * k) + 2 : Int32) = nI (6 * k + 2) from nI_add (6 * k) 2]; exact inb_n (by omega) (by omega)
  have g3 : inb (nI (6 * k) + 3) sn = true := by rw [show (nI (6 * k) + 3 : Int32) = nI (6 * k + 3) from nI_add (6 * k) 3]; exact inb_n (by omega) (by omega)
  have g4 : inb (nI (6 * k) + 4) sn = true := by rw [show (nI (6 * k) + 4 : Int32) = nI (6 * k + 4) from nI_add (6 * k) 4]; exact inb_n (by omega) (by omega)
  have g5 : inb (nI (6 * k) + 5) sn = true := by rw [show (nI (6 * k) + 5 : Int32) = nI (6 * k + 5) from nI_add (6 * k) 5]; exact inb_n (by omega) (by omega)
  rw [L_L_law_23]
  generalize L_L_law_23 F sn sq kx n (nI (6 * k) + 6) = K
  refine lwS.n hlt (lwS.g g0 ?_)
  rw [bnd_s]
  generalize (sq (nI (6 * k)).toNatClampNeg &&& 31) = y
  have hC := h.1
  have hf := h.1.2.2.2.2.2
  have hI := h.2.2
  by_cases w0 : y = 0
  · refine lwS.p w0 ?_
    obtain ⟨τ, υ, v, e1, e2, e3⟩ := h.go (q := L_X12_feed F (sq (nI (6 * k) + 1).toNatClampNeg) (sq (nI (6 * k) + 2).toNatClampNeg) (sq (nI (6 * k) + 3).toNatClampNeg) (sq (nI (6 * k) + 4).toNatClampNeg) (sq (nI (6 * k) + 5).toNatClampNeg)) (yi_feed hC (sq (nI (6 * k) + 1).toNatClampNeg) (sq (nI (6 * k) + 2).toNatClampNeg) (sq (nI (6 * k) + 3).toNatClampNeg) (sq (nI (6 * k) + 4).toNatClampNeg) (sq (nI (6 * k) + 5).toNatClampNeg) m_feed) (fun τ hτ => xi hτ (x_feed (by omega) hτ.1 (sq (nI (6 * k) + 1).toNatClampNeg) (sq (nI (6 * k) + 2).toNatClampNeg) (sq (nI (6 * k) + 3).toNatClampNeg) (sq (nI (6 * k) + 4).toNatClampNeg) (sq (nI (6 * k) + 5).toNatClampNeg)) (fun z hz => f_L_X12_feed hz) (by decide) (by decide) (by decide) m_feed) (fun τ z hz => f_L_X12_feed hz) (by decide) (hI.m m_feed)
    exact lwS.g g1 (lwS.g g2 (lwS.g g3 (lwS.g g4 (lwS.g g5 (lwS.b e1 (lwS.g g1 (lwS.g g2 (lwS.g g3 (lwS.g g4 (lwS.g g5 (lwS.b e2 (lwS.p rfl (lwS.k e3)))))))))))))
  refine lwS.n w0 ?_
  by_cases w1 : y = 1
  · refine lwS.p w1 ?_
    obtain ⟨τ, υ, v, e1, e2, e3⟩ := h.go (q := L_X12_automata F (sq (nI (6 * k) + 1).toNatClampNeg)) ((y_automata (F := F) (by omega) hC.1 hC.2.1.1 (sq (nI (6 * k) + 1).toNatClampNeg)).i hC) (fun τ hτ => (xi_automata (F := F) (by omega) hτ hI (sq (nI (6 * k) + 1).toNatClampNeg)).1) (fun τ z hz => f_L_X12_automata hz) (by decide) ((xi_automata (F := F) (by omega) h.2.1 hI (sq (nI (6 * k) + 1).toNatClampNeg)).2)
    exact lwS.g g1 (lwS.b e1 (lwS.g g1 (lwS.b e2 (lwS.p rfl (lwS.k e3)))))
  refine lwS.n w1 ?_
  by_cases w2 : y = 2
  · refine lwS.p w2 ?_
    obtain ⟨υ, e2, e3⟩ := h.rd (q := L_X12_fault) (v := L_X11_fault σ) (by rw [y_fault hC.1]; exact rd_fault h.2.1.1)
    exact lwS.b e2 (lwS.p rfl (lwS.k e3))
  refine lwS.n w2 ?_
  by_cases w3 : y = 3
  · refine lwS.p w3 ?_
    obtain ⟨υ, e2, e3⟩ := h.rd (q := L_X12_where) (v := L_X11_where σ) (by rw [y_where hC.1]; exact rd_where h.2.1.1)
    exact lwS.b e2 (lwS.p rfl (lwS.k e3))
  refine lwS.n w3 ?_
  by_cases w4 : y = 4
  · refine lwS.p w4 ?_
    obtain ⟨τ, υ, v, e1, e2, e3⟩ := h.go (q := L_X12_automaton F (sq (nI (6 * k) + 1).toNatClampNeg) (sq (nI (6 * k) + 2).toNatClampNeg)) ((y_automaton hC.1 (sq (nI (6 * k) + 1).toNatClampNeg) (sq (nI (6 * k) + 2).toNatClampNeg)).i hC m_automaton) (fun τ hτ => xi hτ (x_automaton (by omega) hτ.1 (sq (nI (6 * k) + 1).toNatClampNeg) (sq (nI (6 * k) + 2).toNatClampNeg)) (fun z hz => f_L_X12_automaton hz) (by decide) (by decide) (by decide) m_automaton) (fun τ z hz => f_L_X12_automaton hz) (by decide) (hI.m m_automaton)
    exact lwS.g g1 (lwS.g g2 (lwS.b e1 (lwS.g g1 (lwS.g g2 (lwS.b e2 (lwS.p rfl (lwS.k e3)))))))
  refine lwS.n w4 ?_
  by_cases w5 : y = 5
  · refine lwS.p w5 ?_
    obtain ⟨τ, υ, v, e1, e2, e3⟩ := h.go (q := L_X12_edge (sq (nI (6 * k) + 1).toNatClampNeg) (sq (nI (6 * k) + 2).toNatClampNeg) (sq (nI (6 * k) + 3).toNatClampNeg) (sq (nI (6 * k) + 4).toNatClampNeg)) ((y_edge hC.1 (sq (nI (6 * k) + 1).toNatClampNeg) (sq (nI (6 * k) + 2).toNatClampNeg) (sq (nI (6 * k) + 3).toNatClampNeg) (sq (nI (6 * k) + 4).toNatClampNeg)).i hC m_edge) (fun τ hτ => xi hτ (x_edge hτ.1 (sq (nI (6 * k) + 1).toNatClampNeg) (sq (nI (6 * k) + 2).toNatClampNeg) (sq (nI (6 * k) + 3).toNatClampNeg) (sq (nI (6 * k) + 4).toNatClampNeg)) (fun z hz => f_L_X12_edge hz) (by decide) (by decide) (by decide) m_edge) (fun τ z hz => f_L_X12_edge hz) (by decide) (hI.m m_edge)
    exact lwS.g g1 (lwS.g g2 (lwS.g g3 (lwS.g g4 (lwS.b e1 (lwS.g g1 (lwS.g g2 (lwS.g g3 (lwS.g g4 (lwS.b e2 (lwS.p rfl (lwS.k e3)))))))))))
  refine lwS.n w5 ?_
  by_cases w6 : y = 6
  · refine lwS.p w6 ?_
    obtain ⟨τ, υ, v, e1, e2, e3⟩ := h.go (q := L_X12_after F (sq (nI (6 * k) + 1).toNatClampNeg) (sq (nI (6 * k) + 2).toNatClampNeg) (sq (nI (6 * k) + 3).toNatClampNeg)) ((y_after hC.1 (sq (nI (6 * k) + 1).toNatClampNeg) (sq (nI (6 * k) + 2).toNatClampNeg) (sq (nI (6 * k) + 3).toNatClampNeg)).i hC m_after) (fun τ hτ => xi hτ (x_after (by omega) hτ.1 (sq (nI (6 * k) + 1).toNatClampNeg) (sq (nI (6 * k) + 2).toNatClampNeg) (sq (nI (6 * k) + 3).toNatClampNeg)) (fun z hz => f_L_X12_after hz) (by decide) (by decide) (by decide) m_after) (fun τ z hz => f_L_X12_after hz) (by decide) (hI.m m_after)
    exact lwS.g g1 (lwS.g g2 (lwS.g g3 (lwS.b e1 (lwS.g g1 (lwS.g g2 (lwS.g g3 (lwS.b e2 (lwS.p rfl (lwS.k e3)))))))))
  refine lwS.n w6 ?_
  by_cases w7 : y = 7
  · refine lwS.p w7 ?_
    obtain ⟨τ, υ, v, e1, e2, e3⟩ := h.go (q := L_X12_bound (sq (nI (6 * k) + 1).toNatClampNeg) (sq (nI (6 * k) + 2).toNatClampNeg)) ((y_bound hC.1 (sq (nI (6 * k) + 1).toNatClampNeg) (sq (nI (6 * k) + 2).toNatClampNeg)).i hC m_bound) (fun τ hτ => xi hτ (x_bound hτ.1 (sq (nI (6 * k) + 1).toNatClampNeg) (sq (nI (6 * k) + 2).toNatClampNeg)) (fun z hz => f_L_X12_bound hz) (by decide) (by decide) (by decide) m_bound) (fun τ z hz => f_L_X12_bound hz) (by decide) (hI.m m_bound)
    exact lwS.g g1 (lwS.g g2 (lwS.b e1 (lwS.g g1 (lwS.g g2 (lwS.b e2 (lwS.p rfl (lwS.k e3)))))))
  refine lwS.n w7 ?_
  by_cases w8 : y = 8
  · refine lwS.p w8 ?_
    obtain ⟨τ, υ, v, e1, e2, e3⟩ := h.go (q := L_X12_rankings F (sq (nI (6 * k) + 1).toNatClampNeg) (sq (nI (6 * k) + 2).toNatClampNeg) (sq (nI (6 * k) + 3).toNatClampNeg)) (yi_rankings hC (sq (nI (6 * k) + 1).toNatClampNeg) (sq (nI (6 * k) + 2).toNatClampNeg) (sq (nI (6 * k) + 3).toNatClampNeg) m_rankings) (fun τ hτ => xi hτ (x_rankings (by omega) hτ.1 (sq (nI (6 * k) + 1).toNatClampNeg) (sq (nI (6 * k) + 2).toNatClampNeg) (sq (nI (6 * k) + 3).toNatClampNeg)) (fun z hz => f_L_X12_rankings hz) (by decide) (by decide) (by decide) m_rankings) (fun τ z hz => f_L_X12_rankings hz) (by decide) (hI.m m_rankings)
    exact lwS.g g1 (lwS.g g2 (lwS.g g3 (lwS.b e1 (lwS.g g1 (lwS.g g2 (lwS.g g3 (lwS.b e2 (lwS.p rfl (lwS.k e3)))))))))
  refine lwS.n w8 ?_
  by_cases w9 : y = 9
  · refine lwS.p w9 ?_
    obtain ⟨τ, υ, v, e1, e2, e3⟩ := h.go (q := L_X12_ranked F (sq (nI (6 * k) + 1).toNatClampNeg) (sq (nI (6 * k) + 2).toNatClampNeg) (sq (nI (6 * k) + 3).toNatClampNeg) (sq (nI (6 * k) + 4).toNatClampNeg) (sq (nI (6 * k) + 5).toNatClampNeg)) (yi_ranked hC (sq (nI (6 * k) + 1).toNatClampNeg) (sq (nI (6 * k) + 2).toNatClampNeg) (sq (nI (6 * k) + 3).toNatClampNeg) (sq (nI (6 * k) + 4).toNatClampNeg) (sq (nI (6 * k) + 5).toNatClampNeg) m_ranked) (fun τ hτ => xi hτ (x_ranked (by omega) hτ.1 (sq (nI (6 * k) + 1).toNatClampNeg) (sq (nI (6 * k) + 2).toNatClampNeg) (sq (nI (6 * k) + 3).toNatClampNeg) (sq (nI (6 * k) + 4).toNatClampNeg) (sq (nI (6 * k) + 5).toNatClampNeg)) (fun z hz => f_L_X12_ranked hz) (by decide) (by decide) (by decide) m_ranked) (fun τ z hz => f_L_X12_ranked hz) (by decide) (hI.m m_ranked)
    exact lwS.g g1 (lwS.g g2 (lwS.g g3 (lwS.g g4 (lwS.g g5 (lwS.b e1 (lwS.g g1 (lwS.g g2 (lwS.g g3 (lwS.g g4 (lwS.g g5 (lwS.b e2 (lwS.p rfl (lwS.k e3)))))))))))))
  refine lwS.n w9 ?_
  by_cases w10 : y = 10
  · refine lwS.p w10 ?_
    obtain ⟨τ, υ, v, e1, e2, e3⟩ := h.go (q := L_X12_complement F (sq (nI (6 * k) + 1).toNatClampNeg)) (y_complement hC (sq (nI (6 * k) + 1).toNatClampNeg)) (fun τ hτ => x_complement (by omega) hτ hI (sq (nI (6 * k) + 1).toNatClampNeg)) (fun τ z hz => f_L_X12_complement hz) (by decide) (hI.m m_complement)
    exact lwS.g g1 (lwS.b e1 (lwS.g g1 (lwS.b e2 (lwS.p rfl (lwS.k e3)))))
  refine lwS.n w10 ?_
  by_cases w11 : y = 11
  · refine lwS.p w11 ?_
    obtain ⟨τ, υ, v, e1, e2, e3⟩ := h.go (q := L_X12_node F (sq (nI (6 * k) + 1).toNatClampNeg) (sq (nI (6 * k) + 2).toNatClampNeg) (sq (nI (6 * k) + 3).toNatClampNeg)) (y_node hC (sq (nI (6 * k) + 1).toNatClampNeg) (sq (nI (6 * k) + 2).toNatClampNeg) (sq (nI (6 * k) + 3).toNatClampNeg)) (fun τ hτ => x_node (by omega) hτ hI (sq (nI (6 * k) + 1).toNatClampNeg) (sq (nI (6 * k) + 2).toNatClampNeg) (sq (nI (6 * k) + 3).toNatClampNeg)) (fun τ z hz => f_L_X12_node hz) (by decide) (hI.m m_node)
    exact lwS.g g1 (lwS.g g2 (lwS.g g3 (lwS.b e1 (lwS.g g1 (lwS.g g2 (lwS.g g3 (lwS.b e2 (lwS.p rfl (lwS.k e3)))))))))
  refine lwS.n w11 ?_
  by_cases w12 : y = 12
  · refine lwS.p w12 ?_
    obtain ⟨τ, υ, v, e1, e2, e3⟩ := h.go (q := L_X12_rank F (sq (nI (6 * k) + 1).toNatClampNeg) (sq (nI (6 * k) + 2).toNatClampNeg) (sq (nI (6 * k) + 3).toNatClampNeg)) (y_rank hC (sq (nI (6 * k) + 1).toNatClampNeg) (sq (nI (6 * k) + 2).toNatClampNeg) (sq (nI (6 * k) + 3).toNatClampNeg)) (fun τ hτ => x_rank (by omega) hτ hI (sq (nI (6 * k) + 1).toNatClampNeg) (sq (nI (6 * k) + 2).toNatClampNeg) (sq (nI (6 * k) + 3).toNatClampNeg)) (fun τ z hz => f_L_X12_rank hz) (by decide) (hI.m m_rank)
    exact lwS.g g1 (lwS.g g2 (lwS.g g3 (lwS.b e1 (lwS.g g1 (lwS.g g2 (lwS.g g3 (lwS.b e2 (lwS.p rfl (lwS.k e3)))))))))
  refine lwS.n w12 ?_
  by_cases w13 : y = 13
  · refine lwS.p w13 ?_
    obtain ⟨τ, υ, v, e1, e2, e3⟩ := h.go (q := L_X12_next F (sq (nI (6 * k) + 1).toNatClampNeg) (sq (nI (6 * k) + 2).toNatClampNeg) (sq (nI (6 * k) + 3).toNatClampNeg) (sq (nI (6 * k) + 4).toNatClampNeg)) (y_next hC (sq (nI (6 * k) + 1).toNatClampNeg) (sq (nI (6 * k) + 2).toNatClampNeg) (sq (nI (6 * k) + 3).toNatClampNeg) (sq (nI (6 * k) + 4).toNatClampNeg)) (fun τ hτ => x_next (by omega) hτ hI (sq (nI (6 * k) + 1).toNatClampNeg) (sq (nI (6 * k) + 2).toNatClampNeg) (sq (nI (6 * k) + 3).toNatClampNeg) (sq (nI (6 * k) + 4).toNatClampNeg)) (fun τ z hz => f_L_X12_next hz) (by decide) (hI.m m_next)
    exact lwS.g g1 (lwS.g g2 (lwS.g g3 (lwS.g g4 (lwS.b e1 (lwS.g g1 (lwS.g g2 (lwS.g g3 (lwS.g g4 (lwS.b e2 (lwS.p rfl (lwS.k e3)))))))))))
  refine lwS.n w13 ?_
  by_cases w14 : y = 14
  · refine lwS.p w14 ?_
    obtain ⟨τ, υ, v, e1, e2, e3⟩ := h.go (q := L_X12_nodes F (sq (nI (6 * k) + 1).toNatClampNeg) (sq (nI (6 * k) + 2).toNatClampNeg)) (y_nodes hC (sq (nI (6 * k) + 1).toNatClampNeg) (sq (nI (6 * k) + 2).toNatClampNeg)) (fun τ hτ => x_nodes (by omega) hτ hI (sq (nI (6 * k) + 1).toNatClampNeg) (sq (nI (6 * k) + 2).toNatClampNeg)) (fun τ z hz => f_L_X12_nodes hz) (by decide) (hI.m m_nodes)
    exact lwS.g g1 (lwS.g g2 (lwS.b e1 (lwS.g g1 (lwS.g g2 (lwS.b e2 (lwS.p rfl (lwS.k e3)))))))
  refine lwS.n w14 ?_
  by_cases w15 : y = 15
  · refine lwS.p w15 ?_
    obtain ⟨τ, υ, v, e1, e2, e3⟩ := h.go (q := L_X12_takes F (sq (nI (6 * k) + 1).toNatClampNeg) (sq (nI (6 * k) + 2).toNatClampNeg)) ((y_takes (F := F) (by omega) hC hf (sq (nI (6 * k) + 1).toNatClampNeg) (sq (nI (6 * k) + 2).toNatClampNeg)).i) (fun τ hτ => x_takes (by omega) hτ (sq (nI (6 * k) + 1).toNatClampNeg) (sq (nI (6 * k) + 2).toNatClampNeg)) (fun τ z hz => f_L_X12_takes hz) (by decide) (hI.m m_takes)
    exact lwS.g g1 (lwS.g g2 (lwS.b e1 (lwS.g g1 (lwS.g g2 (lwS.b e2 (lwS.p rfl (lwS.k e3)))))))
  refine lwS.n w15 ?_
  by_cases w16 : y = 16
  · refine lwS.p w16 ?_
    obtain ⟨τ, υ, v, e1, e2, e3⟩ := h.go (q := L_X12_lacks F (sq (nI (6 * k) + 1).toNatClampNeg) (sq (nI (6 * k) + 2).toNatClampNeg)) ((y_lacks (F := F) (by omega) hC hf (sq (nI (6 * k) + 1).toNatClampNeg) (sq (nI (6 * k) + 2).toNatClampNeg)).i) (fun τ hτ => x_lacks (by omega) hτ hI (sq (nI (6 * k) + 1).toNatClampNeg) (sq (nI (6 * k) + 2).toNatClampNeg)) (fun τ z hz => f_L_X12_lacks hz) (by decide) (hI.m m_lacks)
    exact lwS.g g1 (lwS.g g2 (lwS.b e1 (lwS.g g1 (lwS.g g2 (lwS.b e2 (lwS.p rfl (lwS.k e3)))))))
  refine lwS.n w16 ?_
  by_cases w17 : y = 17
  · refine lwS.p w17 ?_
    obtain ⟨τ, υ, v, e1, e2, e3⟩ := h.go (q := L_X12_follows F (sq (nI (6 * k) + 1).toNatClampNeg) (sq (nI (6 * k) + 2).toNatClampNeg) (sq (nI (6 * k) + 3).toNatClampNeg)) ((y_followsI (F := F) (by omega) hC hf (sq (nI (6 * k) + 1).toNatClampNeg) (sq (nI (6 * k) + 2).toNatClampNeg) (sq (nI (6 * k) + 3).toNatClampNeg)).i) (fun τ hτ => xi hτ (x_follows (by omega) hτ.1 (sq (nI (6 * k) + 1).toNatClampNeg) (sq (nI (6 * k) + 2).toNatClampNeg) (sq (nI (6 * k) + 3).toNatClampNeg)) (fun z hz => f_L_X12_follows hz) (by decide) (by decide) (by decide) m_follows) (fun τ z hz => f_L_X12_follows hz) (by decide) (hI.m m_follows)
    exact lwS.g g1 (lwS.g g2 (lwS.g g3 (lwS.b e1 (lwS.g g1 (lwS.g g2 (lwS.g g3 (lwS.b e2 (lwS.p rfl (lwS.k e3)))))))))
  refine lwS.n w17 ?_
  by_cases w18 : y = 18
  · refine lwS.p w18 ?_
    obtain ⟨τ, υ, v, e1, e2, e3⟩ := h.go (q := L_X12_counts F (sq (nI (6 * k) + 1).toNatClampNeg) (sq (nI (6 * k) + 2).toNatClampNeg) (sq (nI (6 * k) + 3).toNatClampNeg)) ((y_counts hC hf hI (sq (nI (6 * k) + 1).toNatClampNeg) (sq (nI (6 * k) + 2).toNatClampNeg) (sq (nI (6 * k) + 3).toNatClampNeg)).i) (fun τ hτ => x_counts (by omega) hτ hI (sq (nI (6 * k) + 1).toNatClampNeg) (sq (nI (6 * k) + 2).toNatClampNeg) (sq (nI (6 * k) + 3).toNatClampNeg)) (fun τ z hz => f_L_X12_counts hz) (by decide) (hI.m m_counts)
    exact lwS.g g1 (lwS.g g2 (lwS.g g3 (lwS.b e1 (lwS.g g1 (lwS.g g2 (lwS.g g3 (lwS.b e2 (lwS.p rfl (lwS.k e3)))))))))
  refine lwS.n w18 ?_
  by_cases w19 : y = 19
  · refine lwS.p w19 ?_
    obtain ⟨τ, υ, v, e1, e2, e3⟩ := h.go (q := L_X12_others F (sq (nI (6 * k) + 1).toNatClampNeg) (sq (nI (6 * k) + 2).toNatClampNeg) (sq (nI (6 * k) + 3).toNatClampNeg)) ((y_others hC hf hI (sq (nI (6 * k) + 1).toNatClampNeg) (sq (nI (6 * k) + 2).toNatClampNeg) (sq (nI (6 * k) + 3).toNatClampNeg)).i) (fun τ hτ => x_others (by omega) hτ hI (sq (nI (6 * k) + 1).toNatClampNeg) (sq (nI (6 * k) + 2).toNatClampNeg) (sq (nI (6 * k) + 3).toNatClampNeg)) (fun τ z hz => f_L_X12_others hz) (by decide) (hI.m m_others)
    exact lwS.g g1 (lwS.g g2 (lwS.g g3 (lwS.b e1 (lwS.g g1 (lwS.g g2 (lwS.g g3 (lwS.b e2 (lwS.p rfl (lwS.k e3)))))))))
  refine lwS.n w19 ?_
  by_cases w20 : y = 20
  · refine lwS.p w20 ?_
    obtain ⟨τ, υ, v, e1, e2, e3⟩ := h.go (q := L_X12_empty F (sq (nI (6 * k) + 1).toNatClampNeg)) (y_empty hC (sq (nI (6 * k) + 1).toNatClampNeg)) (fun τ hτ => x_empty (by omega) hτ (sq (nI (6 * k) + 1).toNatClampNeg)) (fun τ z hz => f_L_X12_empty hz) (by decide) (hI.m m_empty)
    exact lwS.g g1 (lwS.b e1 (lwS.g g1 (lwS.b e2 (lwS.p rfl (lwS.k e3)))))
  refine lwS.n w20 ?_
  by_cases w21 : y = 21
  · refine lwS.p w21 ?_
    obtain ⟨τ, υ, v, e1, e2, e3⟩ := h.go (q := L_X12_all F (sq (nI (6 * k) + 1).toNatClampNeg)) (y_allC hC (sq (nI (6 * k) + 1).toNatClampNeg)) (fun τ hτ => x_allR (by omega) hτ hI (sq (nI (6 * k) + 1).toNatClampNeg)) (fun τ z hz => f_L_X12_all hz) (by decide) (hI.m m_all)
    exact lwS.g g1 (lwS.b e1 (lwS.g g1 (lwS.b e2 (lwS.p rfl (lwS.k e3)))))
  refine lwS.n w21 ?_
  by_cases w22 : y = 22
  · refine lwS.p w22 ?_
    obtain ⟨τ, υ, v, e1, e2, e3⟩ := h.go (q := L_X12_within F (sq (nI (6 * k) + 1).toNatClampNeg) (sq (nI (6 * k) + 2).toNatClampNeg)) (y_within hC (sq (nI (6 * k) + 1).toNatClampNeg) (sq (nI (6 * k) + 2).toNatClampNeg)) (fun τ hτ => x_within (by omega) hτ hI (sq (nI (6 * k) + 1).toNatClampNeg) (sq (nI (6 * k) + 2).toNatClampNeg)) (fun τ z hz => f_L_X12_within hz) (by decide) (hI.m m_within)
    exact lwS.g g1 (lwS.g g2 (lwS.b e1 (lwS.g g1 (lwS.g g2 (lwS.b e2 (lwS.p rfl (lwS.k e3)))))))
  refine lwS.n w22 ?_
  by_cases w23 : y = 23
  · refine lwS.p w23 ?_
    obtain ⟨υ, e2, e3⟩ := h.rd (q := L_X12_met) (v := L_X11_met σ) (by rw [y_met hC.1]; exact rd_met h.2.1.1)
    exact lwS.b e2 (lwS.p rfl (lwS.k e3))
  refine lwS.n w23 ?_
  by_cases w24 : y = 24
  · refine lwS.p w24 ?_
    obtain ⟨τ, υ, v, e1, e2, e3⟩ := h.go (q := L_X12_shown (sq (nI (6 * k) + 1).toNatClampNeg)) ((y_shown hC.1 (sq (nI (6 * k) + 1).toNatClampNeg)).i hC m_shown) (fun τ hτ => xi hτ (x_shown hτ.1 (sq (nI (6 * k) + 1).toNatClampNeg)) (fun z hz => f_L_X12_shown hz) (by decide) (by decide) (by decide) m_shown) (fun τ z hz => f_L_X12_shown hz) (by decide) (hI.m m_shown)
    exact lwS.g g1 (lwS.b e1 (lwS.g g1 (lwS.b e2 (lwS.p rfl (lwS.k e3)))))
  refine lwS.n w24 ?_
  by_cases w25 : y = 25
  · refine lwS.p w25 ?_
    obtain ⟨b', v, x, τ, υ, e1, e2, e3, e4, e5, e6, e7⟩ := lw_letter h (sq (nI (6 * k) + 1).toNatClampNeg)
    refine lwS.g g1 (lwS.b e1 (lwS.g g1 (lwS.b e2 (lwS.p e3 ?_))))
    by_cases q : v = 0
    · exact lwS.p q (lwS.p (e4 q) ⟨b', A, υ, rfl, e5, e6, e7⟩)
    · exact lwS.n q ⟨b', A, υ, rfl, e5, e6, e7⟩
  refine lwS.n w25 ?_
  by_cases w26 : y = 26
  · refine lwS.p w26 ?_
    refine lwS.g g1 (lwS.g g2 (lwS.g g3 (lwS.g g4 (lwS.g g5 (?_)))))
    by_cases q : (sq (nI (6 * k) + 5).toNatClampNeg) = 0
    · refine lwS.p q ?_
      obtain ⟨τ, υ, v, e1, e2, e3⟩ := h.go (q := L_X12_link F (sq (nI (6 * k) + 1).toNatClampNeg) (sq (nI (6 * k) + 2).toNatClampNeg) (sq (nI (6 * k) + 3).toNatClampNeg) (sq (nI (6 * k) + 4).toNatClampNeg) 0) ((y_link hC.1 (sq (nI (6 * k) + 1).toNatClampNeg) (sq (nI (6 * k) + 2).toNatClampNeg) (sq (nI (6 * k) + 3).toNatClampNeg) (sq (nI (6 * k) + 4).toNatClampNeg) 0 (Or.inl rfl)).i hC aAc_link) (fun τ hτ => xi_link (F := F) (by omega) hτ (sq (nI (6 * k) + 1).toNatClampNeg) (sq (nI (6 * k) + 2).toNatClampNeg) (sq (nI (6 * k) + 3).toNatClampNeg) (sq (nI (6 * k) + 4).toNatClampNeg) 0) (fun τ z hz => f_L_X12_link hz) (by decide) (hI.a aAc_link)
      exact lwS.b e1 (lwS.g g1 (lwS.g g2 (lwS.g g3 (lwS.g g4 (lwS.g g5 (lwS.p q (lwS.b e2 (lwS.p rfl (lwS.k e3)))))))))
    · refine lwS.n q ?_
      obtain ⟨τ, υ, v, e1, e2, e3⟩ := h.go (q := L_X12_link F (sq (nI (6 * k) + 1).toNatClampNeg) (sq (nI (6 * k) + 2).toNatClampNeg) (sq (nI (6 * k) + 3).toNatClampNeg) (sq (nI (6 * k) + 4).toNatClampNeg) 1) ((y_link hC.1 (sq (nI (6 * k) + 1).toNatClampNeg) (sq (nI (6 * k) + 2).toNatClampNeg) (sq (nI (6 * k) + 3).toNatClampNeg) (sq (nI (6 * k) + 4).toNatClampNeg) 1 (Or.inr rfl)).i hC aAc_link) (fun τ hτ => xi_link (F := F) (by omega) hτ (sq (nI (6 * k) + 1).toNatClampNeg) (sq (nI (6 * k) + 2).toNatClampNeg) (sq (nI (6 * k) + 3).toNatClampNeg) (sq (nI (6 * k) + 4).toNatClampNeg) 1) (fun τ z hz => f_L_X12_link hz) (by decide) (hI.a aAc_link)
      exact lwS.b e1 (lwS.g g1 (lwS.g g2 (lwS.g g3 (lwS.g g4 (lwS.g g5 (lwS.n q (lwS.b e2 (lwS.p rfl (lwS.k e3)))))))))
  refine lwS.n w26 ?_
  by_cases w27 : y = 27
  · refine lwS.p w27 ?_
    refine lwS.g g1 (lwS.g g2 (lwS.g g3 (?_)))
    by_cases q : (sq (nI (6 * k) + 3).toNatClampNeg) = 0
    · refine lwS.p q ?_
      obtain ⟨τ, υ, v, e1, e2, e3⟩ := h.go (q := L_X12_mark (sq (nI (6 * k) + 1).toNatClampNeg) (sq (nI (6 * k) + 2).toNatClampNeg) 0) ((y_mark hC.1 (sq (nI (6 * k) + 1).toNatClampNeg) (sq (nI (6 * k) + 2).toNatClampNeg) 0).i hC aAc_mark) (fun τ hτ => xi_mark hτ (sq (nI (6 * k) + 1).toNatClampNeg) (sq (nI (6 * k) + 2).toNatClampNeg) 0) (fun τ z hz => f_L_X12_mark hz) (by decide) (hI.a aAc_mark)
      exact lwS.b e1 (lwS.g g1 (lwS.g g2 (lwS.g g3 (lwS.p q (lwS.b e2 (lwS.p rfl (lwS.k e3)))))))
    · refine lwS.n q ?_
      obtain ⟨τ, υ, v, e1, e2, e3⟩ := h.go (q := L_X12_mark (sq (nI (6 * k) + 1).toNatClampNeg) (sq (nI (6 * k) + 2).toNatClampNeg) 1) ((y_mark hC.1 (sq (nI (6 * k) + 1).toNatClampNeg) (sq (nI (6 * k) + 2).toNatClampNeg) 1).i hC aAc_mark) (fun τ hτ => xi_mark hτ (sq (nI (6 * k) + 1).toNatClampNeg) (sq (nI (6 * k) + 2).toNatClampNeg) 1) (fun τ z hz => f_L_X12_mark hz) (by decide) (hI.a aAc_mark)
      exact lwS.b e1 (lwS.g g1 (lwS.g g2 (lwS.g g3 (lwS.n q (lwS.b e2 (lwS.p rfl (lwS.k e3)))))))
  refine lwS.n w27 ?_
  by_cases w28 : y = 28
  · refine lwS.p w28 ?_
    refine lwS.g g1 (lwS.g g2 (lwS.g g3 (?_)))
    by_cases q : (sq (nI (6 * k) + 3).toNatClampNeg) = 0
    · refine lwS.p q ?_
      obtain ⟨τ, υ, v, e1, e2, e3⟩ := h.go (q := L_X12_begin (sq (nI (6 * k) + 1).toNatClampNeg) (sq (nI (6 * k) + 2).toNatClampNeg) 0) ((y_begin hC.1 (sq (nI (6 * k) + 1).toNatClampNeg) (sq (nI (6 * k) + 2).toNatClampNeg) 0).i hC aAc_begin) (fun τ hτ => xi_begin hτ (sq (nI (6 * k) + 1).toNatClampNeg) (sq (nI (6 * k) + 2).toNatClampNeg) 0) (fun τ z hz => f_L_X12_begin hz) (by decide) (hI.a aAc_begin)
      exact lwS.b e1 (lwS.g g1 (lwS.g g2 (lwS.g g3 (lwS.p q (lwS.b e2 (lwS.p rfl (lwS.k e3)))))))
    · refine lwS.n q ?_
      obtain ⟨τ, υ, v, e1, e2, e3⟩ := h.go (q := L_X12_begin (sq (nI (6 * k) + 1).toNatClampNeg) (sq (nI (6 * k) + 2).toNatClampNeg) 1) ((y_begin hC.1 (sq (nI (6 * k) + 1).toNatClampNeg) (sq (nI (6 * k) + 2).toNatClampNeg) 1).i hC aAc_begin) (fun τ hτ => xi_begin hτ (sq (nI (6 * k) + 1).toNatClampNeg) (sq (nI (6 * k) + 2).toNatClampNeg) 1) (fun τ z hz => f_L_X12_begin hz) (by decide) (hI.a aAc_begin)
      exact lwS.b e1 (lwS.g g1 (lwS.g g2 (lwS.g g3 (lwS.n q (lwS.b e2 (lwS.p rfl (lwS.k e3)))))))
  refine lwS.n w28 ?_
  by_cases w29 : y = 29
  · refine lwS.p w29 ?_
    obtain ⟨υ, e2, e3⟩ := h.rd (q := L_X12_size) (v := L_X11_size σ) (by rw [y_size hC.1]; exact rd_size h.2.1.1)
    exact lwS.b e2 (lwS.p rfl (lwS.k e3))
  refine lwS.n w29 ?_
  by_cases w30 : y = 30
  · refine lwS.p w30 ?_
    obtain ⟨υ, e2, e3⟩ := h.rd (q := L_X12_trouble) (v := L_X11_trouble σ) (by rw [y_trouble hC.1]; exact rd_trouble h.2.1.1)
    exact lwS.b e2 (lwS.p rfl (lwS.k e3))
  refine lwS.n w30 ?_
  exact lwS.k h
