/-! going deep: the component lets go -/
theorem y_fr {τ : sS} {v hn : Nat} (hv : v < 2 ^ 31) : ∀ (sg hr : List Nat), rwS τ 25 (sg ++ v :: hr) → v ∉ sg → (∀ x, x ∈ sg → x < 2 ^ 31) → sg.length + hr.length < hn → hn ≤ 2 ^ 31 → l_fr τ (nI v) (sg.length + hr.length) = hr.length
  | [], hr, h, _, _, hl, h2 => by
    rw [List.length_nil, Nat.zero_add]
    rw [List.length_nil, Nat.zero_add] at hl
    cases hr with
    | nil => rfl
    | cons y l =>
      rw [List.length_cons, l_fr, rg_nI (by rw [List.length_cons] at hl; omega)]
      exact if_pos (show vI τ 25 (l.length + 1) = nI v from h.1)
  | x :: sg, hr, h, hn', hb, hl, h2 => by
    rw [List.length_cons] at hl ⊢
    rw [show sg.length + 1 + hr.length = (sg.length + hr.length) + 1 by omega, l_fr, rg_nI (by omega)]
    have e : vI τ 25 (sg.length + hr.length + 1) = nI x := by
      have q : vI τ 25 (sg ++ v :: hr).length = nI x := h.1
      rw [List.length_append, List.length_cons] at q
      exact q
    rw [e, if_neg (fun q => hn' (by rw [nI_ij (hb x List.mem_cons_self) hv q]; exact List.mem_cons_self))]
    exact y_fr hv sg hr h.2 (fun q => hn' (List.mem_cons_of_mem _ q)) (fun y hy => hb y (List.mem_cons_of_mem _ hy)) (by omega) h2
theorem l_g1P {fM : sS → List Int32 → Int32} {σ : sS} {il m g : Int32} : l_g1 fM σ il m g = 0 ↔ g = 0 ∧ l_hs σ m 8 = 0 ∧ (il = 0 ∨ fM σ [m] = 0) := by
  unfold l_g1
  by_cases h1 : g = 0
  · rw [if_pos h1]
    by_cases h2 : l_hs σ m 8 = 0
    · rw [if_pos h2]
      by_cases h3 : il = 0
      · rw [if_pos h3]; exact ⟨fun _ => ⟨h1, h2, Or.inl h3⟩, fun _ => rfl⟩
      · rw [if_neg h3]
        by_cases h4 : fM σ [m] = 0
        · rw [if_pos h4]; exact ⟨fun _ => ⟨h1, h2, Or.inr h4⟩, fun _ => rfl⟩
        · rw [if_neg h4]
          exact ⟨fun q => absurd q i1n0, fun q => by rcases q.2.2 with z | z; exact absurd z h3; exact absurd z h4⟩
    · rw [if_neg h2]; exact ⟨fun q => absurd q i1n0, fun q => absurd q.2.1 h2⟩
  · rw [if_neg h1]; exact ⟨fun q => absurd q i1n0, fun q => absurd q.1 h1⟩
theorem l_gdP {fM : sS → List Int32 → Int32} {σ : sS} {il : Int32} : ∀ (n i : Nat) (g : Int32), l_gd fM σ il n i g = 0 ↔ g = 0 ∧ ∀ j, i ≤ j → j < i + n → l_hs σ (rg σ 25 (nI j)) 8 = 0 ∧ (il = 0 ∨ fM σ [rg σ 25 (nI j)] = 0) := by
  intro n
  induction n with
  | zero => intro i g; exact ⟨fun q => ⟨q, fun j h1 h2 => by omega⟩, fun q => q.1⟩
  | succ n ih =>
    intro i g
    rw [l_gd, ih, l_g1P]
    constructor
    · rintro ⟨⟨q1, q2⟩, q3⟩
      refine ⟨q1, fun j h1 h2 => ?_⟩
      by_cases e : j = i
      · rw [e]; exact q2
      · exact q3 j (by omega) (by omega)
    · rintro ⟨q1, q2⟩
      exact ⟨⟨q1, q2 i (Nat.le_refl _) (by omega)⟩, fun j h1 h2 => q2 j (by omega) (by omega)⟩
theorem l_flP {t : Int32} {N : Nat} (hN : N ≤ 3000) : ∀ (n i : Nat) (σ : sS), N ≤ vC σ 22 → i + n ≤ 3000 → (∀ j, i ≤ j → j < i + n → ∃ x, x < N ∧ vI σ 25 j = nI x) → (∀ w, w < N → (∃ j, i ≤ j ∧ j < i + n ∧ vI σ 25 j = nI w) → vI (l_fl t n i σ) 22 w = t) ∧ (∀ w, w < N → (∀ j, i ≤ j → j < i + n → vI σ 25 j ≠ nI w) → vI (l_fl t n i σ) 22 w = vI σ 22 w) ∧ lf1 [22] σ (l_fl t n i σ) := by
  intro n
  induction n with
  | zero =>
    intro i σ _ _ _
    exact ⟨fun w _ ⟨j, h1, h2, _⟩ => by omega, fun _ _ _ => rfl, lf1.rf⟩
  | succ n ih =>
    intro i σ hC hi hm
    obtain ⟨x, x1, x2⟩ := hm i (Nat.le_refl _) (by omega)
    have e : rp σ 22 (rg σ 25 (nI i)) t = uI σ 22 x t := by rw [rg_nI (by omega), x2, rp_n (by omega) (by omega)]
    have e25 : ∀ j, vI (uI σ 22 x t) 25 j = vI σ 25 j := fun j => rfl
    rw [l_fl, e]
    obtain ⟨r1, r2, r3⟩ := ih (i + 1) (uI σ 22 x t) hC (by omega) (fun j h1 h2 => by rw [e25]; exact hm j (by omega) (by omega))
    refine ⟨fun w wN hw => ?_, fun w hw hn => ?_, (lf1.u (by decide)).tr r3⟩
    · obtain ⟨j, j1, j2, j3⟩ := hw
      by_cases q : ∃ j, i + 1 ≤ j ∧ j < i + 1 + n ∧ vI σ 25 j = nI w
      · exact r1 w wN q
      · have ej : j = i := by
          refine Classical.byContradiction (fun c => q ⟨j, by omega, by omega, j3⟩)
        rw [ej, x2] at j3
        have ew : x = w := nI_ij (by omega) (by omega) j3
        rw [r2 w wN (fun j h1 h2 z => q ⟨j, h1, h2, z⟩), ew, vI_e]
    · rw [r2 w hw (fun j h1 h2 z => hn j (by omega) (by omega) z), vI_q (fun z => hn i (Nat.le_refl _) (by omega) (by rw [x2, z.2]))]
