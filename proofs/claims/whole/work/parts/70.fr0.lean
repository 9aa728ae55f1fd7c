/-! frames: what a method of the reference leaves alone -/
/-- all but the rows M, the fields K of the reference -/
def fm (M K : List Nat) (σ τ : sS) : Prop := (∀ a j, a ∉ M → (a = 90 → j ∉ K) → vI τ a j = vI σ a j) ∧ (∀ a j, a ∉ M → (a = 90 → j ∉ K) → vL τ a j = vL σ a j) ∧ τ.2.2 = σ.2.2
theorem fm.rf {M K : List Nat} {σ : sS} : fm M K σ σ := ⟨fun _ _ _ _ => rfl, fun _ _ _ _ => rfl, rfl⟩
theorem fm.tr {M K : List Nat} {σ τ υ : sS} (h : fm M K σ τ) (k : fm M K τ υ) : fm M K σ υ := ⟨fun a j h1 h2 => (k.1 a j h1 h2).trans (h.1 a j h1 h2), fun a j h1 h2 => (k.2.1 a j h1 h2).trans (h.2.1 a j h1 h2), k.2.2.trans h.2.2⟩
theorem fm.mo {M K M' K' : List Nat} {σ τ : sS} (h : fm M K σ τ) (h1 : ∀ x ∈ M, x ∈ M') (h2 : ∀ x ∈ K, x ∈ K') : fm M' K' σ τ := ⟨fun a j p q => h.1 a j (fun r => p (h1 a r)) (fun e r => q e (h2 j r)), fun a j p q => h.2.1 a j (fun r => p (h1 a r)) (fun e r => q e (h2 j r)), h.2.2⟩
theorem fm.uI {M K : List Nat} {σ : sS} {a k : Nat} {x : Int32} (h : a ∈ M ∨ (a = 90 ∧ k ∈ K)) : fm M K σ (uI σ a k x) := by
  refine ⟨fun b j p q => ?_, fun _ _ _ _ => rfl, rfl⟩
  refine u2_n ?_
  by_cases hb : b = a
  · refine Or.inr (fun hj => ?_)
    subst hb; subst hj
    rcases h with h | ⟨h1, h2⟩
    · exact p h
    · exact q h1 h2
  · exact Or.inl hb
theorem fm.uL {M K : List Nat} {σ : sS} {a k : Nat} {x : Int64} (h : a ∈ M ∨ (a = 90 ∧ k ∈ K)) : fm M K σ (uL σ a k x) := by
  refine ⟨fun _ _ _ _ => rfl, fun b j p q => ?_, rfl⟩
  refine u2_n ?_
  by_cases hb : b = a
  · refine Or.inr (fun hj => ?_)
    subst hb; subst hj
    rcases h with h | ⟨h1, h2⟩
    · exact p h
    · exact q h1 h2
  · exact Or.inl hb
theorem bnd_fm {M K : List Nat} {σ x w : sS} {β : Type} {f : sS → β} {z : β} (h : bnd x f = z) (h1 : fm M K σ x) (h2 : ∀ y, f y = z → fm M K y w) : fm M K σ w := h1.tr (h2 x h)
theorem bnd_fv {α β : Type} {x : α} {f : α → β} {z : β} {G : Prop} (h : bnd x f = z) (h2 : ∀ y, f y = z → G) : G := h2 x h
theorem ite_fm {α : Type} {c : Prop} [Decidable c] {a b z : α} {G : Prop} (h : (if c then a else b) = z) (h1 : a = z → G) (h2 : b = z → G) : G := by
  by_cases hc : c
  · exact h1 (ifp h hc)
  · exact h2 (ifn h hc)
theorem bd_fm {M K : List Nat} {σ w : sS} {β : Type} {o : Option sS} {f : sS → Option β} {z : β} (h : bd o f = some z) (h1 : ∀ τ, o = some τ → fm M K σ τ) (h2 : ∀ y, f y = some z → fm M K y w) : fm M K σ w := by
  obtain ⟨y, e1, e2⟩ := bd_at h
  exact (h1 y e1).tr (h2 y e2)
theorem bd_fv {α β : Type} {o : Option α} {f : α → Option β} {z : β} {G : Prop} (h : bd o f = some z) (h2 : ∀ y, f y = some z → G) : G := by
  obtain ⟨y, e1, e2⟩ := bd_at h
  exact h2 y e2
theorem bd2_fm {M K : List Nat} {σ w : sS} {α β : Type} {o : Option (α × sS)} {f : α → sS → Option β} {z : β} (h : bd2 o f = some z) (h1 : ∀ r τ, o = some (r, τ) → fm M K σ τ) (h2 : ∀ r y, f r y = some z → fm M K y w) : fm M K σ w := by
  obtain ⟨r, y, e1, e2⟩ := bd2_at h
  exact (h1 r y e1).tr (h2 r y e2)
theorem fm_V {M K : List Nat} {σ z : sS} (h : some σ = some z) : fm M K σ z := by cases h; exact fm.rf
theorem fm_I {M K : List Nat} {σ : sS} {v : Int32} {z : Int32 × sS} (h : some (v, σ) = some z) : fm M K σ z.2 := by cases h; exact fm.rf

set_option maxRecDepth 8000 in
theorem f_L_X12_refused {x1 : Int32} {σ : sS} {z : (Int32 × sS)} (h : L_X12_refused x1 σ = some z) : fm [] [1, 2] σ z.2 := by
  unfold L_X12_refused at h
  refine bnd_fm h (fm.uI (Or.inr ⟨rfl, by decide⟩)) (fun σ1 h => ?_)
  refine bnd_fm h (fm.uI (Or.inr ⟨rfl, by decide⟩)) (fun σ2 h => ?_)
  exact fm_I h
set_option maxRecDepth 8000 in
theorem f_L_X12_good {x1 : Int32} {σ : sS} {z : (Int32 × sS)} (h : L_X12_good x1 σ = some z) : fm [] [1, 2] σ z.2 := by
  unfold L_X12_good at h
  refine bnd_fm h (fm.uI (Or.inr ⟨rfl, by decide⟩)) (fun σ1 h => ?_)
  refine bnd_fm h (fm.uI (Or.inr ⟨rfl, by decide⟩)) (fun σ2 h => ?_)
  exact fm_I h
set_option maxRecDepth 8000 in
theorem f_L_X12_feed_23 {F : Nat} {x1 : Int32} {x2 : Int32} {x3 : Int32} {x4 : Int32} {x5 : Int32} {z : (Int32 × sS)} {kx : sS → Option (Int32 × sS)} (hx : ∀  (σ : sS), kx σ = some z → fm [103] [0, 4] σ z.2) : ∀ (n : Nat) (x6 : Int32) (σ : sS), L_X12_feed_23 F x1 x2 x3 x4 x5 kx n x6 σ = some z → fm [103] [0, 4] σ z.2 := by
  intro n
  induction n with
  | zero =>
    intro x6 σ h
    rw [L_X12_feed_23] at h
    cases h
  | succ n ih =>
    intro x6 σ h
    rw [L_X12_feed_23] at h
    refine ite_fm h (fun h => ?_) (fun h => ?_)
    · exact hx _ h
    · refine ite_fm h (fun h => ?_) (fun h => ?_)
      · refine ite_fm h (fun h => ?_) (fun h => ?_)
        · refine ite_fm h (fun h => ?_) (fun h => ?_)
          · refine ite_fm h (fun h => ?_) (fun h => ?_)
            · replace h := (grd_at h).2
              refine bnd_fm h (fm.uI (Or.inl (by decide))) (fun σ9 h => ?_)
              exact ih _ _ h
            · replace h := (grd_at h).2
              refine bnd_fm h (fm.uI (Or.inl (by decide))) (fun σ11 h => ?_)
              exact ih _ _ h
          · replace h := (grd_at h).2
            refine bnd_fm h (fm.uI (Or.inl (by decide))) (fun σ13 h => ?_)
            exact ih _ _ h
        · replace h := (grd_at h).2
          refine bnd_fm h (fm.uI (Or.inl (by decide))) (fun σ15 h => ?_)
          exact ih _ _ h
      · replace h := (grd_at h).2
        refine bnd_fm h (fm.uI (Or.inl (by decide))) (fun σ17 h => ?_)
        exact ih _ _ h
set_option maxRecDepth 8000 in
theorem f_L_X12_feed {F : Nat} {x1 : Int32} {x2 : Int32} {x3 : Int32} {x4 : Int32} {x5 : Int32} {σ : sS} {z : (Int32 × sS)} (h : L_X12_feed F x1 x2 x3 x4 x5 σ = some z) : fm [103] [0, 4] σ z.2 := by
  unfold L_X12_feed at h
  refine bnd_fm h (fm.uI (Or.inr ⟨rfl, by decide⟩)) (fun σ1 h => ?_)
  refine ite_fm h (fun h => ?_) (fun h => ?_)
  · refine f_L_X12_feed_23 (fun σ3 h => ?_) _ _ _ h
    refine bnd_fm h (fm.uI (Or.inr ⟨rfl, by decide⟩)) (fun σ4 h => ?_)
    exact fm_I h
  · exact fm_I h
set_option maxRecDepth 8000 in
theorem f_L_X12_flawAt {x1 : Int32} {x2 : Int32} {σ : sS} {z : sS} (h : L_X12_flawAt x1 x2 σ = some z) : fm [] [7, 8] σ z := by
  unfold L_X12_flawAt at h
  refine ite_fm h (fun h => ?_) (fun h => ?_)
  · refine bnd_fm h (fm.uI (Or.inr ⟨rfl, by decide⟩)) (fun σ2 h => ?_)
    refine bnd_fm h (fm.uI (Or.inr ⟨rfl, by decide⟩)) (fun σ3 h => ?_)
    exact fm_V h
  · exact fm_V h
set_option maxRecDepth 8000 in
theorem f_L_X12_flaw {x1 : Int32} {σ : sS} {z : sS} (h : L_X12_flaw x1 σ = some z) : fm [] [7, 8] σ z := by
  unfold L_X12_flaw at h
  refine bd_fm h (fun τ9 g9 => (f_L_X12_flawAt g9).mo (by decide) (by decide)) (fun σ2 h => ?_)
  exact fm_V h
set_option maxRecDepth 8000 in
theorem f_L_X12_goOn_8 {F : Nat} {z : sS} {kx : sS → Option sS} (hx : ∀  (σ : sS), kx σ = some z → fm [] [6, 9, 10, 11, 12, 13] σ z) : ∀ (n : Nat)  (σ : sS), L_X12_goOn_8 F kx n σ = some z → fm [] [6, 9, 10, 11, 12, 13] σ z := by
  intro n
  induction n with
  | zero =>
    intro σ h
    rw [L_X12_goOn_8] at h
    cases h
  | succ n ih =>
    intro σ h
    rw [L_X12_goOn_8] at h
    refine ite_fm h (fun h => ?_) (fun h => ?_)
    · exact hx _ h
    · replace h := (grd_at h).2
      refine ite_fm h (fun h => ?_) (fun h => ?_)
      · refine bnd_fm h (fm.uI (Or.inr ⟨rfl, by decide⟩)) (fun σ5 h => ?_)
        exact ih _ h
      · exact hx _ h
set_option maxRecDepth 8000 in
theorem f_L_X12_goOn_209 {F : Nat} {z : sS} {kx : sS → Option sS} (hx : ∀  (σ : sS), kx σ = some z → fm [] [6, 9, 10, 11, 12, 13] σ z) : ∀ (n : Nat)  (σ : sS), L_X12_goOn_209 F kx n σ = some z → fm [] [6, 9, 10, 11, 12, 13] σ z := by
  intro n
  induction n with
  | zero =>
    intro σ h
    rw [L_X12_goOn_209] at h
    cases h
  | succ n ih =>
    intro σ h
    rw [L_X12_goOn_209] at h
    refine bd_fv h (fun rq27 h => ?_)
    refine ite_fm h (fun h => ?_) (fun h => ?_)
    · exact hx _ h
    · refine bnd_fm h (fm.uI (Or.inr ⟨rfl, by decide⟩)) (fun σ29 h => ?_)
      exact ih _ h
set_option maxRecDepth 8000 in
theorem f_L_X12_goOn_143 {F : Nat} {z : sS} {kh : sS → Option sS} (hh : ∀  (σ : sS), kh σ = some z → fm [] [6, 9, 10, 11, 12, 13] σ z) {kx : sS → Option sS} (hx : ∀  (σ : sS), kx σ = some z → fm [] [6, 9, 10, 11, 12, 13] σ z)  (σ : sS) (h : L_X12_goOn_143 F kh kx σ = some z) : fm [] [6, 9, 10, 11, 12, 13] σ z := by
  unfold L_X12_goOn_143 at h
  refine bnd_fm h (fm.uI (Or.inr ⟨rfl, by decide⟩)) (fun σ35 h => ?_)
  exact hh _ h
set_option maxRecDepth 8000 in
theorem f_L_X12_goOn_89 {F : Nat} {z : sS} {kx : sS → Option sS} (hx : ∀  (σ : sS), kx σ = some z → fm [] [6, 9, 10, 11, 12, 13] σ z) : ∀ (n : Nat)  (σ : sS), L_X12_goOn_89 F kx n σ = some z → fm [] [6, 9, 10, 11, 12, 13] σ z := by
  intro n
  induction n with
  | zero =>
    intro σ h
    rw [L_X12_goOn_89] at h
    cases h
  | succ n ih =>
    intro σ h
    rw [L_X12_goOn_89] at h
    refine bd_fv h (fun rq32 h => ?_)
    refine ite_fm h (fun h => ?_) (fun h => ?_)
    · exact hx _ h
    · refine ite_fm h (fun h => ?_) (fun h => ?_)
      · exact f_L_X12_goOn_143 ih hx _ h
      · replace h := (grd_at h).2
        refine bnd_fm h (fm.uL (Or.inr ⟨rfl, by decide⟩)) (fun σ36 h => ?_)
        exact f_L_X12_goOn_143 ih hx _ h
set_option maxRecDepth 8000 in
theorem f_L_X12_goOn_46 {F : Nat} {z : sS}  (σ : sS) (h : L_X12_goOn_46 F σ = some z) : fm [] [6, 9, 10, 11, 12, 13] σ z := by
  unfold L_X12_goOn_46 at h
  refine bnd_fm h (fm.uI (Or.inr ⟨rfl, by decide⟩)) (fun σ3 h => ?_)
  refine ite_fm h (fun h => ?_) (fun h => ?_)
  · refine bnd_fm h (fm.uI (Or.inr ⟨rfl, by decide⟩)) (fun σ35 h => ?_)
    exact fm_V h
  · refine bd_fv h (fun rq6 h => ?_)
    refine ite_fm h (fun h => ?_) (fun h => ?_)
    · refine bd_fv h (fun rq9 h => ?_)
      refine ite_fm h (fun h => ?_) (fun h => ?_)
      · replace h := (grd_at h).2
        refine bnd_fm h (fm.uI (Or.inr ⟨rfl, by decide⟩)) (fun σ12 h => ?_)
        refine ite_fm h (fun h => ?_) (fun h => ?_)
        · refine bnd_fm h (fm.uI (Or.inr ⟨rfl, by decide⟩)) (fun σ14 h => ?_)
          refine bnd_fm h (fm.uI (Or.inr ⟨rfl, by decide⟩)) (fun σ15 h => ?_)
          exact fm_V h
        · refine ite_fm h (fun h => ?_) (fun h => ?_)
          · refine bnd_fm h (fm.uI (Or.inr ⟨rfl, by decide⟩)) (fun σ17 h => ?_)
            refine bnd_fm h (fm.uI (Or.inr ⟨rfl, by decide⟩)) (fun σ18 h => ?_)
            exact fm_V h
          · refine ite_fm h (fun h => ?_) (fun h => ?_)
            · refine bnd_fm h (fm.uI (Or.inr ⟨rfl, by decide⟩)) (fun σ22 h => ?_)
              refine bnd_fm h (fm.uI (Or.inr ⟨rfl, by decide⟩)) (fun σ23 h => ?_)
              exact fm_V h
            · refine bnd_fm h (fm.uI (Or.inr ⟨rfl, by decide⟩)) (fun σ20 h => ?_)
              refine bnd_fm h (fm.uI (Or.inr ⟨rfl, by decide⟩)) (fun σ21 h => ?_)
              exact fm_V h
      · replace h := (grd_at h).2
        refine bnd_fm h (fm.uI (Or.inr ⟨rfl, by decide⟩)) (fun σ25 h => ?_)
        refine f_L_X12_goOn_209 (fun σ26 h => ?_) _ _ h
        refine ite_fm h (fun h => ?_) (fun h => ?_)
        · refine bnd_fm h (fm.uI (Or.inr ⟨rfl, by decide⟩)) (fun σ28 h => ?_)
          exact fm_V h
        · refine bnd_fm h (fm.uI (Or.inr ⟨rfl, by decide⟩)) (fun σ29 h => ?_)
          exact fm_V h
    · refine bnd_fm h (fm.uL (Or.inr ⟨rfl, by decide⟩)) (fun σ30 h => ?_)
      refine f_L_X12_goOn_89 (fun σ31 h => ?_) _ _ h
      refine ite_fm h (fun h => ?_) (fun h => ?_)
      · refine bnd_fm h (fm.uI (Or.inr ⟨rfl, by decide⟩)) (fun σ33 h => ?_)
        exact fm_V h
      · refine bnd_fm h (fm.uI (Or.inr ⟨rfl, by decide⟩)) (fun σ34 h => ?_)
        exact fm_V h
set_option maxRecDepth 8000 in
theorem f_L_X12_goOn {F : Nat}  {σ : sS} {z : sS} (h : L_X12_goOn F σ = some z) : fm [] [6, 9, 10, 11, 12, 13] σ z := by
  unfold L_X12_goOn at h
  refine ite_fm h (fun h => ?_) (fun h => ?_)
  · refine f_L_X12_goOn_8 (fun σ2 h => ?_) _ _ h
    exact f_L_X12_goOn_46 _ h
  · exact fm_V h
set_option maxRecDepth 8000 in
theorem f_L_X12_needs {F : Nat} {x1 : Nat} {σ : sS} {z : sS} (h : L_X12_needs F x1 σ = some z) : fm [] [6, 7, 8, 9, 10, 11, 12, 13] σ z := by
  unfold L_X12_needs at h
  refine bd_fv h (fun rq2 h => ?_)
  refine ite_fm h (fun h => ?_) (fun h => ?_)
  · refine bd_fm h (fun τ9 g9 => (f_L_X12_flaw g9).mo (by decide) (by decide)) (fun σ7 h => ?_)
    refine bd_fm h (fun τ9 g9 => (f_L_X12_goOn g9).mo (by decide) (by decide)) (fun σ9 h => ?_)
    exact fm_V h
  · refine bd_fm h (fun τ9 g9 => (f_L_X12_goOn g9).mo (by decide) (by decide)) (fun σ5 h => ?_)
    exact fm_V h
set_option maxRecDepth 8000 in
theorem f_L_X12_needsEnd  {σ : sS} {z : sS} (h : L_X12_needsEnd σ = some z) : fm [] [7, 8] σ z := by
  unfold L_X12_needsEnd at h
  refine ite_fm h (fun h => ?_) (fun h => ?_)
  · refine ite_fm h (fun h => ?_) (fun h => ?_)
    · exact fm_V h
    · refine bd_fm h (fun τ9 g9 => (f_L_X12_flaw g9).mo (by decide) (by decide)) (fun σ4 h => ?_)
      exact fm_V h
  · exact fm_V h
set_option maxRecDepth 8000 in
theorem f_L_X12_readWhole_33 {F : Nat} {z : (Int32 × sS)}  (σ : sS) (h : L_X12_readWhole_33 F σ = some z) : fm [] [6, 7, 8, 9, 10, 11, 12, 13] σ z.2 := by
  unfold L_X12_readWhole_33 at h
  refine bnd_fv h (fun yq3 h => ?_)
  refine bd_fm h (fun τ9 g9 => (f_L_X12_goOn g9).mo (by decide) (by decide)) (fun σ5 h => ?_)
  exact fm_I h
set_option maxRecDepth 8000 in
theorem f_L_X12_readWhole {F : Nat} {x1 : Int32} {x2 : Int32} {σ : sS} {z : (Int32 × sS)} (h : L_X12_readWhole F x1 x2 σ = some z) : fm [] [6, 7, 8, 9, 10, 11, 12, 13] σ z.2 := by
  unfold L_X12_readWhole at h
  refine ite_fm h (fun h => ?_) (fun h => ?_)
  · refine ite_fm h (fun h => ?_) (fun h => ?_)
    · refine bd_fm h (fun τ9 g9 => (f_L_X12_flaw g9).mo (by decide) (by decide)) (fun σ4 h => ?_)
      exact f_L_X12_readWhole_33 _ h
    · exact f_L_X12_readWhole_33 _ h
  · refine bd_fm h (fun τ9 g9 => (f_L_X12_flaw g9).mo (by decide) (by decide)) (fun σ6 h => ?_)
    exact f_L_X12_readWhole_33 _ h
set_option maxRecDepth 8000 in
theorem f_L_X12_begins {F : Nat} {x1 : Int32} {σ : sS} {z : sS} (h : L_X12_begins F x1 σ = some z) : fm [] [4, 5, 6, 7, 9, 10, 11, 12, 13] σ z := by
  unfold L_X12_begins at h
  refine bnd_fm h (fm.uI (Or.inr ⟨rfl, by decide⟩)) (fun σ1 h => ?_)
  refine bnd_fm h (fm.uI (Or.inr ⟨rfl, by decide⟩)) (fun σ2 h => ?_)
  refine bnd_fm h (fm.uI (Or.inr ⟨rfl, by decide⟩)) (fun σ3 h => ?_)
  refine bnd_fm h (fm.uI (Or.inr ⟨rfl, by decide⟩)) (fun σ4 h => ?_)
  refine bd_fm h (fun τ9 g9 => (f_L_X12_goOn g9).mo (by decide) (by decide)) (fun σ6 h => ?_)
  exact fm_V h
set_option maxRecDepth 8000 in
theorem f_L_X12_faulty  {σ : sS} {z : (Int32 × sS)} (h : L_X12_faulty σ = some z) : fm [] [1, 2] σ z.2 := by
  unfold L_X12_faulty at h
  refine bnd_fm h (fm.uI (Or.inr ⟨rfl, by decide⟩)) (fun σ1 h => ?_)
  refine bnd_fm h (fm.uI (Or.inr ⟨rfl, by decide⟩)) (fun σ2 h => ?_)
  exact fm_I h
set_option maxRecDepth 8000 in
theorem f_L_X12_fault  {σ : sS} {z : (Int32 × sS)} (h : L_X12_fault σ = some z) : fm [] [0] σ z.2 := by
  unfold L_X12_fault at h
  refine bnd_fm h (fm.uI (Or.inr ⟨rfl, by decide⟩)) (fun σ1 h => ?_)
  exact fm_I h
set_option maxRecDepth 8000 in
theorem f_L_X12_where  {σ : sS} {z : (Int32 × sS)} (h : L_X12_where σ = some z) : fm [] [0] σ z.2 := by
  unfold L_X12_where at h
  refine bnd_fm h (fm.uI (Or.inr ⟨rfl, by decide⟩)) (fun σ1 h => ?_)
  exact fm_I h
set_option maxRecDepth 8000 in
theorem f_L_X12_readAuto_58 {F : Nat} {z : sS} {kx : sS → Option sS} (hx : ∀  (σ : sS), kx σ = some z → fm [114, 115, 116, 118] [6, 7, 8, 9, 10, 11, 12, 13, 22] σ z) : ∀ (n : Nat) (x1 : Int32) (σ : sS), L_X12_readAuto_58 F kx n x1 σ = some z → fm [114, 115, 116, 118] [6, 7, 8, 9, 10, 11, 12, 13, 22] σ z := by
  intro n
  induction n with
  | zero =>
    intro x1 σ h
    rw [L_X12_readAuto_58] at h
    cases h
  | succ n ih =>
    intro x1 σ h
    rw [L_X12_readAuto_58] at h
    refine ite_fm h (fun h => ?_) (fun h => ?_)
    · exact hx _ h
    · replace h := (grd_at h).2
      refine ite_fm h (fun h => ?_) (fun h => ?_)
      · refine bd_fm h (fun τ9 g9 => (f_L_X12_flaw g9).mo (by decide) (by decide)) (fun σ10 h => ?_)
        exact ih _ _ h
      · exact ih _ _ h
set_option maxRecDepth 8000 in
theorem f_L_X12_readAuto_25 {F : Nat} {z : sS}  (σ : sS) (h : L_X12_readAuto_25 F σ = some z) : fm [114, 115, 116, 118] [6, 7, 8, 9, 10, 11, 12, 13, 22] σ z := by
  unfold L_X12_readAuto_25 at h
  refine bd_fm h (fun τ9 g9 => (f_L_X12_goOn g9).mo (by decide) (by decide)) (fun σ4 h => ?_)
  refine ite_fm h (fun h => ?_) (fun h => ?_)
  · refine ite_fm h (fun h => ?_) (fun h => ?_)
    · refine bd_fv h (fun rq48 h => ?_)
      refine ite_fm h (fun h => ?_) (fun h => ?_)
      · refine f_L_X12_readAuto_58 (fun σ50 h => ?_) _ _ _ h
        refine bnd_fv h (fun yq51 h => ?_)
        refine bd_fm h (fun τ9 g9 => (f_L_X12_goOn g9).mo (by decide) (by decide)) (fun σ53 h => ?_)
        refine bd_fm h (fun τ9 g9 => (f_L_X12_needs g9).mo (by decide) (by decide)) (fun σ55 h => ?_)
        refine bd2_fm h (fun r9 τ9 g9 => (f_L_X12_readWhole g9).mo (by decide) (by decide)) (fun rq57 σ58 h => ?_)
        refine ite_fm h (fun h => ?_) (fun h => ?_)
        · replace h := (grd_at h).2
          refine bnd_fm h (fm.uL (Or.inl (by decide))) (fun σ61 h => ?_)
          replace h := (grd_at h).2
          refine bnd_fm h (fm.uI (Or.inl (by decide))) (fun σ63 h => ?_)
          replace h := (grd_at h).2
          refine bnd_fm h (fm.uI (Or.inl (by decide))) (fun σ65 h => ?_)
          replace h := (grd_at h).2
          refine bnd_fm h (fm.uI (Or.inl (by decide))) (fun σ67 h => ?_)
          refine bnd_fm h (fm.uI (Or.inr ⟨rfl, by decide⟩)) (fun σ68 h => ?_)
          exact fm_V h
        · exact fm_V h
      · refine bd_fm h (fun τ9 g9 => (f_L_X12_flaw g9).mo (by decide) (by decide)) (fun σ70 h => ?_)
        refine f_L_X12_readAuto_58 (fun σ71 h => ?_) _ _ _ h
        refine bnd_fv h (fun yq72 h => ?_)
        refine bd_fm h (fun τ9 g9 => (f_L_X12_goOn g9).mo (by decide) (by decide)) (fun σ74 h => ?_)
        refine bd_fm h (fun τ9 g9 => (f_L_X12_needs g9).mo (by decide) (by decide)) (fun σ76 h => ?_)
        refine bd2_fm h (fun r9 τ9 g9 => (f_L_X12_readWhole g9).mo (by decide) (by decide)) (fun rq78 σ79 h => ?_)
        refine ite_fm h (fun h => ?_) (fun h => ?_)
        · replace h := (grd_at h).2
          refine bnd_fm h (fm.uL (Or.inl (by decide))) (fun σ82 h => ?_)
          replace h := (grd_at h).2
          refine bnd_fm h (fm.uI (Or.inl (by decide))) (fun σ84 h => ?_)
          replace h := (grd_at h).2
          refine bnd_fm h (fm.uI (Or.inl (by decide))) (fun σ86 h => ?_)
          replace h := (grd_at h).2
          refine bnd_fm h (fm.uI (Or.inl (by decide))) (fun σ88 h => ?_)
          refine bnd_fm h (fm.uI (Or.inr ⟨rfl, by decide⟩)) (fun σ89 h => ?_)
          exact fm_V h
        · exact fm_V h
    · refine bd_fm h (fun τ9 g9 => (f_L_X12_flaw g9).mo (by decide) (by decide)) (fun σ27 h => ?_)
      refine f_L_X12_readAuto_58 (fun σ28 h => ?_) _ _ _ h
      refine bnd_fv h (fun yq29 h => ?_)
      refine bd_fm h (fun τ9 g9 => (f_L_X12_goOn g9).mo (by decide) (by decide)) (fun σ31 h => ?_)
      refine bd_fm h (fun τ9 g9 => (f_L_X12_needs g9).mo (by decide) (by decide)) (fun σ33 h => ?_)
      refine bd2_fm h (fun r9 τ9 g9 => (f_L_X12_readWhole g9).mo (by decide) (by decide)) (fun rq35 σ36 h => ?_)
      refine ite_fm h (fun h => ?_) (fun h => ?_)
      · replace h := (grd_at h).2
        refine bnd_fm h (fm.uL (Or.inl (by decide))) (fun σ39 h => ?_)
        replace h := (grd_at h).2
        refine bnd_fm h (fm.uI (Or.inl (by decide))) (fun σ41 h => ?_)
        replace h := (grd_at h).2
        refine bnd_fm h (fm.uI (Or.inl (by decide))) (fun σ43 h => ?_)
        replace h := (grd_at h).2
        refine bnd_fm h (fm.uI (Or.inl (by decide))) (fun σ45 h => ?_)
        refine bnd_fm h (fm.uI (Or.inr ⟨rfl, by decide⟩)) (fun σ46 h => ?_)
        exact fm_V h
      · exact fm_V h
  · refine f_L_X12_readAuto_58 (fun σ6 h => ?_) _ _ _ h
    refine bnd_fv h (fun yq7 h => ?_)
    refine bd_fm h (fun τ9 g9 => (f_L_X12_goOn g9).mo (by decide) (by decide)) (fun σ9 h => ?_)
    refine bd_fm h (fun τ9 g9 => (f_L_X12_needs g9).mo (by decide) (by decide)) (fun σ11 h => ?_)
    refine bd2_fm h (fun r9 τ9 g9 => (f_L_X12_readWhole g9).mo (by decide) (by decide)) (fun rq13 σ14 h => ?_)
    refine ite_fm h (fun h => ?_) (fun h => ?_)
    · replace h := (grd_at h).2
      refine bnd_fm h (fm.uL (Or.inl (by decide))) (fun σ17 h => ?_)
      replace h := (grd_at h).2
      refine bnd_fm h (fm.uI (Or.inl (by decide))) (fun σ19 h => ?_)
      replace h := (grd_at h).2
      refine bnd_fm h (fm.uI (Or.inl (by decide))) (fun σ21 h => ?_)
      replace h := (grd_at h).2
      refine bnd_fm h (fm.uI (Or.inl (by decide))) (fun σ23 h => ?_)
      refine bnd_fm h (fm.uI (Or.inr ⟨rfl, by decide⟩)) (fun σ24 h => ?_)
      exact fm_V h
    · exact fm_V h
set_option maxRecDepth 8000 in
theorem f_L_X12_readAuto_13 {F : Nat} {z : sS}  (σ : sS) (h : L_X12_readAuto_13 F σ = some z) : fm [114, 115, 116, 118] [6, 7, 8, 9, 10, 11, 12, 13, 22] σ z := by
  unfold L_X12_readAuto_13 at h
  refine ite_fm h (fun h => ?_) (fun h => ?_)
  · refine bd_fm h (fun τ9 g9 => (f_L_X12_flaw g9).mo (by decide) (by decide)) (fun σ4 h => ?_)
    exact f_L_X12_readAuto_25 _ h
  · exact f_L_X12_readAuto_25 _ h
set_option maxRecDepth 8000 in
theorem f_L_X12_readAuto {F : Nat}  {σ : sS} {z : sS} (h : L_X12_readAuto F σ = some z) : fm [114, 115, 116, 118] [6, 7, 8, 9, 10, 11, 12, 13, 22] σ z := by
  unfold L_X12_readAuto at h
  refine ite_fm h (fun h => ?_) (fun h => ?_)
  · refine bd_fm h (fun τ9 g9 => (f_L_X12_flaw g9).mo (by decide) (by decide)) (fun σ3 h => ?_)
    exact f_L_X12_readAuto_13 _ h
  · exact f_L_X12_readAuto_13 _ h
set_option maxRecDepth 8000 in
theorem f_L_X12_needsAuto  {σ : sS} {z : sS} (h : L_X12_needsAuto σ = some z) : fm [] [7, 8] σ z := by
  unfold L_X12_needsAuto at h
  refine ite_fm h (fun h => ?_) (fun h => ?_)
  · refine bd_fm h (fun τ9 g9 => (f_L_X12_flaw g9).mo (by decide) (by decide)) (fun σ3 h => ?_)
    exact fm_V h
  · refine ite_fm h (fun h => ?_) (fun h => ?_)
    · refine bd_fm h (fun τ9 g9 => (f_L_X12_flaw g9).mo (by decide) (by decide)) (fun σ6 h => ?_)
      exact fm_V h
    · exact fm_V h
set_option maxRecDepth 8000 in
theorem f_L_X12_readState {F : Nat}  {σ : sS} {z : (Int32 × sS)} (h : L_X12_readState F σ = some z) : fm [] [6, 7, 8, 9, 10, 11, 12, 13] σ z.2 := by
  unfold L_X12_readState at h
  replace h := (grd_at h).2
  refine bd2_fm h (fun r9 τ9 g9 => (f_L_X12_readWhole g9).mo (by decide) (by decide)) (fun rq3 σ4 h => ?_)
  exact fm_I h
set_option maxRecDepth 8000 in
theorem f_L_X12_readEdge_139 {F : Nat} {z : sS} (x5 : Int32) (x6 : Int32) (σ : sS) (h : L_X12_readEdge_139 F x5 x6 σ = some z) : fm [117] [6, 7, 8, 9, 10, 11, 12, 13] σ z := by
  unfold L_X12_readEdge_139 at h
  replace h := (grd_at h).2
  replace h := (grd_at h).2
  refine bnd_fm h (fm.uI (Or.inl (by decide))) (fun σ25 h => ?_)
  exact fm_V h
set_option maxRecDepth 8000 in
theorem f_L_X12_readEdge_62 {F : Nat} {z : sS} (x1 : Int32) (x2 : Int32) (x3 : Int32) (σ : sS) (h : L_X12_readEdge_62 F x1 x2 x3 σ = some z) : fm [117] [6, 7, 8, 9, 10, 11, 12, 13] σ z := by
  unfold L_X12_readEdge_62 at h
  refine ite_fm h (fun h => ?_) (fun h => ?_)
  · refine bd_fm h (fun τ9 g9 => (f_L_X12_goOn g9).mo (by decide) (by decide)) (fun σ15 h => ?_)
    refine bd2_fm h (fun r9 τ9 g9 => (f_L_X12_readState g9).mo (by decide) (by decide)) (fun rq17 σ18 h => ?_)
    refine ite_fm h (fun h => ?_) (fun h => ?_)
    · refine bnd_fv h (fun yq20 h => ?_)
      replace h := (grd_at h).2
      refine ite_fm h (fun h => ?_) (fun h => ?_)
      · refine bd_fm h (fun τ9 g9 => (f_L_X12_flawAt g9).mo (by decide) (by decide)) (fun σ24 h => ?_)
        exact f_L_X12_readEdge_139 _ _ _ h
      · exact f_L_X12_readEdge_139 _ _ _ h
    · exact fm_V h
  · refine bnd_fv h (fun yq25 h => ?_)
    refine bd_fm h (fun τ9 g9 => (f_L_X12_goOn g9).mo (by decide) (by decide)) (fun σ27 h => ?_)
    refine bd2_fm h (fun r9 τ9 g9 => (f_L_X12_readState g9).mo (by decide) (by decide)) (fun rq29 σ30 h => ?_)
    refine ite_fm h (fun h => ?_) (fun h => ?_)
    · refine bnd_fv h (fun yq32 h => ?_)
      replace h := (grd_at h).2
      refine ite_fm h (fun h => ?_) (fun h => ?_)
      · refine bd_fm h (fun τ9 g9 => (f_L_X12_flawAt g9).mo (by decide) (by decide)) (fun σ36 h => ?_)
        exact f_L_X12_readEdge_139 _ _ _ h
      · exact f_L_X12_readEdge_139 _ _ _ h
    · exact fm_V h
set_option maxRecDepth 8000 in
theorem f_L_X12_readEdge_51 {F : Nat} {z : sS} (x1 : Int32) (x2 : Int32) (σ : sS) (h : L_X12_readEdge_51 F x1 x2 σ = some z) : fm [117] [6, 7, 8, 9, 10, 11, 12, 13] σ z := by
  unfold L_X12_readEdge_51 at h
  refine bd_fm h (fun τ9 g9 => (f_L_X12_flaw g9).mo (by decide) (by decide)) (fun σ12 h => ?_)
  exact f_L_X12_readEdge_62 _ _ _ _ h
set_option maxRecDepth 8000 in
theorem f_L_X12_readEdge {F : Nat}  {σ : sS} {z : sS} (h : L_X12_readEdge F σ = some z) : fm [117] [6, 7, 8, 9, 10, 11, 12, 13] σ z := by
  unfold L_X12_readEdge at h
  refine bnd_fv h (fun yq1 h => ?_)
  refine bd_fm h (fun τ9 g9 => (f_L_X12_needsAuto g9).mo (by decide) (by decide)) (fun σ3 h => ?_)
  refine ite_fm h (fun h => ?_) (fun h => ?_)
  · refine bd_fm h (fun τ9 g9 => (f_L_X12_goOn g9).mo (by decide) (by decide)) (fun σ6 h => ?_)
    refine bd2_fm h (fun r9 τ9 g9 => (f_L_X12_readState g9).mo (by decide) (by decide)) (fun rq8 σ9 h => ?_)
    refine ite_fm h (fun h => ?_) (fun h => ?_)
    · refine ite_fm h (fun h => ?_) (fun h => ?_)
      · exact f_L_X12_readEdge_51 _ _ _ h
      · exact f_L_X12_readEdge_62 _ _ _ _ h
    · exact f_L_X12_readEdge_51 _ _ _ h
  · exact fm_V h
set_option maxRecDepth 8000 in
theorem f_L_X12_readLetters_12 {F : Nat} {z : sS}  (σ : sS) (h : L_X12_readLetters_12 F σ = some z) : fm [] [6, 7, 8, 9, 10, 11, 12, 13, 21] σ z := by
  unfold L_X12_readLetters_12 at h
  refine bd_fm h (fun τ9 g9 => (f_L_X12_goOn g9).mo (by decide) (by decide)) (fun σ3 h => ?_)
  refine bd2_fm h (fun r9 τ9 g9 => (f_L_X12_readWhole g9).mo (by decide) (by decide)) (fun rq5 σ6 h => ?_)
  refine ite_fm h (fun h => ?_) (fun h => ?_)
  · refine bnd_fm h (fm.uI (Or.inr ⟨rfl, by decide⟩)) (fun σ8 h => ?_)
    exact fm_V h
  · exact fm_V h
set_option maxRecDepth 8000 in
theorem f_L_X12_readLetters {F : Nat}  {σ : sS} {z : sS} (h : L_X12_readLetters F σ = some z) : fm [] [6, 7, 8, 9, 10, 11, 12, 13, 21] σ z := by
  unfold L_X12_readLetters at h
  refine ite_fm h (fun h => ?_) (fun h => ?_)
  · exact f_L_X12_readLetters_12 _ h
  · refine bd_fm h (fun τ9 g9 => (f_L_X12_flaw g9).mo (by decide) (by decide)) (fun σ3 h => ?_)
    exact f_L_X12_readLetters_12 _ h
set_option maxRecDepth 8000 in
theorem f_L_X12_readMark_79 {F : Nat} {z : sS} (x1 : Int32) (x3 : Int32) (x4 : Int32) (σ : sS) (h : L_X12_readMark_79 F x1 x3 x4 σ = some z) : fm [115, 116] [6, 7, 8, 9, 10, 11, 12, 13] σ z := by
  unfold L_X12_readMark_79 at h
  refine ite_fm h (fun h => ?_) (fun h => ?_)
  · replace h := (grd_at h).2
    replace h := (grd_at h).2
    refine bnd_fm h (fm.uI (Or.inl (by decide))) (fun σ18 h => ?_)
    exact fm_V h
  · replace h := (grd_at h).2
    replace h := (grd_at h).2
    refine bnd_fm h (fm.uI (Or.inl (by decide))) (fun σ21 h => ?_)
    exact fm_V h
set_option maxRecDepth 8000 in
theorem f_L_X12_readMark {F : Nat} {x1 : Int32} {σ : sS} {z : sS} (h : L_X12_readMark F x1 σ = some z) : fm [115, 116] [6, 7, 8, 9, 10, 11, 12, 13] σ z := by
  unfold L_X12_readMark at h
  refine bnd_fv h (fun yq1 h => ?_)
  refine bd_fm h (fun τ9 g9 => (f_L_X12_needsAuto g9).mo (by decide) (by decide)) (fun σ3 h => ?_)
  refine ite_fm h (fun h => ?_) (fun h => ?_)
  · refine bd_fm h (fun τ9 g9 => (f_L_X12_goOn g9).mo (by decide) (by decide)) (fun σ6 h => ?_)
    refine bd2_fm h (fun r9 τ9 g9 => (f_L_X12_readState g9).mo (by decide) (by decide)) (fun rq8 σ9 h => ?_)
    refine ite_fm h (fun h => ?_) (fun h => ?_)
    · refine bnd_fv h (fun yq11 h => ?_)
      refine ite_fm h (fun h => ?_) (fun h => ?_)
      · replace h := (grd_at h).2
        refine ite_fm h (fun h => ?_) (fun h => ?_)
        · refine bd_fm h (fun τ9 g9 => (f_L_X12_flawAt g9).mo (by decide) (by decide)) (fun σ16 h => ?_)
          exact f_L_X12_readMark_79 _ _ _ _ h
        · exact f_L_X12_readMark_79 _ _ _ _ h
      · replace h := (grd_at h).2
        refine ite_fm h (fun h => ?_) (fun h => ?_)
        · refine bd_fm h (fun τ9 g9 => (f_L_X12_flawAt g9).mo (by decide) (by decide)) (fun σ20 h => ?_)
          exact f_L_X12_readMark_79 _ _ _ _ h
        · exact f_L_X12_readMark_79 _ _ _ _ h
    · exact fm_V h
  · exact fm_V h
set_option maxRecDepth 8000 in
theorem f_L_X12_readLine {F : Nat}  {σ : sS} {z : sS} (h : L_X12_readLine F σ = some z) : fm [114, 115, 116, 117, 118] [6, 7, 8, 9, 10, 11, 12, 13, 21, 22] σ z := by
  unfold L_X12_readLine at h
  refine bd_fv h (fun rq2 h => ?_)
  refine ite_fm h (fun h => ?_) (fun h => ?_)
  · refine bd_fv h (fun rq5 h => ?_)
    refine ite_fm h (fun h => ?_) (fun h => ?_)
    · refine bd_fv h (fun rq8 h => ?_)
      refine ite_fm h (fun h => ?_) (fun h => ?_)
      · refine bd_fv h (fun rq11 h => ?_)
        refine ite_fm h (fun h => ?_) (fun h => ?_)
        · refine bd_fv h (fun rq14 h => ?_)
          refine ite_fm h (fun h => ?_) (fun h => ?_)
          · refine bd_fm h (fun τ9 g9 => (f_L_X12_flaw g9).mo (by decide) (by decide)) (fun σ17 h => ?_)
            exact fm_V h
          · refine bd_fm h (fun τ9 g9 => (f_L_X12_readEdge g9).mo (by decide) (by decide)) (fun σ19 h => ?_)
            exact fm_V h
        · refine bd_fm h (fun τ9 g9 => (f_L_X12_readMark g9).mo (by decide) (by decide)) (fun σ21 h => ?_)
          exact fm_V h
      · refine bd_fm h (fun τ9 g9 => (f_L_X12_readMark g9).mo (by decide) (by decide)) (fun σ23 h => ?_)
        exact fm_V h
    · refine bd_fm h (fun τ9 g9 => (f_L_X12_readAuto g9).mo (by decide) (by decide)) (fun σ25 h => ?_)
      exact fm_V h
  · refine bd_fm h (fun τ9 g9 => (f_L_X12_readLetters g9).mo (by decide) (by decide)) (fun σ27 h => ?_)
    exact fm_V h
set_option maxRecDepth 8000 in
theorem f_L_X12_readAll_12 {F : Nat} {z : sS} {kx : sS → Option sS} (hx : ∀  (σ : sS), kx σ = some z → fm [114, 115, 116, 117, 118] [6, 7, 8, 9, 10, 11, 12, 13, 21, 22] σ z) : ∀ (n : Nat) (x1 : Int32) (σ : sS), L_X12_readAll_12 F kx n x1 σ = some z → fm [114, 115, 116, 117, 118] [6, 7, 8, 9, 10, 11, 12, 13, 21, 22] σ z := by
  intro n
  induction n with
  | zero =>
    intro x1 σ h
    rw [L_X12_readAll_12] at h
    cases h
  | succ n ih =>
    intro x1 σ h
    rw [L_X12_readAll_12] at h
    refine ite_fm h (fun h => ?_) (fun h => ?_)
    · exact hx _ h
    · replace h := (grd_at h).2
      refine bnd_fm h (fm.uI (Or.inl (by decide))) (fun σ5 h => ?_)
      exact ih _ _ h
set_option maxRecDepth 8000 in
theorem f_L_X12_readAll_38 {F : Nat} {z : sS} {kx : sS → Option sS} (hx : ∀  (σ : sS), kx σ = some z → fm [114, 115, 116, 117, 118] [6, 7, 8, 9, 10, 11, 12, 13, 21, 22] σ z) : ∀ (n : Nat)  (σ : sS), L_X12_readAll_38 F kx n σ = some z → fm [114, 115, 116, 117, 118] [6, 7, 8, 9, 10, 11, 12, 13, 21, 22] σ z := by
  intro n
  induction n with
  | zero =>
    intro σ h
    rw [L_X12_readAll_38] at h
    cases h
  | succ n ih =>
    intro σ h
    rw [L_X12_readAll_38] at h
    refine ite_fm h (fun h => ?_) (fun h => ?_)
    · exact hx _ h
    · refine bd_fm h (fun τ9 g9 => (f_L_X12_goOn g9).mo (by decide) (by decide)) (fun σ8 h => ?_)
      refine bd_fm h (fun τ9 g9 => (f_L_X12_readLine g9).mo (by decide) (by decide)) (fun σ10 h => ?_)
      exact ih _ h
set_option maxRecDepth 8000 in
theorem f_L_X12_readAll {F : Nat}  {σ : sS} {z : sS} (h : L_X12_readAll F σ = some z) : fm [114, 115, 116, 117, 118] [6, 7, 8, 9, 10, 11, 12, 13, 21, 22] σ z := by
  unfold L_X12_readAll at h
  refine bnd_fm h (fm.uI (Or.inr ⟨rfl, by decide⟩)) (fun σ1 h => ?_)
  refine bnd_fm h (fm.uI (Or.inr ⟨rfl, by decide⟩)) (fun σ2 h => ?_)
  refine f_L_X12_readAll_12 (fun σ3 h => ?_) _ _ _ h
  refine bd_fm h (fun τ9 g9 => (f_L_X12_readLine g9).mo (by decide) (by decide)) (fun σ5 h => ?_)
  refine f_L_X12_readAll_38 (fun σ6 h => ?_) _ _ h
  refine bd_fm h (fun τ9 g9 => (f_L_X12_needsEnd g9).mo (by decide) (by decide)) (fun σ8 h => ?_)
  refine ite_fm h (fun h => ?_) (fun h => ?_)
  · refine ite_fm h (fun h => ?_) (fun h => ?_)
    · refine bd_fm h (fun τ9 g9 => (f_L_X12_flaw g9).mo (by decide) (by decide)) (fun σ12 h => ?_)
      exact fm_V h
    · exact fm_V h
  · exact fm_V h
set_option maxRecDepth 8000 in
theorem f_L_X12_automata_110 {F : Nat} {x2 : Int32} {z : (Int32 × sS)} {kx : sS → Option (Int32 × sS)} (hx : ∀  (σ : sS), kx σ = some z → fm [114, 115, 116, 117, 118] [0, 1, 2, 4, 5, 6, 7, 8, 9, 10, 11, 12, 13, 19, 20, 21, 22, 32] σ z.2) : ∀ (n : Nat) (x3 : Int32) (σ : sS), L_X12_automata_110 F x2 kx n x3 σ = some z → fm [114, 115, 116, 117, 118] [0, 1, 2, 4, 5, 6, 7, 8, 9, 10, 11, 12, 13, 19, 20, 21, 22, 32] σ z.2 := by
  intro n
  induction n with
  | zero =>
    intro x3 σ h
    rw [L_X12_automata_110] at h
    cases h
  | succ n ih =>
    intro x3 σ h
    rw [L_X12_automata_110] at h
    refine ite_fm h (fun h => ?_) (fun h => ?_)
    · exact hx _ h
    · replace h := (grd_at h).2
      replace h := (grd_at h).2
      refine bnd_fm h (fm.uI (Or.inl (by decide))) (fun σ23 h => ?_)
      exact ih _ _ h
set_option maxRecDepth 8000 in
theorem f_L_X12_automata_58 {F : Nat} {z : (Int32 × sS)} {kx : sS → Option (Int32 × sS)} (hx : ∀  (σ : sS), kx σ = some z → fm [114, 115, 116, 117, 118] [0, 1, 2, 4, 5, 6, 7, 8, 9, 10, 11, 12, 13, 19, 20, 21, 22, 32] σ z.2) : ∀ (n : Nat) (x2 : Int32) (σ : sS), L_X12_automata_58 F kx n x2 σ = some z → fm [114, 115, 116, 117, 118] [0, 1, 2, 4, 5, 6, 7, 8, 9, 10, 11, 12, 13, 19, 20, 21, 22, 32] σ z.2 := by
  intro n
  induction n with
  | zero =>
    intro x2 σ h
    rw [L_X12_automata_58] at h
    cases h
  | succ n ih =>
    intro x2 σ h
    rw [L_X12_automata_58] at h
    refine ite_fm h (fun h => ?_) (fun h => ?_)
    · exact hx _ h
    · replace h := (grd_at h).2
      replace h := (grd_at h).2
      refine bnd_fm h (fm.uI (Or.inl (by decide))) (fun σ13 h => ?_)
      replace h := (grd_at h).2
      replace h := (grd_at h).2
      refine bnd_fm h (fm.uI (Or.inl (by decide))) (fun σ16 h => ?_)
      replace h := (grd_at h).2
      replace h := (grd_at h).2
      refine bnd_fm h (fm.uI (Or.inl (by decide))) (fun σ19 h => ?_)
      refine f_L_X12_automata_110 (fun σ20 h => ?_) _ _ _ h
      exact ih _ _ h
set_option maxRecDepth 8000 in
theorem f_L_X12_automata {F : Nat} {x1 : Int32} {σ : sS} {z : (Int32 × sS)} (h : L_X12_automata F x1 σ = some z) : fm [114, 115, 116, 117, 118] [0, 1, 2, 4, 5, 6, 7, 8, 9, 10, 11, 12, 13, 19, 20, 21, 22, 32] σ z.2 := by
  unfold L_X12_automata at h
  refine bnd_fm h (fm.uI (Or.inr ⟨rfl, by decide⟩)) (fun σ1 h => ?_)
  refine ite_fm h (fun h => ?_) (fun h => ?_)
  · refine bd_fm h (fun τ9 g9 => (f_L_X12_begins g9).mo (by decide) (by decide)) (fun σ4 h => ?_)
    refine bd_fm h (fun τ9 g9 => (f_L_X12_readAll g9).mo (by decide) (by decide)) (fun σ6 h => ?_)
    refine ite_fm h (fun h => ?_) (fun h => ?_)
    · refine bnd_fm h (fm.uI (Or.inr ⟨rfl, by decide⟩)) (fun σ8 h => ?_)
      refine bnd_fm h (fm.uI (Or.inr ⟨rfl, by decide⟩)) (fun σ9 h => ?_)
      refine f_L_X12_automata_58 (fun σ10 h => ?_) _ _ _ h
      refine bnd_fm h (fm.uI (Or.inr ⟨rfl, by decide⟩)) (fun σ11 h => ?_)
      refine bd2_fm h (fun r9 τ9 g9 => (f_L_X12_good g9).mo (by decide) (by decide)) (fun rq13 σ14 h => ?_)
      exact fm_I h
    · refine bd2_fm h (fun r9 τ9 g9 => (f_L_X12_faulty g9).mo (by decide) (by decide)) (fun rq16 σ17 h => ?_)
      exact fm_I h
  · refine bd2_fm h (fun r9 τ9 g9 => (f_L_X12_refused g9).mo (by decide) (by decide)) (fun rq19 σ20 h => ?_)
    exact fm_I h
set_option maxRecDepth 8000 in
theorem f_L_X12_automaton {F : Nat} {x1 : Int32} {x2 : Int32} {σ : sS} {z : (Int32 × sS)} (h : L_X12_automaton F x1 x2 σ = some z) : fm [] [0, 1, 2] σ z.2 := by
  unfold L_X12_automaton at h
  refine bnd_fm h (fm.uI (Or.inr ⟨rfl, by decide⟩)) (fun σ1 h => ?_)
  refine bd_fv h (fun rq3 h => ?_)
  refine ite_fm h (fun h => ?_) (fun h => ?_)
  · refine bd2_fm h (fun r9 τ9 g9 => (f_L_X12_refused g9).mo (by decide) (by decide)) (fun rq30 σ31 h => ?_)
    exact fm_I h
  · refine ite_fm h (fun h => ?_) (fun h => ?_)
    · replace h := (grd_at h).2
      refine bd2_fm h (fun r9 τ9 g9 => (f_L_X12_good g9).mo (by decide) (by decide)) (fun rq8 σ9 h => ?_)
      exact fm_I h
    refine ite_fm h (fun h => ?_) (fun h => ?_)
    · replace h := (grd_at h).2
      refine bd2_fm h (fun r9 τ9 g9 => (f_L_X12_good g9).mo (by decide) (by decide)) (fun rq12 σ13 h => ?_)
      exact fm_I h
    refine ite_fm h (fun h => ?_) (fun h => ?_)
    · replace h := (grd_at h).2
      refine bd2_fm h (fun r9 τ9 g9 => (f_L_X12_good g9).mo (by decide) (by decide)) (fun rq16 σ17 h => ?_)
      exact fm_I h
    refine ite_fm h (fun h => ?_) (fun h => ?_)
    · refine bd_fv h (fun rq19 h => ?_)
      refine bd2_fm h (fun r9 τ9 g9 => (f_L_X12_good g9).mo (by decide) (by decide)) (fun rq21 σ22 h => ?_)
      exact fm_I h
    refine ite_fm h (fun h => ?_) (fun h => ?_)
    · refine bd2_fm h (fun r9 τ9 g9 => (f_L_X12_good g9).mo (by decide) (by decide)) (fun rq24 σ25 h => ?_)
      exact fm_I h
    refine bd2_fm h (fun r9 τ9 g9 => (f_L_X12_refused g9).mo (by decide) (by decide)) (fun rq27 σ28 h => ?_)
    exact fm_I h
set_option maxRecDepth 8000 in
theorem f_L_X12_edge {x1 : Int32} {x2 : Int32} {x3 : Int32} {x4 : Int32} {σ : sS} {z : (Int32 × sS)} (h : L_X12_edge x1 x2 x3 x4 σ = some z) : fm [] [0, 1, 2] σ z.2 := by
  unfold L_X12_edge at h
  refine bnd_fm h (fm.uI (Or.inr ⟨rfl, by decide⟩)) (fun σ1 h => ?_)
  refine bd_fv h (fun rq3 h => ?_)
  refine ite_fm h (fun h => ?_) (fun h => ?_)
  · refine bd2_fm h (fun r9 τ9 g9 => (f_L_X12_refused g9).mo (by decide) (by decide)) (fun rq6 σ7 h => ?_)
    exact fm_I h
  · refine bd_fv h (fun rq9 h => ?_)
    refine ite_fm h (fun h => ?_) (fun h => ?_)
    · refine bd2_fm h (fun r9 τ9 g9 => (f_L_X12_refused g9).mo (by decide) (by decide)) (fun rq12 σ13 h => ?_)
      exact fm_I h
    · refine bd_fv h (fun rq15 h => ?_)
      refine ite_fm h (fun h => ?_) (fun h => ?_)
      · refine bd2_fm h (fun r9 τ9 g9 => (f_L_X12_refused g9).mo (by decide) (by decide)) (fun rq23 σ24 h => ?_)
        exact fm_I h
      · refine bd_fv h (fun rq18 h => ?_)
        refine bd2_fm h (fun r9 τ9 g9 => (f_L_X12_good g9).mo (by decide) (by decide)) (fun rq20 σ21 h => ?_)
        exact fm_I h
set_option maxRecDepth 8000 in
theorem f_L_X12_after {F : Nat} {x1 : Int32} {x2 : Int32} {x3 : Int32} {σ : sS} {z : (Int32 × sS)} (h : L_X12_after F x1 x2 x3 σ = some z) : fm [] [0, 1, 2] σ z.2 := by
  unfold L_X12_after at h
  refine bnd_fm h (fm.uI (Or.inr ⟨rfl, by decide⟩)) (fun σ1 h => ?_)
  refine bd_fv h (fun rq3 h => ?_)
  refine ite_fm h (fun h => ?_) (fun h => ?_)
  · refine bd2_fm h (fun r9 τ9 g9 => (f_L_X12_refused g9).mo (by decide) (by decide)) (fun rq6 σ7 h => ?_)
    exact fm_I h
  · refine bd_fv h (fun rq9 h => ?_)
    refine ite_fm h (fun h => ?_) (fun h => ?_)
    · refine bd2_fm h (fun r9 τ9 g9 => (f_L_X12_refused g9).mo (by decide) (by decide)) (fun rq23 σ24 h => ?_)
      exact fm_I h
    · refine bd_fv h (fun rq12 h => ?_)
      refine ite_fm h (fun h => ?_) (fun h => ?_)
      · refine bd2_fm h (fun r9 τ9 g9 => (f_L_X12_refused g9).mo (by decide) (by decide)) (fun rq15 σ16 h => ?_)
        exact fm_I h
      · refine bd_fv h (fun rq18 h => ?_)
        refine bd2_fm h (fun r9 τ9 g9 => (f_L_X12_good g9).mo (by decide) (by decide)) (fun rq20 σ21 h => ?_)
        exact fm_I h
set_option maxRecDepth 8000 in
theorem f_L_X12_firstRanking_2 {F : Nat} {z : sS} {kx : sS → Option sS} (hx : ∀  (σ : sS), kx σ = some z → fm [123] [] σ z) : ∀ (n : Nat) (x1 : Int32) (σ : sS), L_X12_firstRanking_2 F kx n x1 σ = some z → fm [123] [] σ z := by
  intro n
  induction n with
  | zero =>
    intro x1 σ h
    rw [L_X12_firstRanking_2] at h
    cases h
  | succ n ih =>
    intro x1 σ h
    rw [L_X12_firstRanking_2] at h
    refine ite_fm h (fun h => ?_) (fun h => ?_)
    · exact hx _ h
    · replace h := (grd_at h).2
      refine bnd_fm h (fm.uI (Or.inl (by decide))) (fun σ3 h => ?_)
      exact ih _ _ h
set_option maxRecDepth 8000 in
theorem f_L_X12_firstRanking {F : Nat}  {σ : sS} {z : sS} (h : L_X12_firstRanking F σ = some z) : fm [123] [] σ z := by
  unfold L_X12_firstRanking at h
  refine f_L_X12_firstRanking_2 (fun σ1 h => ?_) _ _ _ h
  exact fm_V h
set_option maxRecDepth 8000 in
theorem f_L_X12_nextRanking_2 {F : Nat} {x1 : Int32} {x2 : Int32} {z : (Int32 × sS)} {kx : sS → Option (Int32 × sS)} (hx : ∀  (σ : sS), kx σ = some z → fm [123] [] σ z.2) : ∀ (n : Nat) (x3 : Int32) (σ : sS), L_X12_nextRanking_2 F x1 x2 kx n x3 σ = some z → fm [123] [] σ z.2 := by
  intro n
  induction n with
  | zero =>
    intro x3 σ h
    rw [L_X12_nextRanking_2] at h
    cases h
  | succ n ih =>
    intro x3 σ h
    rw [L_X12_nextRanking_2] at h
    refine ite_fm h (fun h => ?_) (fun h => ?_)
    · exact hx _ h
    · refine ite_fm h (fun h => ?_) (fun h => ?_)
      · exact ih _ _ h
      · replace h := (grd_at h).2
        refine ite_fm h (fun h => ?_) (fun h => ?_)
        · replace h := (grd_at h).2
          refine bnd_fm h (fm.uI (Or.inl (by decide))) (fun σ6 h => ?_)
          exact ih _ _ h
        · replace h := (grd_at h).2
          replace h := (grd_at h).2
          refine bnd_fm h (fm.uI (Or.inl (by decide))) (fun σ9 h => ?_)
          exact fm_I h
set_option maxRecDepth 8000 in
theorem f_L_X12_nextRanking {F : Nat} {x1 : Int32} {x2 : Int32} {σ : sS} {z : (Int32 × sS)} (h : L_X12_nextRanking F x1 x2 σ = some z) : fm [123] [] σ z.2 := by
  unfold L_X12_nextRanking at h
  refine f_L_X12_nextRanking_2 (fun σ1 h => ?_) _ _ _ h
  exact fm_I h
set_option maxRecDepth 8000 in
theorem f_L_X12_bound {x1 : Int32} {x2 : Int32} {σ : sS} {z : (Int32 × sS)} (h : L_X12_bound x1 x2 σ = some z) : fm [] [0, 1, 2] σ z.2 := by
  unfold L_X12_bound at h
  refine bnd_fm h (fm.uI (Or.inr ⟨rfl, by decide⟩)) (fun σ1 h => ?_)
  refine bd_fv h (fun rq3 h => ?_)
  refine ite_fm h (fun h => ?_) (fun h => ?_)
  · refine bd2_fm h (fun r9 τ9 g9 => (f_L_X12_refused g9).mo (by decide) (by decide)) (fun rq23 σ24 h => ?_)
    exact fm_I h
  · refine bd_fv h (fun rq6 h => ?_)
    refine ite_fm h (fun h => ?_) (fun h => ?_)
    · refine bd2_fm h (fun r9 τ9 g9 => (f_L_X12_refused g9).mo (by decide) (by decide)) (fun rq20 σ21 h => ?_)
      exact fm_I h
    · refine bd_fv h (fun rq9 h => ?_)
      refine ite_fm h (fun h => ?_) (fun h => ?_)
      · refine bd_fv h (fun rq12 h => ?_)
        refine bd2_fm h (fun r9 τ9 g9 => (f_L_X12_good g9).mo (by decide) (by decide)) (fun rq14 σ15 h => ?_)
        exact fm_I h
      · refine bd2_fm h (fun r9 τ9 g9 => (f_L_X12_good g9).mo (by decide) (by decide)) (fun rq17 σ18 h => ?_)
        exact fm_I h
set_option maxRecDepth 8000 in
theorem f_L_X12_rankings_51 {F : Nat} {x1 : Int32} {x2 : Int32} {x3 : Int32} {z : (Int32 × sS)} {kx : Int32 → sS → Option (Int32 × sS)} (hx : ∀ (x4 : Int32) (σ : sS), kx x4 σ = some z → fm [123] [0, 1, 2] σ z.2) : ∀ (n : Nat) (x4 : Int32) (x5 : Int32) (σ : sS), L_X12_rankings_51 F x1 x2 x3 kx n x4 x5 σ = some z → fm [123] [0, 1, 2] σ z.2 := by
  intro n
  induction n with
  | zero =>
    intro x4 x5 σ h
    rw [L_X12_rankings_51] at h
    cases h
  | succ n ih =>
    intro x4 x5 σ h
    rw [L_X12_rankings_51] at h
    refine ite_fm h (fun h => ?_) (fun h => ?_)
    · exact hx _ _ h
    · refine bd_fv h (fun rq18 h => ?_)
      refine ite_fm h (fun h => ?_) (fun h => ?_)
      · refine bnd_fv h (fun yq20 h => ?_)
        refine bd2_fm h (fun r9 τ9 g9 => (f_L_X12_nextRanking g9).mo (by decide) (by decide)) (fun rq22 σ23 h => ?_)
        exact ih _ _ _ h
      · refine bnd_fv h (fun yq24 h => ?_)
        refine bd2_fm h (fun r9 τ9 g9 => (f_L_X12_nextRanking g9).mo (by decide) (by decide)) (fun rq26 σ27 h => ?_)
        exact ih _ _ _ h
set_option maxRecDepth 8000 in
theorem f_L_X12_rankings {F : Nat} {x1 : Int32} {x2 : Int32} {x3 : Int32} {σ : sS} {z : (Int32 × sS)} (h : L_X12_rankings F x1 x2 x3 σ = some z) : fm [123] [0, 1, 2] σ z.2 := by
  unfold L_X12_rankings at h
  refine bnd_fm h (fm.uI (Or.inr ⟨rfl, by decide⟩)) (fun σ1 h => ?_)
  refine bd_fv h (fun rq3 h => ?_)
  refine ite_fm h (fun h => ?_) (fun h => ?_)
  · refine bd2_fm h (fun r9 τ9 g9 => (f_L_X12_refused g9).mo (by decide) (by decide)) (fun rq25 σ26 h => ?_)
    exact fm_I h
  · refine bd_fv h (fun rq6 h => ?_)
    refine ite_fm h (fun h => ?_) (fun h => ?_)
    · refine bd2_fm h (fun r9 τ9 g9 => (f_L_X12_refused g9).mo (by decide) (by decide)) (fun rq9 σ10 h => ?_)
      exact fm_I h
    · refine bd_fv h (fun rq12 h => ?_)
      refine ite_fm h (fun h => ?_) (fun h => ?_)
      · refine bd2_fm h (fun r9 τ9 g9 => (f_L_X12_refused g9).mo (by decide) (by decide)) (fun rq22 σ23 h => ?_)
        exact fm_I h
      · refine bd_fm h (fun τ9 g9 => (f_L_X12_firstRanking g9).mo (by decide) (by decide)) (fun σ15 h => ?_)
        refine f_L_X12_rankings_51 (fun yq16 σ17 h => ?_) _ _ _ _ h
        refine bd2_fm h (fun r9 τ9 g9 => (f_L_X12_good g9).mo (by decide) (by decide)) (fun rq19 σ20 h => ?_)
        exact fm_I h
set_option maxRecDepth 8000 in
theorem f_L_X12_ranked_110 {F : Nat} {x1 : Int32} {x2 : Int32} {x3 : Int32} {x5 : Int32} {z : (Int32 × sS)} {kh : Int32 → Int32 → sS → Option (Int32 × sS)} (hh : ∀ (x6 : Int32) (x7 : Int32) (σ : sS), kh x6 x7 σ = some z → fm [123] [0, 1, 2] σ z.2) {kx : sS → Option (Int32 × sS)} (hx : ∀  (σ : sS), kx σ = some z → fm [123] [0, 1, 2] σ z.2) (x6 : Int32) (x8 : Int32) (σ : sS) (h : L_X12_ranked_110 F x1 x2 x3 x5 kh kx x6 x8 σ = some z) : fm [123] [0, 1, 2] σ z.2 := by
  unfold L_X12_ranked_110 at h
  refine ite_fm h (fun h => ?_) (fun h => ?_)
  · refine bnd_fv h (fun yq26 h => ?_)
    refine bd2_fm h (fun r9 τ9 g9 => (f_L_X12_nextRanking g9).mo (by decide) (by decide)) (fun rq28 σ29 h => ?_)
    exact hh _ _ _ h
  · refine bnd_fv h (fun yq30 h => ?_)
    refine bd2_fm h (fun r9 τ9 g9 => (f_L_X12_nextRanking g9).mo (by decide) (by decide)) (fun rq32 σ33 h => ?_)
    exact hh _ _ _ h
set_option maxRecDepth 8000 in
theorem f_L_X12_ranked_74 {F : Nat} {x1 : Int32} {x2 : Int32} {x3 : Int32} {x5 : Int32} {z : (Int32 × sS)} {kx : sS → Option (Int32 × sS)} (hx : ∀  (σ : sS), kx σ = some z → fm [123] [0, 1, 2] σ z.2) : ∀ (n : Nat) (x6 : Int32) (x7 : Int32) (σ : sS), L_X12_ranked_74 F x1 x2 x3 x5 kx n x6 x7 σ = some z → fm [123] [0, 1, 2] σ z.2 := by
  intro n
  induction n with
  | zero =>
    intro x6 x7 σ h
    rw [L_X12_ranked_74] at h
    cases h
  | succ n ih =>
    intro x6 x7 σ h
    rw [L_X12_ranked_74] at h
    refine ite_fm h (fun h => ?_) (fun h => ?_)
    · exact hx _ h
    · refine bd_fv h (fun rq23 h => ?_)
      refine ite_fm h (fun h => ?_) (fun h => ?_)
      · exact f_L_X12_ranked_110 ih hx _ _ _ h
      · refine ite_fm h (fun h => ?_) (fun h => ?_)
        · replace h := (grd_at h).2
          refine bd2_fm h (fun r9 τ9 g9 => (f_L_X12_good g9).mo (by decide) (by decide)) (fun rq28 σ29 h => ?_)
          exact fm_I h
        · exact f_L_X12_ranked_110 ih hx _ _ _ h
set_option maxRecDepth 8000 in
theorem f_L_X12_ranked {F : Nat} {x1 : Int32} {x2 : Int32} {x3 : Int32} {x4 : Int32} {x5 : Int32} {σ : sS} {z : (Int32 × sS)} (h : L_X12_ranked F x1 x2 x3 x4 x5 σ = some z) : fm [123] [0, 1, 2] σ z.2 := by
  unfold L_X12_ranked at h
  refine bnd_fm h (fm.uI (Or.inr ⟨rfl, by decide⟩)) (fun σ1 h => ?_)
  refine bd_fv h (fun rq3 h => ?_)
  refine ite_fm h (fun h => ?_) (fun h => ?_)
  · refine bd2_fm h (fun r9 τ9 g9 => (f_L_X12_refused g9).mo (by decide) (by decide)) (fun rq32 σ33 h => ?_)
    exact fm_I h
  · refine bd_fv h (fun rq6 h => ?_)
    refine ite_fm h (fun h => ?_) (fun h => ?_)
    · refine bd2_fm h (fun r9 τ9 g9 => (f_L_X12_refused g9).mo (by decide) (by decide)) (fun rq9 σ10 h => ?_)
      exact fm_I h
    · refine bd_fv h (fun rq12 h => ?_)
      refine ite_fm h (fun h => ?_) (fun h => ?_)
      · refine bd2_fm h (fun r9 τ9 g9 => (f_L_X12_refused g9).mo (by decide) (by decide)) (fun rq29 σ30 h => ?_)
        exact fm_I h
      · refine ite_fm h (fun h => ?_) (fun h => ?_)
        · refine bd2_fm h (fun r9 τ9 g9 => (f_L_X12_refused g9).mo (by decide) (by decide)) (fun rq16 σ17 h => ?_)
          exact fm_I h
        · refine ite_fm h (fun h => ?_) (fun h => ?_)
          · refine bd2_fm h (fun r9 τ9 g9 => (f_L_X12_refused g9).mo (by decide) (by decide)) (fun rq26 σ27 h => ?_)
            exact fm_I h
          · refine bd_fm h (fun τ9 g9 => (f_L_X12_firstRanking g9).mo (by decide) (by decide)) (fun σ20 h => ?_)
            refine f_L_X12_ranked_74 (fun σ21 h => ?_) _ _ _ _ h
            refine bd2_fm h (fun r9 τ9 g9 => (f_L_X12_refused g9).mo (by decide) (by decide)) (fun rq23 σ24 h => ?_)
            exact fm_I h
set_option maxRecDepth 8000 in
theorem f_L_X12_nodeOf_34 {F : Nat} {x1 : Int32} {x2 : Int32} {x3 : Int32} {x4 : Int32} {x5 : Int32} {σ : sS} {z : (Int32 × sS)} {kx : Option (Int32 × sS)} (hx : kx  = some z → fm [124, 125, 126, 127, 128, 129] [33, 35] σ z.2) : ∀ (n : Nat) (x6 : Int32), L_X12_nodeOf_34 F x1 x2 x3 x4 x5 σ kx n x6 = some z → fm [124, 125, 126, 127, 128, 129] [33, 35] σ z.2 := by
  intro n
  induction n with
  | zero =>
    intro x6 h
    rw [L_X12_nodeOf_34] at h
    cases h
  | succ n ih =>
    intro x6 h
    rw [L_X12_nodeOf_34] at h
    refine ite_fm h (fun h => ?_) (fun h => ?_)
    · exact hx  h
    · replace h := (grd_at h).2
      refine ite_fm h (fun h => ?_) (fun h => ?_)
      · replace h := (grd_at h).2
        refine ite_fm h (fun h => ?_) (fun h => ?_)
        · replace h := (grd_at h).2
          refine ite_fm h (fun h => ?_) (fun h => ?_)
          · replace h := (grd_at h).2
            refine ite_fm h (fun h => ?_) (fun h => ?_)
            · exact fm_I h
            · replace h := (grd_at h).2
              refine bnd_fv h (fun yq20 h => ?_)
              exact ih _ h
          · replace h := (grd_at h).2
            refine bnd_fv h (fun yq16 h => ?_)
            exact ih _ h
        · replace h := (grd_at h).2
          refine bnd_fv h (fun yq12 h => ?_)
          exact ih _ h
      · replace h := (grd_at h).2
        refine bnd_fv h (fun yq8 h => ?_)
        exact ih _ h
set_option maxRecDepth 8000 in
theorem f_L_X12_nodeOf {F : Nat} {x1 : Int32} {x2 : Int32} {x3 : Int32} {x4 : Int32} {σ : sS} {z : (Int32 × sS)} (h : L_X12_nodeOf F x1 x2 x3 x4 σ = some z) : fm [124, 125, 126, 127, 128, 129] [33, 35] σ z.2 := by
  unfold L_X12_nodeOf at h
  refine bnd_fv h (fun yq1 h => ?_)
  replace h := (grd_at h).2
  refine bnd_fv h (fun yq3 h => ?_)
  refine f_L_X12_nodeOf_34 (fun h => ?_) _ _ h
  refine ite_fm h (fun h => ?_) (fun h => ?_)
  · refine bnd_fm h (fm.uI (Or.inr ⟨rfl, by decide⟩)) (fun σ19 h => ?_)
    exact fm_I h
  · replace h := (grd_at h).2
    refine bnd_fm h (fm.uI (Or.inl (by decide))) (fun σ6 h => ?_)
    replace h := (grd_at h).2
    refine bnd_fm h (fm.uI (Or.inl (by decide))) (fun σ8 h => ?_)
    replace h := (grd_at h).2
    refine bnd_fm h (fm.uI (Or.inl (by decide))) (fun σ10 h => ?_)
    replace h := (grd_at h).2
    refine bnd_fm h (fm.uI (Or.inl (by decide))) (fun σ12 h => ?_)
    replace h := (grd_at h).2
    replace h := (grd_at h).2
    refine bnd_fm h (fm.uI (Or.inl (by decide))) (fun σ15 h => ?_)
    replace h := (grd_at h).2
    refine bnd_fm h (fm.uI (Or.inl (by decide))) (fun σ17 h => ?_)
    refine bnd_fm h (fm.uI (Or.inr ⟨rfl, by decide⟩)) (fun σ18 h => ?_)
    exact fm_I h
set_option maxRecDepth 8000 in
theorem f_L_X12_goesTo {x1 : Int32} {σ : sS} {z : sS} (h : L_X12_goesTo x1 σ = some z) : fm [131] [34] σ z := by
  unfold L_X12_goesTo at h
  refine ite_fm h (fun h => ?_) (fun h => ?_)
  · replace h := (grd_at h).2
    refine bnd_fm h (fm.uI (Or.inl (by decide))) (fun σ3 h => ?_)
    refine bnd_fm h (fm.uI (Or.inr ⟨rfl, by decide⟩)) (fun σ4 h => ?_)
    exact fm_V h
  · exact fm_V h
set_option maxRecDepth 8000 in
theorem f_L_X12_goesFromSet_40 {F : Nat} {x1 : Int32} {x2 : Int32} {x3 : Int32} {z : sS} {kx : sS → Option sS} (hx : ∀  (σ : sS), kx σ = some z → fm [123, 124, 125, 126, 127, 128, 129, 131] [33, 34, 35] σ z) : ∀ (n : Nat) (x4 : Int32) (σ : sS), L_X12_goesFromSet_40 F x1 x2 x3 kx n x4 σ = some z → fm [123, 124, 125, 126, 127, 128, 129, 131] [33, 34, 35] σ z := by
  intro n
  induction n with
  | zero =>
    intro x4 σ h
    rw [L_X12_goesFromSet_40] at h
    cases h
  | succ n ih =>
    intro x4 σ h
    rw [L_X12_goesFromSet_40] at h
    refine ite_fm h (fun h => ?_) (fun h => ?_)
    · exact hx _ h
    · refine ite_fm h (fun h => ?_) (fun h => ?_)
      · refine bd_fv h (fun rq15 h => ?_)
        refine ite_fm h (fun h => ?_) (fun h => ?_)
        · refine bd2_fm h (fun r9 τ9 g9 => (f_L_X12_nextRanking g9).mo (by decide) (by decide)) (fun rq18 σ19 h => ?_)
          exact ih _ _ h
        · refine bd_fv h (fun rq21 h => ?_)
          refine bd2_fm h (fun r9 τ9 g9 => (f_L_X12_nodeOf g9).mo (by decide) (by decide)) (fun rq23 σ24 h => ?_)
          refine bd_fm h (fun τ9 g9 => (f_L_X12_goesTo g9).mo (by decide) (by decide)) (fun σ26 h => ?_)
          refine bd2_fm h (fun r9 τ9 g9 => (f_L_X12_nextRanking g9).mo (by decide) (by decide)) (fun rq28 σ29 h => ?_)
          exact ih _ _ h
      · exact hx _ h
set_option maxRecDepth 8000 in
theorem f_L_X12_goesFromSet_15 {F : Nat} {x1 : Int32} {x2 : Int32} {z : sS} {kx : sS → Option sS} (hx : ∀  (σ : sS), kx σ = some z → fm [123, 124, 125, 126, 127, 128, 129, 131] [33, 34, 35] σ z) : ∀ (n : Nat) (x3 : Int32) (σ : sS), L_X12_goesFromSet_15 F x1 x2 kx n x3 σ = some z → fm [123, 124, 125, 126, 127, 128, 129, 131] [33, 34, 35] σ z := by
  intro n
  induction n with
  | zero =>
    intro x3 σ h
    rw [L_X12_goesFromSet_15] at h
    cases h
  | succ n ih =>
    intro x3 σ h
    rw [L_X12_goesFromSet_15] at h
    refine bd_fv h (fun rq7 h => ?_)
    refine ite_fm h (fun h => ?_) (fun h => ?_)
    · exact hx _ h
    · refine bd_fm h (fun τ9 g9 => (f_L_X12_firstRanking g9).mo (by decide) (by decide)) (fun σ10 h => ?_)
      refine ite_fm h (fun h => ?_) (fun h => ?_)
      · refine f_L_X12_goesFromSet_40 (fun σ12 h => ?_) _ _ _ h
        exact ih _ _ h
      · refine f_L_X12_goesFromSet_40 (fun σ13 h => ?_) _ _ _ h
        exact ih _ _ h
set_option maxRecDepth 8000 in
theorem f_L_X12_goesFromSet {F : Nat} {x1 : Int32} {x2 : Int32} {σ : sS} {z : sS} (h : L_X12_goesFromSet F x1 x2 σ = some z) : fm [123, 124, 125, 126, 127, 128, 129, 131] [33, 34, 35] σ z := by
  unfold L_X12_goesFromSet at h
  refine bd2_fm h (fun r9 τ9 g9 => (f_L_X12_nodeOf g9).mo (by decide) (by decide)) (fun rq2 σ3 h => ?_)
  refine bd_fm h (fun τ9 g9 => (f_L_X12_goesTo g9).mo (by decide) (by decide)) (fun σ5 h => ?_)
  refine f_L_X12_goesFromSet_15 (fun σ6 h => ?_) _ _ _ h
  exact fm_V h
set_option maxRecDepth 8000 in
theorem f_L_X12_goesFromPair_3 {F : Nat} {x1 : Int32} {x2 : Int32} {x3 : Int32} {x4 : Int32} {z : sS} {kx : sS → Option sS} (hx : ∀  (σ : sS), kx σ = some z → fm [123, 124, 125, 126, 127, 128, 129, 131, 136] [33, 34, 35] σ z) : ∀ (n : Nat) (x5 : Int32) (σ : sS), L_X12_goesFromPair_3 F x1 x2 x3 x4 kx n x5 σ = some z → fm [123, 124, 125, 126, 127, 128, 129, 131, 136] [33, 34, 35] σ z := by
  intro n
  induction n with
  | zero =>
    intro x5 σ h
    rw [L_X12_goesFromPair_3] at h
    cases h
  | succ n ih =>
    intro x5 σ h
    rw [L_X12_goesFromPair_3] at h
    refine ite_fm h (fun h => ?_) (fun h => ?_)
    · exact hx _ h
    · refine bd_fv h (fun rq3 h => ?_)
      replace h := (grd_at h).2
      refine bnd_fm h (fm.uI (Or.inl (by decide))) (fun σ5 h => ?_)
      exact ih _ _ h
set_option maxRecDepth 8000 in
theorem f_L_X12_goesFromPair_83 {F : Nat} {x1 : Int32} {x4 : Int32} {x5 : Int32} {x6 : Int32} {z : sS} {kx : sS → Option sS} (hx : ∀  (σ : sS), kx σ = some z → fm [123, 124, 125, 126, 127, 128, 129, 131, 136] [33, 34, 35] σ z) : ∀ (n : Nat) (x7 : Int32) (σ : sS), L_X12_goesFromPair_83 F x1 x4 x5 x6 kx n x7 σ = some z → fm [123, 124, 125, 126, 127, 128, 129, 131, 136] [33, 34, 35] σ z := by
  intro n
  induction n with
  | zero =>
    intro x7 σ h
    rw [L_X12_goesFromPair_83] at h
    cases h
  | succ n ih =>
    intro x7 σ h
    rw [L_X12_goesFromPair_83] at h
    refine ite_fm h (fun h => ?_) (fun h => ?_)
    · exact hx _ h
    · refine ite_fm h (fun h => ?_) (fun h => ?_)
      · refine bd_fv h (fun rq15 h => ?_)
        refine ite_fm h (fun h => ?_) (fun h => ?_)
        · refine bd2_fm h (fun r9 τ9 g9 => (f_L_X12_nextRanking g9).mo (by decide) (by decide)) (fun rq18 σ19 h => ?_)
          exact ih _ _ h
        · refine bd_fv h (fun rq21 h => ?_)
          refine ite_fm h (fun h => ?_) (fun h => ?_)
          · refine bd2_fm h (fun r9 τ9 g9 => (f_L_X12_nextRanking g9).mo (by decide) (by decide)) (fun rq24 σ25 h => ?_)
            exact ih _ _ h
          · refine bd_fv h (fun rq27 h => ?_)
            refine bd_fv h (fun rq29 h => ?_)
            refine bd2_fm h (fun r9 τ9 g9 => (f_L_X12_nodeOf g9).mo (by decide) (by decide)) (fun rq31 σ32 h => ?_)
            refine bd_fm h (fun τ9 g9 => (f_L_X12_goesTo g9).mo (by decide) (by decide)) (fun σ34 h => ?_)
            refine bd2_fm h (fun r9 τ9 g9 => (f_L_X12_nextRanking g9).mo (by decide) (by decide)) (fun rq36 σ37 h => ?_)
            exact ih _ _ h
      · exact hx _ h
set_option maxRecDepth 8000 in
theorem f_L_X12_goesFromPair {F : Nat} {x1 : Int32} {x2 : Int32} {x3 : Int32} {x4 : Int32} {σ : sS} {z : sS} (h : L_X12_goesFromPair F x1 x2 x3 x4 σ = some z) : fm [123, 124, 125, 126, 127, 128, 129, 131, 136] [33, 34, 35] σ z := by
  unfold L_X12_goesFromPair at h
  refine f_L_X12_goesFromPair_3 (fun σ1 h => ?_) _ _ _ h
  replace h := (grd_at h).2
  refine bnd_fv h (fun yq3 h => ?_)
  replace h := (grd_at h).2
  refine ite_fm h (fun h => ?_) (fun h => ?_)
  · refine bd_fm h (fun τ9 g9 => (f_L_X12_firstRanking g9).mo (by decide) (by decide)) (fun σ15 h => ?_)
    refine ite_fm h (fun h => ?_) (fun h => ?_)
    · refine f_L_X12_goesFromPair_83 (fun σ17 h => ?_) _ _ _ h
      exact fm_V h
    · refine f_L_X12_goesFromPair_83 (fun σ18 h => ?_) _ _ _ h
      exact fm_V h
  · replace h := (grd_at h).2
    refine bd_fv h (fun rq8 h => ?_)
    refine bd_fm h (fun τ9 g9 => (f_L_X12_firstRanking g9).mo (by decide) (by decide)) (fun σ10 h => ?_)
    refine ite_fm h (fun h => ?_) (fun h => ?_)
    · refine f_L_X12_goesFromPair_83 (fun σ12 h => ?_) _ _ _ h
      exact fm_V h
    · refine f_L_X12_goesFromPair_83 (fun σ13 h => ?_) _ _ _ h
      exact fm_V h
set_option maxRecDepth 8000 in
theorem f_L_X12_lays_43 {F : Nat} {x1 : Int32} {z : (Int32 × sS)} {kx : sS → Option (Int32 × sS)} (hx : ∀  (σ : sS), kx σ = some z → fm [123, 124, 125, 126, 127, 128, 129, 130, 131, 136] [32, 33, 34, 35] σ z.2) : ∀ (n : Nat) (x2 : Int32) (σ : sS), L_X12_lays_43 F x1 kx n x2 σ = some z → fm [123, 124, 125, 126, 127, 128, 129, 130, 131, 136] [32, 33, 34, 35] σ z.2 := by
  intro n
  induction n with
  | zero =>
    intro x2 σ h
    rw [L_X12_lays_43] at h
    cases h
  | succ n ih =>
    intro x2 σ h
    rw [L_X12_lays_43] at h
    refine ite_fm h (fun h => ?_) (fun h => ?_)
    · exact hx _ h
    · replace h := (grd_at h).2
      refine bnd_fm h (fm.uI (Or.inl (by decide))) (fun σ8 h => ?_)
      exact ih _ _ h
set_option maxRecDepth 8000 in
theorem f_L_X12_lays_98 {F : Nat} {x1 : Int32} {x3 : Int32} {z : (Int32 × sS)} {kx : sS → Option (Int32 × sS)} (hx : ∀  (σ : sS), kx σ = some z → fm [123, 124, 125, 126, 127, 128, 129, 130, 131, 136] [32, 33, 34, 35] σ z.2) : ∀ (n : Nat) (x4 : Int32) (σ : sS), L_X12_lays_98 F x1 x3 kx n x4 σ = some z → fm [123, 124, 125, 126, 127, 128, 129, 130, 131, 136] [32, 33, 34, 35] σ z.2 := by
  intro n
  induction n with
  | zero =>
    intro x4 σ h
    rw [L_X12_lays_98] at h
    cases h
  | succ n ih =>
    intro x4 σ h
    rw [L_X12_lays_98] at h
    refine ite_fm h (fun h => ?_) (fun h => ?_)
    · exact hx _ h
    · replace h := (grd_at h).2
      refine bnd_fm h (fm.uI (Or.inl (by decide))) (fun σ15 h => ?_)
      refine ite_fm h (fun h => ?_) (fun h => ?_)
      · exact ih _ _ h
      · refine ite_fm h (fun h => ?_) (fun h => ?_)
        · replace h := (grd_at h).2
          refine bd_fv h (fun rq20 h => ?_)
          replace h := (grd_at h).2
          refine ite_fm h (fun h => ?_) (fun h => ?_)
          · refine bd_fm h (fun τ9 g9 => (f_L_X12_goesFromSet g9).mo (by decide) (by decide)) (fun σ26 h => ?_)
            exact ih _ _ h
          · refine bd_fm h (fun τ9 g9 => (f_L_X12_goesFromPair g9).mo (by decide) (by decide)) (fun σ24 h => ?_)
            exact ih _ _ h
        · exact ih _ _ h
set_option maxRecDepth 8000 in
theorem f_L_X12_lays_80 {F : Nat} {x1 : Int32} {z : (Int32 × sS)} {kx : sS → Option (Int32 × sS)} (hx : ∀  (σ : sS), kx σ = some z → fm [123, 124, 125, 126, 127, 128, 129, 130, 131, 136] [32, 33, 34, 35] σ z.2) : ∀ (n : Nat) (x3 : Int32) (σ : sS), L_X12_lays_80 F x1 kx n x3 σ = some z → fm [123, 124, 125, 126, 127, 128, 129, 130, 131, 136] [32, 33, 34, 35] σ z.2 := by
  intro n
  induction n with
  | zero =>
    intro x3 σ h
    rw [L_X12_lays_80] at h
    cases h
  | succ n ih =>
    intro x3 σ h
    rw [L_X12_lays_80] at h
    refine ite_fm h (fun h => ?_) (fun h => ?_)
    · exact hx _ h
    · refine ite_fm h (fun h => ?_) (fun h => ?_)
      · refine f_L_X12_lays_98 (fun σ13 h => ?_) _ _ _ h
        exact ih _ _ h
      · exact hx _ h
set_option maxRecDepth 8000 in
theorem f_L_X12_lays_196 {F : Nat} {z : (Int32 × sS)}  (σ : sS) (h : L_X12_lays_196 F σ = some z) : fm [123, 124, 125, 126, 127, 128, 129, 130, 131, 136] [32, 33, 34, 35] σ z.2 := by
  unfold L_X12_lays_196 at h
  replace h := (grd_at h).2
  refine bnd_fm h (fm.uI (Or.inl (by decide))) (fun σ13 h => ?_)
  refine ite_fm h (fun h => ?_) (fun h => ?_)
  · exact fm_I h
  · exact fm_I h
set_option maxRecDepth 8000 in
theorem f_L_X12_lays {F : Nat} {x1 : Int32} {σ : sS} {z : (Int32 × sS)} (h : L_X12_lays F x1 σ = some z) : fm [123, 124, 125, 126, 127, 128, 129, 130, 131, 136] [32, 33, 34, 35] σ z.2 := by
  unfold L_X12_lays at h
  refine ite_fm h (fun h => ?_) (fun h => ?_)
  · refine ite_fm h (fun h => ?_) (fun h => ?_)
    · exact fm_I h
    · exact fm_I h
  · refine bnd_fm h (fm.uI (Or.inr ⟨rfl, by decide⟩)) (fun σ2 h => ?_)
    refine bnd_fm h (fm.uI (Or.inr ⟨rfl, by decide⟩)) (fun σ3 h => ?_)
    refine bnd_fm h (fm.uI (Or.inr ⟨rfl, by decide⟩)) (fun σ4 h => ?_)
    refine bnd_fm h (fm.uI (Or.inr ⟨rfl, by decide⟩)) (fun σ5 h => ?_)
    refine f_L_X12_lays_43 (fun σ6 h => ?_) _ _ _ h
    replace h := (grd_at h).2
    refine bd2_fm h (fun r9 τ9 g9 => (f_L_X12_nodeOf g9).mo (by decide) (by decide)) (fun rq9 σ10 h => ?_)
    refine f_L_X12_lays_80 (fun σ11 h => ?_) _ _ _ h
    exact f_L_X12_lays_196 _ h
set_option maxRecDepth 8000 in
theorem f_L_X12_complement {F : Nat} {x1 : Int32} {σ : sS} {z : (Int32 × sS)} (h : L_X12_complement F x1 σ = some z) : fm [123, 124, 125, 126, 127, 128, 129, 130, 131, 136] [0, 1, 2, 32, 33, 34, 35] σ z.2 := by
  unfold L_X12_complement at h
  refine bnd_fm h (fm.uI (Or.inr ⟨rfl, by decide⟩)) (fun σ1 h => ?_)
  refine bd_fv h (fun rq3 h => ?_)
  refine ite_fm h (fun h => ?_) (fun h => ?_)
  · refine bd2_fm h (fun r9 τ9 g9 => (f_L_X12_refused g9).mo (by decide) (by decide)) (fun rq16 σ17 h => ?_)
    exact fm_I h
  · refine bd2_fm h (fun r9 τ9 g9 => (f_L_X12_lays g9).mo (by decide) (by decide)) (fun rq6 σ7 h => ?_)
    refine ite_fm h (fun h => ?_) (fun h => ?_)
    · refine bd2_fm h (fun r9 τ9 g9 => (f_L_X12_refused g9).mo (by decide) (by decide)) (fun rq10 σ11 h => ?_)
      exact fm_I h
    · refine bd2_fm h (fun r9 τ9 g9 => (f_L_X12_good g9).mo (by decide) (by decide)) (fun rq13 σ14 h => ?_)
      exact fm_I h
