/-! frames of the reference, 1 -/
set_option maxRecDepth 8000 in
theorem f_L_X12_whyNot {F : Nat} {x1 : Int32} {x2 : Int32} {σ : sS} {z : (Int32 × sS)} (h : L_X12_whyNot F x1 x2 σ = some z) : fm [123, 124, 125, 126, 127, 128, 129, 130, 131, 136] [32, 33, 34, 35] σ z.2 := by
  unfold L_X12_whyNot at h
  refine bd2_fm h (fun r9 τ9 g9 => (f_L_X12_lays g9).mo (by decide) (by decide)) (fun rq2 σ3 h => ?_)
  refine ite_fm h (fun h => ?_) (fun h => ?_)
  · exact fm_I h
  · refine ite_fm h (fun h => ?_) (fun h => ?_)
    · exact fm_I h
    · exact fm_I h
set_option maxRecDepth 8000 in
theorem f_L_X12_node {F : Nat} {x1 : Int32} {x2 : Int32} {x3 : Int32} {σ : sS} {z : (Int32 × sS)} (h : L_X12_node F x1 x2 x3 σ = some z) : fm [123, 124, 125, 126, 127, 128, 129, 130, 131, 136] [0, 1, 2, 32, 33, 34, 35] σ z.2 := by
  unfold L_X12_node at h
  refine bnd_fm h (fm.uI (Or.inr ⟨rfl, by decide⟩)) (fun σ1 h => ?_)
  refine bd_fv h (fun rq3 h => ?_)
  refine ite_fm h (fun h => ?_) (fun h => ?_)
  · refine bd2_fm h (fun r9 τ9 g9 => (f_L_X12_refused g9).mo (by decide) (by decide)) (fun rq6 σ7 h => ?_)
    exact fm_I h
  · refine ite_fm h (fun h => ?_) (fun h => ?_)
    · refine bd2_fm h (fun r9 τ9 g9 => (f_L_X12_refused g9).mo (by decide) (by decide)) (fun rq10 σ11 h => ?_)
      exact fm_I h
    · refine ite_fm h (fun h => ?_) (fun h => ?_)
      · refine bd2_fm h (fun r9 τ9 g9 => (f_L_X12_refused g9).mo (by decide) (by decide)) (fun rq53 σ54 h => ?_)
        exact fm_I h
      · refine bd2_fm h (fun r9 τ9 g9 => (f_L_X12_whyNot g9).mo (by decide) (by decide)) (fun rq14 σ15 h => ?_)
        refine ite_fm h (fun h => ?_) (fun h => ?_)
        · refine ite_fm h (fun h => ?_) (fun h => ?_)
          · replace h := (grd_at h).2
            refine bd2_fm h (fun r9 τ9 g9 => (f_L_X12_good g9).mo (by decide) (by decide)) (fun rq20 σ21 h => ?_)
            exact fm_I h
          refine ite_fm h (fun h => ?_) (fun h => ?_)
          · replace h := (grd_at h).2
            refine bd2_fm h (fun r9 τ9 g9 => (f_L_X12_good g9).mo (by decide) (by decide)) (fun rq24 σ25 h => ?_)
            exact fm_I h
          refine ite_fm h (fun h => ?_) (fun h => ?_)
          · replace h := (grd_at h).2
            refine bd2_fm h (fun r9 τ9 g9 => (f_L_X12_good g9).mo (by decide) (by decide)) (fun rq28 σ29 h => ?_)
            exact fm_I h
          refine ite_fm h (fun h => ?_) (fun h => ?_)
          · refine bd_fv h (fun rq31 h => ?_)
            refine ite_fm h (fun h => ?_) (fun h => ?_)
            · refine bd2_fm h (fun r9 τ9 g9 => (f_L_X12_good g9).mo (by decide) (by decide)) (fun rq34 σ35 h => ?_)
              exact fm_I h
            · refine bd2_fm h (fun r9 τ9 g9 => (f_L_X12_good g9).mo (by decide) (by decide)) (fun rq37 σ38 h => ?_)
              exact fm_I h
          refine ite_fm h (fun h => ?_) (fun h => ?_)
          · replace h := (grd_at h).2
            replace h := (grd_at h).2
            refine bd2_fm h (fun r9 τ9 g9 => (f_L_X12_good g9).mo (by decide) (by decide)) (fun rq42 σ43 h => ?_)
            exact fm_I h
          refine bd_fv h (fun rq45 h => ?_)
          refine bd2_fm h (fun r9 τ9 g9 => (f_L_X12_good g9).mo (by decide) (by decide)) (fun rq47 σ48 h => ?_)
          exact fm_I h
        · refine bd2_fm h (fun r9 τ9 g9 => (f_L_X12_refused g9).mo (by decide) (by decide)) (fun rq50 σ51 h => ?_)
          exact fm_I h
set_option maxRecDepth 8000 in
theorem f_L_X12_rank {F : Nat} {x1 : Int32} {x2 : Int32} {x3 : Int32} {σ : sS} {z : (Int32 × sS)} (h : L_X12_rank F x1 x2 x3 σ = some z) : fm [123, 124, 125, 126, 127, 128, 129, 130, 131, 136] [0, 1, 2, 32, 33, 34, 35] σ z.2 := by
  unfold L_X12_rank at h
  refine bnd_fm h (fm.uI (Or.inr ⟨rfl, by decide⟩)) (fun σ1 h => ?_)
  refine bd_fv h (fun rq3 h => ?_)
  refine ite_fm h (fun h => ?_) (fun h => ?_)
  · refine bd2_fm h (fun r9 τ9 g9 => (f_L_X12_refused g9).mo (by decide) (by decide)) (fun rq6 σ7 h => ?_)
    exact fm_I h
  · refine ite_fm h (fun h => ?_) (fun h => ?_)
    · refine bd2_fm h (fun r9 τ9 g9 => (f_L_X12_whyNot g9).mo (by decide) (by decide)) (fun rq10 σ11 h => ?_)
      refine ite_fm h (fun h => ?_) (fun h => ?_)
      · replace h := (grd_at h).2
        refine ite_fm h (fun h => ?_) (fun h => ?_)
        · refine bd2_fm h (fun r9 τ9 g9 => (f_L_X12_good g9).mo (by decide) (by decide)) (fun rq16 σ17 h => ?_)
          exact fm_I h
        · replace h := (grd_at h).2
          refine ite_fm h (fun h => ?_) (fun h => ?_)
          · refine bd2_fm h (fun r9 τ9 g9 => (f_L_X12_good g9).mo (by decide) (by decide)) (fun rq25 σ26 h => ?_)
            exact fm_I h
          · replace h := (grd_at h).2
            refine bd2_fm h (fun r9 τ9 g9 => (f_L_X12_good g9).mo (by decide) (by decide)) (fun rq22 σ23 h => ?_)
            exact fm_I h
      · refine bd2_fm h (fun r9 τ9 g9 => (f_L_X12_refused g9).mo (by decide) (by decide)) (fun rq28 σ29 h => ?_)
        exact fm_I h
    · refine bd2_fm h (fun r9 τ9 g9 => (f_L_X12_refused g9).mo (by decide) (by decide)) (fun rq31 σ32 h => ?_)
      exact fm_I h
set_option maxRecDepth 8000 in
theorem f_L_X12_next {F : Nat} {x1 : Int32} {x2 : Int32} {x3 : Int32} {x4 : Int32} {σ : sS} {z : (Int32 × sS)} (h : L_X12_next F x1 x2 x3 x4 σ = some z) : fm [123, 124, 125, 126, 127, 128, 129, 130, 131, 136] [0, 1, 2, 32, 33, 34, 35] σ z.2 := by
  unfold L_X12_next at h
  refine bnd_fm h (fm.uI (Or.inr ⟨rfl, by decide⟩)) (fun σ1 h => ?_)
  refine bd_fv h (fun rq3 h => ?_)
  refine ite_fm h (fun h => ?_) (fun h => ?_)
  · refine bd2_fm h (fun r9 τ9 g9 => (f_L_X12_refused g9).mo (by decide) (by decide)) (fun rq6 σ7 h => ?_)
    exact fm_I h
  · refine ite_fm h (fun h => ?_) (fun h => ?_)
    · refine bd2_fm h (fun r9 τ9 g9 => (f_L_X12_refused g9).mo (by decide) (by decide)) (fun rq10 σ11 h => ?_)
      exact fm_I h
    · refine bd_fv h (fun rq13 h => ?_)
      refine ite_fm h (fun h => ?_) (fun h => ?_)
      · refine bd2_fm h (fun r9 τ9 g9 => (f_L_X12_refused g9).mo (by decide) (by decide)) (fun rq16 σ17 h => ?_)
        exact fm_I h
      · refine ite_fm h (fun h => ?_) (fun h => ?_)
        · refine bd2_fm h (fun r9 τ9 g9 => (f_L_X12_whyNot g9).mo (by decide) (by decide)) (fun rq20 σ21 h => ?_)
          refine ite_fm h (fun h => ?_) (fun h => ?_)
          · refine bd_fv h (fun rq24 h => ?_)
            refine ite_fm h (fun h => ?_) (fun h => ?_)
            · refine bd2_fm h (fun r9 τ9 g9 => (f_L_X12_good g9).mo (by decide) (by decide)) (fun rq27 σ28 h => ?_)
              exact fm_I h
            · replace h := (grd_at h).2
              replace h := (grd_at h).2
              refine bd2_fm h (fun r9 τ9 g9 => (f_L_X12_good g9).mo (by decide) (by decide)) (fun rq32 σ33 h => ?_)
              exact fm_I h
          · refine bd2_fm h (fun r9 τ9 g9 => (f_L_X12_refused g9).mo (by decide) (by decide)) (fun rq35 σ36 h => ?_)
            exact fm_I h
        · refine bd2_fm h (fun r9 τ9 g9 => (f_L_X12_refused g9).mo (by decide) (by decide)) (fun rq38 σ39 h => ?_)
          exact fm_I h
set_option maxRecDepth 8000 in
theorem f_L_X12_nodes_47 {F : Nat} {x2 : Int32} {σ : sS} {z : (Int32 × sS)} {kx : Int32 → Option (Int32 × sS)} (hx : ∀ (x3 : Int32), kx x3 = some z → fm [123, 124, 125, 126, 127, 128, 129, 130, 131, 136] [0, 1, 2, 32, 33, 34, 35] σ z.2) : ∀ (n : Nat) (x3 : Int32) (x4 : Int32), L_X12_nodes_47 F x2 σ kx n x3 x4 = some z → fm [123, 124, 125, 126, 127, 128, 129, 130, 131, 136] [0, 1, 2, 32, 33, 34, 35] σ z.2 := by
  intro n
  induction n with
  | zero =>
    intro x3 x4 h
    rw [L_X12_nodes_47] at h
    cases h
  | succ n ih =>
    intro x3 x4 h
    rw [L_X12_nodes_47] at h
    refine ite_fm h (fun h => ?_) (fun h => ?_)
    · exact hx _ h
    · replace h := (grd_at h).2
      refine ite_fm h (fun h => ?_) (fun h => ?_)
      · refine ite_fm h (fun h => ?_) (fun h => ?_)
        · refine bnd_fv h (fun yq37 h => ?_)
          exact ih _ _ h
        · refine ite_fm h (fun h => ?_) (fun h => ?_)
          · refine bd_fv h (fun rq33 h => ?_)
            refine ite_fm h (fun h => ?_) (fun h => ?_)
            · refine bnd_fv h (fun yq35 h => ?_)
              exact ih _ _ h
            · refine bnd_fv h (fun yq36 h => ?_)
              exact ih _ _ h
          · refine bnd_fv h (fun yq31 h => ?_)
            exact ih _ _ h
      · refine ite_fm h (fun h => ?_) (fun h => ?_)
        · refine bnd_fv h (fun yq28 h => ?_)
          exact ih _ _ h
        · refine ite_fm h (fun h => ?_) (fun h => ?_)
          · refine bd_fv h (fun rq24 h => ?_)
            refine ite_fm h (fun h => ?_) (fun h => ?_)
            · refine bnd_fv h (fun yq26 h => ?_)
              exact ih _ _ h
            · refine bnd_fv h (fun yq27 h => ?_)
              exact ih _ _ h
          · refine bd_fv h (fun rq19 h => ?_)
            refine ite_fm h (fun h => ?_) (fun h => ?_)
            · refine bnd_fv h (fun yq22 h => ?_)
              exact ih _ _ h
            · refine bnd_fv h (fun yq21 h => ?_)
              exact ih _ _ h
set_option maxRecDepth 8000 in
theorem f_L_X12_nodes {F : Nat} {x1 : Int32} {x2 : Int32} {σ : sS} {z : (Int32 × sS)} (h : L_X12_nodes F x1 x2 σ = some z) : fm [123, 124, 125, 126, 127, 128, 129, 130, 131, 136] [0, 1, 2, 32, 33, 34, 35] σ z.2 := by
  unfold L_X12_nodes at h
  refine bnd_fm h (fm.uI (Or.inr ⟨rfl, by decide⟩)) (fun σ1 h => ?_)
  refine bd_fv h (fun rq3 h => ?_)
  refine ite_fm h (fun h => ?_) (fun h => ?_)
  · refine bd2_fm h (fun r9 τ9 g9 => (f_L_X12_refused g9).mo (by decide) (by decide)) (fun rq6 σ7 h => ?_)
    exact fm_I h
  · refine ite_fm h (fun h => ?_) (fun h => ?_)
    · refine bd2_fm h (fun r9 τ9 g9 => (f_L_X12_refused g9).mo (by decide) (by decide)) (fun rq21 σ22 h => ?_)
      exact fm_I h
    · refine bd2_fm h (fun r9 τ9 g9 => (f_L_X12_lays g9).mo (by decide) (by decide)) (fun rq10 σ11 h => ?_)
      refine ite_fm h (fun h => ?_) (fun h => ?_)
      · refine bd2_fm h (fun r9 τ9 g9 => (f_L_X12_refused g9).mo (by decide) (by decide)) (fun rq18 σ19 h => ?_)
        exact fm_I h
      · refine f_L_X12_nodes_47 (fun yq13 h => ?_) _ _ _ h
        refine bd2_fm h (fun r9 τ9 g9 => (f_L_X12_good g9).mo (by decide) (by decide)) (fun rq15 σ16 h => ?_)
        exact fm_I h
set_option maxRecDepth 8000 in
theorem f_L_X12_three {x1 : Int32} {x2 : Int32} {x3 : Int32} {σ : sS} {z : (Int32 × sS)} (h : L_X12_three x1 x2 x3 σ = some z) : fm [143, 144, 145, 146] [47, 48] σ z.2 := by
  unfold L_X12_three at h
  refine bnd_fv h (fun yq1 h => ?_)
  replace h := (grd_at h).2
  refine ite_fm h (fun h => ?_) (fun h => ?_)
  · refine ite_fm h (fun h => ?_) (fun h => ?_)
    · refine bnd_fm h (fm.uI (Or.inr ⟨rfl, by decide⟩)) (fun σ14 h => ?_)
      exact fm_I h
    · replace h := (grd_at h).2
      refine bnd_fm h (fm.uI (Or.inl (by decide))) (fun σ6 h => ?_)
      replace h := (grd_at h).2
      refine bnd_fm h (fm.uI (Or.inl (by decide))) (fun σ8 h => ?_)
      replace h := (grd_at h).2
      refine bnd_fm h (fm.uI (Or.inl (by decide))) (fun σ10 h => ?_)
      replace h := (grd_at h).2
      refine bnd_fm h (fm.uI (Or.inl (by decide))) (fun σ12 h => ?_)
      refine bnd_fm h (fm.uI (Or.inr ⟨rfl, by decide⟩)) (fun σ13 h => ?_)
      exact fm_I h
  · replace h := (grd_at h).2
    exact fm_I h
set_option maxRecDepth 8000 in
theorem f_L_X12_goesBy {x1 : Int32} {x2 : Int32} {σ : sS} {z : (Int32 × sS)} (h : L_X12_goesBy x1 x2 σ = some z) : fm [143, 144, 145, 146] [47, 48] σ z.2 := by
  unfold L_X12_goesBy at h
  refine bnd_fv h (fun yq1 h => ?_)
  refine bnd_fv h (fun yq2 h => ?_)
  refine bnd_fv h (fun yq3 h => ?_)
  refine bnd_fv h (fun yq5 h => ?_)
  refine ite_fm h (fun h => ?_) (fun h => ?_)
  · exact fm_I h
  refine ite_fm h (fun h => ?_) (fun h => ?_)
  · refine bd_fv h (fun rq7 h => ?_)
    exact fm_I h
  refine ite_fm h (fun h => ?_) (fun h => ?_)
  · replace h := (grd_at h).2
    refine ite_fm h (fun h => ?_) (fun h => ?_)
    · replace h := (grd_at h).2
      replace h := (grd_at h).2
      refine bnd_fv h (fun yq28 h => ?_)
      replace h := (grd_at h).2
      refine bd_fv h (fun rq31 h => ?_)
      refine bd2_fm h (fun r9 τ9 g9 => (f_L_X12_three g9).mo (by decide) (by decide)) (fun rq33 σ34 h => ?_)
      exact fm_I h
    · replace h := (grd_at h).2
      refine bd_fv h (fun rq12 h => ?_)
      refine ite_fm h (fun h => ?_) (fun h => ?_)
      · replace h := (grd_at h).2
        refine bd_fv h (fun rq16 h => ?_)
        refine bd2_fm h (fun r9 τ9 g9 => (f_L_X12_three g9).mo (by decide) (by decide)) (fun rq18 σ19 h => ?_)
        exact fm_I h
      · replace h := (grd_at h).2
        refine bd_fv h (fun rq22 h => ?_)
        refine bd2_fm h (fun r9 τ9 g9 => (f_L_X12_three g9).mo (by decide) (by decide)) (fun rq24 σ25 h => ?_)
        exact fm_I h
  refine ite_fm h (fun h => ?_) (fun h => ?_)
  · replace h := (grd_at h).2
    exact fm_I h
  refine bd_fv h (fun rq37 h => ?_)
  replace h := (grd_at h).2
  exact fm_I h
set_option maxRecDepth 8000 in
theorem f_L_X12_meetsNone_7 {F : Nat} {z : sS} {kx : sS → Option sS} (hx : ∀  (σ : sS), kx σ = some z → fm [152] [53] σ z) : ∀ (n : Nat) (x1 : Int32) (σ : sS), L_X12_meetsNone_7 F kx n x1 σ = some z → fm [152] [53] σ z := by
  intro n
  induction n with
  | zero =>
    intro x1 σ h
    rw [L_X12_meetsNone_7] at h
    cases h
  | succ n ih =>
    intro x1 σ h
    rw [L_X12_meetsNone_7] at h
    refine ite_fm h (fun h => ?_) (fun h => ?_)
    · exact hx _ h
    · replace h := (grd_at h).2
      refine bnd_fm h (fm.uI (Or.inl (by decide))) (fun σ4 h => ?_)
      exact ih _ _ h
set_option maxRecDepth 8000 in
theorem f_L_X12_meetsNone {F : Nat}  {σ : sS} {z : sS} (h : L_X12_meetsNone F σ = some z) : fm [152] [53] σ z := by
  unfold L_X12_meetsNone at h
  refine bnd_fm h (fm.uI (Or.inr ⟨rfl, by decide⟩)) (fun σ1 h => ?_)
  refine f_L_X12_meetsNone_7 (fun σ2 h => ?_) _ _ _ h
  exact fm_V h
set_option maxRecDepth 8000 in
theorem f_L_X12_meets {x1 : Int32} {x2 : Int32} {x3 : Int32} {σ : sS} {z : sS} (h : L_X12_meets x1 x2 x3 σ = some z) : fm [149, 150, 151, 152] [53] σ z := by
  unfold L_X12_meets at h
  replace h := (grd_at h).2
  refine ite_fm h (fun h => ?_) (fun h => ?_)
  · replace h := (grd_at h).2
    refine bnd_fm h (fm.uI (Or.inl (by decide))) (fun σ4 h => ?_)
    replace h := (grd_at h).2
    refine bnd_fm h (fm.uI (Or.inl (by decide))) (fun σ6 h => ?_)
    replace h := (grd_at h).2
    refine bnd_fm h (fm.uI (Or.inl (by decide))) (fun σ8 h => ?_)
    replace h := (grd_at h).2
    refine bnd_fm h (fm.uI (Or.inl (by decide))) (fun σ10 h => ?_)
    refine bnd_fm h (fm.uI (Or.inr ⟨rfl, by decide⟩)) (fun σ11 h => ?_)
    exact fm_V h
  · exact fm_V h
set_option maxRecDepth 8000 in
theorem f_L_X12_meetsAll_24 {F : Nat} {x1 : Int32} {x2 : Int32} {z : sS} {kx : sS → Option sS} (hx : ∀  (σ : sS), kx σ = some z → fm [143, 144, 145, 146, 149, 150, 151, 152] [47, 48, 53] σ z) : ∀ (n : Nat) (x3 : Int32) (σ : sS), L_X12_meetsAll_24 F x1 x2 kx n x3 σ = some z → fm [143, 144, 145, 146, 149, 150, 151, 152] [47, 48, 53] σ z := by
  intro n
  induction n with
  | zero =>
    intro x3 σ h
    rw [L_X12_meetsAll_24] at h
    cases h
  | succ n ih =>
    intro x3 σ h
    rw [L_X12_meetsAll_24] at h
    refine ite_fm h (fun h => ?_) (fun h => ?_)
    · exact hx _ h
    · refine bd2_fm h (fun r9 τ9 g9 => (f_L_X12_goesBy g9).mo (by decide) (by decide)) (fun rq8 σ9 h => ?_)
      refine ite_fm h (fun h => ?_) (fun h => ?_)
      · exact fm_V h
      · refine bd_fm h (fun τ9 g9 => (f_L_X12_meets g9).mo (by decide) (by decide)) (fun σ12 h => ?_)
        refine bd_fv h (fun rq14 h => ?_)
        exact ih _ _ h
set_option maxRecDepth 8000 in
theorem f_L_X12_meetsAll_2 {F : Nat} {z : sS} {kx : sS → Option sS} (hx : ∀  (σ : sS), kx σ = some z → fm [143, 144, 145, 146, 149, 150, 151, 152] [47, 48, 53] σ z) : ∀ (n : Nat) (x1 : Int32) (σ : sS), L_X12_meetsAll_2 F kx n x1 σ = some z → fm [143, 144, 145, 146, 149, 150, 151, 152] [47, 48, 53] σ z := by
  intro n
  induction n with
  | zero =>
    intro x1 σ h
    rw [L_X12_meetsAll_2] at h
    cases h
  | succ n ih =>
    intro x1 σ h
    rw [L_X12_meetsAll_2] at h
    refine ite_fm h (fun h => ?_) (fun h => ?_)
    · exact hx _ h
    · replace h := (grd_at h).2
      refine bnd_fv h (fun yq3 h => ?_)
      refine bd_fv h (fun rq5 h => ?_)
      refine f_L_X12_meetsAll_24 (fun σ6 h => ?_) _ _ _ h
      exact ih _ _ h
set_option maxRecDepth 8000 in
theorem f_L_X12_meetsAll {F : Nat}  {σ : sS} {z : sS} (h : L_X12_meetsAll F σ = some z) : fm [143, 144, 145, 146, 149, 150, 151, 152] [47, 48, 53] σ z := by
  unfold L_X12_meetsAll at h
  refine f_L_X12_meetsAll_2 (fun σ1 h => ?_) _ _ _ h
  exact fm_V h
set_option maxRecDepth 8000 in
theorem f_L_X12_enters {x1 : Int32} {σ : sS} {z : sS} (h : L_X12_enters x1 σ = some z) : fm [154, 155, 156, 157, 158, 159] [61, 62, 63] σ z := by
  unfold L_X12_enters at h
  replace h := (grd_at h).2
  refine bnd_fm h (fm.uI (Or.inl (by decide))) (fun σ2 h => ?_)
  replace h := (grd_at h).2
  refine bnd_fm h (fm.uI (Or.inl (by decide))) (fun σ4 h => ?_)
  refine bnd_fm h (fm.uI (Or.inr ⟨rfl, by decide⟩)) (fun σ5 h => ?_)
  replace h := (grd_at h).2
  refine bnd_fm h (fm.uI (Or.inl (by decide))) (fun σ7 h => ?_)
  refine bnd_fm h (fm.uI (Or.inr ⟨rfl, by decide⟩)) (fun σ8 h => ?_)
  replace h := (grd_at h).2
  refine bnd_fm h (fm.uI (Or.inl (by decide))) (fun σ10 h => ?_)
  replace h := (grd_at h).2
  refine bnd_fm h (fm.uI (Or.inl (by decide))) (fun σ12 h => ?_)
  replace h := (grd_at h).2
  refine bnd_fm h (fm.uI (Or.inl (by decide))) (fun σ14 h => ?_)
  refine bnd_fm h (fm.uI (Or.inr ⟨rfl, by decide⟩)) (fun σ15 h => ?_)
  exact fm_V h
set_option maxRecDepth 8000 in
theorem f_L_X12_leaves_39 {F : Nat} {x1 : Int32} {z : sS} {kx : Int32 → sS → Option sS} (hx : ∀ (x3 : Int32) (σ : sS), kx x3 σ = some z → fm [143, 144, 145, 146, 159, 160] [47, 48, 62] σ z) : ∀ (n : Nat) (x3 : Int32) (x4 : Int32) (σ : sS), L_X12_leaves_39 F x1 kx n x3 x4 σ = some z → fm [143, 144, 145, 146, 159, 160] [47, 48, 62] σ z := by
  intro n
  induction n with
  | zero =>
    intro x3 x4 σ h
    rw [L_X12_leaves_39] at h
    cases h
  | succ n ih =>
    intro x3 x4 σ h
    rw [L_X12_leaves_39] at h
    refine ite_fm h (fun h => ?_) (fun h => ?_)
    · exact hx _ _ h
    · refine ite_fm h (fun h => ?_) (fun h => ?_)
      · refine bd2_fm h (fun r9 τ9 g9 => (f_L_X12_goesBy g9).mo (by decide) (by decide)) (fun rq8 σ9 h => ?_)
        refine ite_fm h (fun h => ?_) (fun h => ?_)
        · refine bd_fv h (fun rq14 h => ?_)
          exact ih _ _ _ h
        · refine bd_fv h (fun rq12 h => ?_)
          exact ih _ _ _ h
      · exact hx _ _ h
set_option maxRecDepth 8000 in
theorem f_L_X12_leaves_83 {F : Nat} {x1 : Int32} {x3 : Int32} {z : sS} {kx : sS → Option sS} (hx : ∀  (σ : sS), kx σ = some z → fm [143, 144, 145, 146, 159, 160] [47, 48, 62] σ z) : ∀ (n : Nat) (x4 : Int32) (σ : sS), L_X12_leaves_83 F x1 x3 kx n x4 σ = some z → fm [143, 144, 145, 146, 159, 160] [47, 48, 62] σ z := by
  intro n
  induction n with
  | zero =>
    intro x4 σ h
    rw [L_X12_leaves_83] at h
    cases h
  | succ n ih =>
    intro x4 σ h
    rw [L_X12_leaves_83] at h
    refine ite_fm h (fun h => ?_) (fun h => ?_)
    · exact hx _ h
    · refine bnd_fm h (fm.uI (Or.inr ⟨rfl, by decide⟩)) (fun σ8 h => ?_)
      replace h := (grd_at h).2
      refine bnd_fv h (fun yq10 h => ?_)
      replace h := (grd_at h).2
      refine bnd_fm h (fm.uI (Or.inl (by decide))) (fun σ12 h => ?_)
      replace h := (grd_at h).2
      replace h := (grd_at h).2
      refine bnd_fm h (fm.uI (Or.inl (by decide))) (fun σ15 h => ?_)
      refine ite_fm h (fun h => ?_) (fun h => ?_)
      · exact ih _ _ h
      · exact ih _ _ h
set_option maxRecDepth 8000 in
theorem f_L_X12_leaves {F : Nat} {x1 : Int32} {σ : sS} {z : sS} (h : L_X12_leaves F x1 σ = some z) : fm [143, 144, 145, 146, 159, 160] [47, 48, 62] σ z := by
  unfold L_X12_leaves at h
  replace h := (grd_at h).2
  refine ite_fm h (fun h => ?_) (fun h => ?_)
  · refine bd_fv h (fun rq9 h => ?_)
    refine f_L_X12_leaves_39 (fun yq10 σ11 h => ?_) _ _ _ _ h
    refine f_L_X12_leaves_83 (fun σ12 h => ?_) _ _ _ h
    exact fm_V h
  · refine bd_fv h (fun rq4 h => ?_)
    refine f_L_X12_leaves_39 (fun yq5 σ6 h => ?_) _ _ _ _ h
    refine f_L_X12_leaves_83 (fun σ7 h => ?_) _ _ _ h
    exact fm_V h
set_option maxRecDepth 8000 in
theorem f_L_X12_turnsFrom_170 {F : Nat} {z : sS} {kh : sS → Option sS} (hh : ∀  (σ : sS), kh σ = some z → fm [143, 144, 145, 146, 154, 155, 156, 157, 158, 159, 160] [47, 48, 61, 62, 63] σ z) {kx : sS → Option sS} (hx : ∀  (σ : sS), kx σ = some z → fm [143, 144, 145, 146, 154, 155, 156, 157, 158, 159, 160] [47, 48, 61, 62, 63] σ z) (x2 : Int32) (σ : sS) (h : L_X12_turnsFrom_170 F kh kx x2 σ = some z) : fm [143, 144, 145, 146, 154, 155, 156, 157, 158, 159, 160] [47, 48, 61, 62, 63] σ z := by
  unfold L_X12_turnsFrom_170 at h
  refine ite_fm h (fun h => ?_) (fun h => ?_)
  · exact hh _ h
  · replace h := (grd_at h).2
    replace h := (grd_at h).2
    replace h := (grd_at h).2
    refine ite_fm h (fun h => ?_) (fun h => ?_)
    · exact hh _ h
    · replace h := (grd_at h).2
      replace h := (grd_at h).2
      replace h := (grd_at h).2
      refine bnd_fm h (fm.uI (Or.inl (by decide))) (fun σ24 h => ?_)
      exact hh _ h
set_option maxRecDepth 8000 in
theorem f_L_X12_turnsFrom_15 {F : Nat} {z : sS} {kx : sS → Option sS} (hx : ∀  (σ : sS), kx σ = some z → fm [143, 144, 145, 146, 154, 155, 156, 157, 158, 159, 160] [47, 48, 61, 62, 63] σ z) : ∀ (n : Nat)  (σ : sS), L_X12_turnsFrom_15 F kx n σ = some z → fm [143, 144, 145, 146, 154, 155, 156, 157, 158, 159, 160] [47, 48, 61, 62, 63] σ z := by
  intro n
  induction n with
  | zero =>
    intro σ h
    rw [L_X12_turnsFrom_15] at h
    cases h
  | succ n ih =>
    intro σ h
    rw [L_X12_turnsFrom_15] at h
    refine ite_fm h (fun h => ?_) (fun h => ?_)
    · exact hx _ h
    · replace h := (grd_at h).2
      refine bnd_fv h (fun yq7 h => ?_)
      replace h := (grd_at h).2
      refine bd_fv h (fun rq10 h => ?_)
      refine ite_fm h (fun h => ?_) (fun h => ?_)
      · refine bnd_fm h (fm.uI (Or.inr ⟨rfl, by decide⟩)) (fun σ12 h => ?_)
        replace h := (grd_at h).2
        replace h := (grd_at h).2
        refine ite_fm h (fun h => ?_) (fun h => ?_)
        · refine bd_fm h (fun τ9 g9 => (f_L_X12_leaves g9).mo (by decide) (by decide)) (fun σ17 h => ?_)
          exact f_L_X12_turnsFrom_170 ih hx _ _ h
        · exact f_L_X12_turnsFrom_170 ih hx _ _ h
      · replace h := (grd_at h).2
        refine bnd_fm h (fm.uI (Or.inl (by decide))) (fun σ19 h => ?_)
        refine bd2_fm h (fun r9 τ9 g9 => (f_L_X12_goesBy g9).mo (by decide) (by decide)) (fun rq21 σ22 h => ?_)
        replace h := (grd_at h).2
        refine ite_fm h (fun h => ?_) (fun h => ?_)
        · refine bd_fm h (fun τ9 g9 => (f_L_X12_enters g9).mo (by decide) (by decide)) (fun σ34 h => ?_)
          exact ih _ h
        · replace h := (grd_at h).2
          refine ite_fm h (fun h => ?_) (fun h => ?_)
          · exact ih _ h
          · replace h := (grd_at h).2
            replace h := (grd_at h).2
            refine ite_fm h (fun h => ?_) (fun h => ?_)
            · exact ih _ h
            · replace h := (grd_at h).2
              replace h := (grd_at h).2
              refine bnd_fm h (fm.uI (Or.inl (by decide))) (fun σ32 h => ?_)
              exact ih _ h
set_option maxRecDepth 8000 in
theorem f_L_X12_turnsFrom {F : Nat} {x1 : Int32} {σ : sS} {z : sS} (h : L_X12_turnsFrom F x1 σ = some z) : fm [143, 144, 145, 146, 154, 155, 156, 157, 158, 159, 160] [47, 48, 61, 62, 63] σ z := by
  unfold L_X12_turnsFrom at h
  refine bnd_fm h (fm.uI (Or.inr ⟨rfl, by decide⟩)) (fun σ1 h => ?_)
  refine bnd_fm h (fm.uI (Or.inr ⟨rfl, by decide⟩)) (fun σ2 h => ?_)
  refine bd_fm h (fun τ9 g9 => (f_L_X12_enters g9).mo (by decide) (by decide)) (fun σ4 h => ?_)
  refine f_L_X12_turnsFrom_15 (fun σ5 h => ?_) _ _ h
  exact fm_V h
set_option maxRecDepth 8000 in
theorem f_L_X12_turnsAll_7 {F : Nat} {z : sS} {kx : sS → Option sS} (hx : ∀  (σ : sS), kx σ = some z → fm [143, 144, 145, 146, 154, 155, 156, 157, 158, 159, 160] [47, 48, 61, 62, 63] σ z) : ∀ (n : Nat) (x1 : Int32) (σ : sS), L_X12_turnsAll_7 F kx n x1 σ = some z → fm [143, 144, 145, 146, 154, 155, 156, 157, 158, 159, 160] [47, 48, 61, 62, 63] σ z := by
  intro n
  induction n with
  | zero =>
    intro x1 σ h
    rw [L_X12_turnsAll_7] at h
    cases h
  | succ n ih =>
    intro x1 σ h
    rw [L_X12_turnsAll_7] at h
    refine ite_fm h (fun h => ?_) (fun h => ?_)
    · exact hx _ h
    · replace h := (grd_at h).2
      replace h := (grd_at h).2
      refine bnd_fm h (fm.uI (Or.inl (by decide))) (fun σ5 h => ?_)
      replace h := (grd_at h).2
      replace h := (grd_at h).2
      refine bnd_fm h (fm.uI (Or.inl (by decide))) (fun σ8 h => ?_)
      exact ih _ _ h
set_option maxRecDepth 8000 in
theorem f_L_X12_turnsAll_47 {F : Nat} {z : sS} {kx : sS → Option sS} (hx : ∀  (σ : sS), kx σ = some z → fm [143, 144, 145, 146, 154, 155, 156, 157, 158, 159, 160] [47, 48, 61, 62, 63] σ z) : ∀ (n : Nat) (x1 : Int32) (σ : sS), L_X12_turnsAll_47 F kx n x1 σ = some z → fm [143, 144, 145, 146, 154, 155, 156, 157, 158, 159, 160] [47, 48, 61, 62, 63] σ z := by
  intro n
  induction n with
  | zero =>
    intro x1 σ h
    rw [L_X12_turnsAll_47] at h
    cases h
  | succ n ih =>
    intro x1 σ h
    rw [L_X12_turnsAll_47] at h
    refine ite_fm h (fun h => ?_) (fun h => ?_)
    · exact hx _ h
    · replace h := (grd_at h).2
      replace h := (grd_at h).2
      refine ite_fm h (fun h => ?_) (fun h => ?_)
      · replace h := (grd_at h).2
        refine bd_fm h (fun τ9 g9 => (f_L_X12_turnsFrom g9).mo (by decide) (by decide)) (fun σ9 h => ?_)
        exact ih _ _ h
      · exact ih _ _ h
set_option maxRecDepth 8000 in
theorem f_L_X12_turnsAll {F : Nat}  {σ : sS} {z : sS} (h : L_X12_turnsAll F σ = some z) : fm [143, 144, 145, 146, 154, 155, 156, 157, 158, 159, 160] [47, 48, 61, 62, 63] σ z := by
  unfold L_X12_turnsAll at h
  refine bnd_fm h (fm.uI (Or.inr ⟨rfl, by decide⟩)) (fun σ1 h => ?_)
  refine f_L_X12_turnsAll_7 (fun σ2 h => ?_) _ _ _ h
  refine f_L_X12_turnsAll_47 (fun σ3 h => ?_) _ _ _ h
  exact fm_V h
set_option maxRecDepth 8000 in
theorem f_L_X12_found_6 {F : Nat} {σ : sS} {z : (Int32 × sS)} {kx : Option (Int32 × sS)} (hx : kx  = some z → fm [143, 144, 145, 146, 154, 155, 156, 157, 158, 159, 160] [47, 48, 61, 62, 63] σ z.2) : ∀ (n : Nat) (x1 : Int32), L_X12_found_6 F σ kx n x1 = some z → fm [143, 144, 145, 146, 154, 155, 156, 157, 158, 159, 160] [47, 48, 61, 62, 63] σ z.2 := by
  intro n
  induction n with
  | zero =>
    intro x1 h
    rw [L_X12_found_6] at h
    cases h
  | succ n ih =>
    intro x1 h
    rw [L_X12_found_6] at h
    refine ite_fm h (fun h => ?_) (fun h => ?_)
    · exact hx  h
    · replace h := (grd_at h).2
      refine bd_fv h (fun rq6 h => ?_)
      refine ite_fm h (fun h => ?_) (fun h => ?_)
      · exact ih _ h
      · replace h := (grd_at h).2
        replace h := (grd_at h).2
        refine ite_fm h (fun h => ?_) (fun h => ?_)
        · exact ih _ h
        · replace h := (grd_at h).2
          exact fm_I h
set_option maxRecDepth 8000 in
theorem f_L_X12_found {F : Nat}  {σ : sS} {z : (Int32 × sS)} (h : L_X12_found F σ = some z) : fm [143, 144, 145, 146, 154, 155, 156, 157, 158, 159, 160] [47, 48, 61, 62, 63] σ z.2 := by
  unfold L_X12_found at h
  refine bd_fm h (fun τ9 g9 => (f_L_X12_turnsAll g9).mo (by decide) (by decide)) (fun σ2 h => ?_)
  refine f_L_X12_found_6 (fun h => ?_) _ _ h
  exact fm_I h
set_option maxRecDepth 8000 in
theorem f_L_X12_begunNodes_2 {F : Nat} {z : sS} {kx : sS → Option sS} (hx : ∀  (σ : sS), kx σ = some z → fm [149, 150, 151, 152, 164, 165] [37, 53] σ z) : ∀ (n : Nat) (x1 : Int32) (σ : sS), L_X12_begunNodes_2 F kx n x1 σ = some z → fm [149, 150, 151, 152, 164, 165] [37, 53] σ z := by
  intro n
  induction n with
  | zero =>
    intro x1 σ h
    rw [L_X12_begunNodes_2] at h
    cases h
  | succ n ih =>
    intro x1 σ h
    rw [L_X12_begunNodes_2] at h
    refine ite_fm h (fun h => ?_) (fun h => ?_)
    · exact hx _ h
    · refine ite_fm h (fun h => ?_) (fun h => ?_)
      · replace h := (grd_at h).2
        refine bnd_fm h (fm.uI (Or.inl (by decide))) (fun σ6 h => ?_)
        exact ih _ _ h
      · replace h := (grd_at h).2
        refine bnd_fm h (fm.uI (Or.inl (by decide))) (fun σ4 h => ?_)
        exact ih _ _ h
set_option maxRecDepth 8000 in
theorem f_L_X12_begunNodes_43 {F : Nat} {x1 : Int32} {z : sS} {kx : sS → Option sS} (hx : ∀  (σ : sS), kx σ = some z → fm [149, 150, 151, 152, 164, 165] [37, 53] σ z) : ∀ (n : Nat) (x2 : Int32) (σ : sS), L_X12_begunNodes_43 F x1 kx n x2 σ = some z → fm [149, 150, 151, 152, 164, 165] [37, 53] σ z := by
  intro n
  induction n with
  | zero =>
    intro x2 σ h
    rw [L_X12_begunNodes_43] at h
    cases h
  | succ n ih =>
    intro x2 σ h
    rw [L_X12_begunNodes_43] at h
    refine ite_fm h (fun h => ?_) (fun h => ?_)
    · exact hx _ h
    · replace h := (grd_at h).2
      refine bnd_fm h (fm.uI (Or.inl (by decide))) (fun σ5 h => ?_)
      exact ih _ _ h
set_option maxRecDepth 8000 in
theorem f_L_X12_begunNodes_76 {F : Nat} {x1 : Int32} {x2 : Int32} {z : sS} {kx : sS → Option sS} (hx : ∀  (σ : sS), kx σ = some z → fm [149, 150, 151, 152, 164, 165] [37, 53] σ z) : ∀ (n : Nat) (x3 : Int32) (σ : sS), L_X12_begunNodes_76 F x1 x2 kx n x3 σ = some z → fm [149, 150, 151, 152, 164, 165] [37, 53] σ z := by
  intro n
  induction n with
  | zero =>
    intro x3 σ h
    rw [L_X12_begunNodes_76] at h
    cases h
  | succ n ih =>
    intro x3 σ h
    rw [L_X12_begunNodes_76] at h
    replace h := (grd_at h).2
    refine ite_fm h (fun h => ?_) (fun h => ?_)
    · exact hx _ h
    · replace h := (grd_at h).2
      refine bd_fv h (fun rq9 h => ?_)
      refine ite_fm h (fun h => ?_) (fun h => ?_)
      · exact hx _ h
      · replace h := (grd_at h).2
        refine bd_fv h (fun rq13 h => ?_)
        replace h := (grd_at h).2
        refine bnd_fm h (fm.uI (Or.inl (by decide))) (fun σ15 h => ?_)
        exact ih _ _ h
set_option maxRecDepth 8000 in
theorem f_L_X12_begunNodes_66 {F : Nat} {x1 : Int32} {z : sS} {kx : sS → Option sS} (hx : ∀  (σ : sS), kx σ = some z → fm [149, 150, 151, 152, 164, 165] [37, 53] σ z) : ∀ (n : Nat) (x2 : Int32) (σ : sS), L_X12_begunNodes_66 F x1 kx n x2 σ = some z → fm [149, 150, 151, 152, 164, 165] [37, 53] σ z := by
  intro n
  induction n with
  | zero =>
    intro x2 σ h
    rw [L_X12_begunNodes_66] at h
    cases h
  | succ n ih =>
    intro x2 σ h
    rw [L_X12_begunNodes_66] at h
    refine ite_fm h (fun h => ?_) (fun h => ?_)
    · exact hx _ h
    · refine f_L_X12_begunNodes_76 (fun σ5 h => ?_) _ _ _ h
      exact ih _ _ h
set_option maxRecDepth 8000 in
theorem f_L_X12_begunNodes_132 {F : Nat} {x1 : Int32} {z : sS} {kx : sS → Option sS} (hx : ∀  (σ : sS), kx σ = some z → fm [149, 150, 151, 152, 164, 165] [37, 53] σ z) : ∀ (n : Nat) (x2 : Int32) (σ : sS), L_X12_begunNodes_132 F x1 kx n x2 σ = some z → fm [149, 150, 151, 152, 164, 165] [37, 53] σ z := by
  intro n
  induction n with
  | zero =>
    intro x2 σ h
    rw [L_X12_begunNodes_132] at h
    cases h
  | succ n ih =>
    intro x2 σ h
    rw [L_X12_begunNodes_132] at h
    refine ite_fm h (fun h => ?_) (fun h => ?_)
    · exact hx _ h
    · replace h := (grd_at h).2
      replace h := (grd_at h).2
      replace h := (grd_at h).2
      refine bnd_fm h (fm.uI (Or.inl (by decide))) (fun σ9 h => ?_)
      exact ih _ _ h
set_option maxRecDepth 8000 in
theorem f_L_X12_begunNodes_33 {F : Nat} {z : sS} {kx : sS → Option sS} (hx : ∀  (σ : sS), kx σ = some z → fm [149, 150, 151, 152, 164, 165] [37, 53] σ z) : ∀ (n : Nat) (x1 : Int32) (σ : sS), L_X12_begunNodes_33 F kx n x1 σ = some z → fm [149, 150, 151, 152, 164, 165] [37, 53] σ z := by
  intro n
  induction n with
  | zero =>
    intro x1 σ h
    rw [L_X12_begunNodes_33] at h
    cases h
  | succ n ih =>
    intro x1 σ h
    rw [L_X12_begunNodes_33] at h
    refine ite_fm h (fun h => ?_) (fun h => ?_)
    · exact hx _ h
    · refine f_L_X12_begunNodes_43 (fun σ3 h => ?_) _ _ _ h
      refine f_L_X12_begunNodes_66 (fun σ4 h => ?_) _ _ _ h
      refine f_L_X12_begunNodes_132 (fun σ5 h => ?_) _ _ _ h
      exact ih _ _ h
set_option maxRecDepth 8000 in
theorem f_L_X12_begunNodes_171 {F : Nat} {z : sS} {kx : sS → Option sS} (hx : ∀  (σ : sS), kx σ = some z → fm [149, 150, 151, 152, 164, 165] [37, 53] σ z) : ∀ (n : Nat) (x1 : Int32) (σ : sS), L_X12_begunNodes_171 F kx n x1 σ = some z → fm [149, 150, 151, 152, 164, 165] [37, 53] σ z := by
  intro n
  induction n with
  | zero =>
    intro x1 σ h
    rw [L_X12_begunNodes_171] at h
    cases h
  | succ n ih =>
    intro x1 σ h
    rw [L_X12_begunNodes_171] at h
    refine ite_fm h (fun h => ?_) (fun h => ?_)
    · exact hx _ h
    · replace h := (grd_at h).2
      refine ite_fm h (fun h => ?_) (fun h => ?_)
      · exact ih _ _ h
      · refine bd_fm h (fun τ9 g9 => (f_L_X12_meets g9).mo (by decide) (by decide)) (fun σ8 h => ?_)
        exact ih _ _ h
set_option maxRecDepth 8000 in
theorem f_L_X12_begunNodes {F : Nat}  {σ : sS} {z : sS} (h : L_X12_begunNodes F σ = some z) : fm [149, 150, 151, 152, 164, 165] [37, 53] σ z := by
  unfold L_X12_begunNodes at h
  refine f_L_X12_begunNodes_2 (fun σ1 h => ?_) _ _ _ h
  refine f_L_X12_begunNodes_33 (fun σ2 h => ?_) _ _ _ h
  refine bnd_fm h (fm.uI (Or.inr ⟨rfl, by decide⟩)) (fun σ3 h => ?_)
  refine f_L_X12_begunNodes_171 (fun σ4 h => ?_) _ _ _ h
  exact fm_V h
set_option maxRecDepth 8000 in
theorem f_L_X12_begunStates_9 {F : Nat} {x1 : Int32} {σ : sS} {z : sS} {kx : Int32 → Option sS} (hx : ∀ (x2 : Int32), kx x2 = some z → fm [149, 150, 151, 152] [37, 53] σ z) : ∀ (n : Nat) (x2 : Int32) (x3 : Int32), L_X12_begunStates_9 F x1 σ kx n x2 x3 = some z → fm [149, 150, 151, 152] [37, 53] σ z := by
  intro n
  induction n with
  | zero =>
    intro x2 x3 h
    rw [L_X12_begunStates_9] at h
    cases h
  | succ n ih =>
    intro x2 x3 h
    rw [L_X12_begunStates_9] at h
    refine ite_fm h (fun h => ?_) (fun h => ?_)
    · exact hx _ h
    · replace h := (grd_at h).2
      refine bd_fv h (fun rq6 h => ?_)
      exact ih _ _ h
set_option maxRecDepth 8000 in
theorem f_L_X12_begunStates_43 {F : Nat} {x2 : Int32} {z : sS} {kx : sS → Option sS} (hx : ∀  (σ : sS), kx σ = some z → fm [149, 150, 151, 152] [37, 53] σ z) : ∀ (n : Nat) (x3 : Int32) (σ : sS), L_X12_begunStates_43 F x2 kx n x3 σ = some z → fm [149, 150, 151, 152] [37, 53] σ z := by
  intro n
  induction n with
  | zero =>
    intro x3 σ h
    rw [L_X12_begunStates_43] at h
    cases h
  | succ n ih =>
    intro x3 σ h
    rw [L_X12_begunStates_43] at h
    refine ite_fm h (fun h => ?_) (fun h => ?_)
    · exact hx _ h
    · refine ite_fm h (fun h => ?_) (fun h => ?_)
      · refine bd_fm h (fun τ9 g9 => (f_L_X12_meets g9).mo (by decide) (by decide)) (fun σ8 h => ?_)
        exact ih _ _ h
      · exact ih _ _ h
set_option maxRecDepth 8000 in
theorem f_L_X12_begunStates {F : Nat} {x1 : Int32} {σ : sS} {z : sS} (h : L_X12_begunStates F x1 σ = some z) : fm [149, 150, 151, 152] [37, 53] σ z := by
  unfold L_X12_begunStates at h
  replace h := (grd_at h).2
  refine bnd_fv h (fun yq2 h => ?_)
  refine f_L_X12_begunStates_9 (fun yq3 h => ?_) _ _ _ h
  refine bnd_fm h (fm.uI (Or.inr ⟨rfl, by decide⟩)) (fun σ4 h => ?_)
  refine f_L_X12_begunStates_43 (fun σ5 h => ?_) _ _ _ h
  exact fm_V h
set_option maxRecDepth 8000 in
theorem f_L_X12_isTaken_25 {F : Nat} {z : (Int32 × sS)}  (σ : sS) (h : L_X12_isTaken_25 F σ = some z) : fm [143, 144, 145, 146, 149, 150, 151, 152, 154, 155, 156, 157, 158, 159, 160, 164, 165] [37, 38, 47, 48, 53, 61, 62, 63] σ z.2 := by
  unfold L_X12_isTaken_25 at h
  refine bd_fm h (fun τ9 g9 => (f_L_X12_meetsAll g9).mo (by decide) (by decide)) (fun σ8 h => ?_)
  refine bd2_fm h (fun r9 τ9 g9 => (f_L_X12_found g9).mo (by decide) (by decide)) (fun rq10 σ11 h => ?_)
  refine ite_fm h (fun h => ?_) (fun h => ?_)
  · exact fm_I h
  · exact fm_I h
set_option maxRecDepth 8000 in
theorem f_L_X12_isTaken {F : Nat} {x1 : Int32} {x2 : Int32} {σ : sS} {z : (Int32 × sS)} (h : L_X12_isTaken F x1 x2 σ = some z) : fm [143, 144, 145, 146, 149, 150, 151, 152, 154, 155, 156, 157, 158, 159, 160, 164, 165] [37, 38, 47, 48, 53, 61, 62, 63] σ z.2 := by
  unfold L_X12_isTaken at h
  refine bnd_fm h (fm.uI (Or.inr ⟨rfl, by decide⟩)) (fun σ1 h => ?_)
  refine bd_fm h (fun τ9 g9 => (f_L_X12_meetsNone g9).mo (by decide) (by decide)) (fun σ3 h => ?_)
  refine ite_fm h (fun h => ?_) (fun h => ?_)
  · refine bd_fm h (fun τ9 g9 => (f_L_X12_begunStates g9).mo (by decide) (by decide)) (fun σ6 h => ?_)
    exact f_L_X12_isTaken_25 _ h
  · refine bd_fm h (fun τ9 g9 => (f_L_X12_begunNodes g9).mo (by decide) (by decide)) (fun σ8 h => ?_)
    exact f_L_X12_isTaken_25 _ h
set_option maxRecDepth 8000 in
theorem f_L_X12_readLetters__8 {F : Nat} {x1 : Nat} {z : (Int32 × sS)} (hm : x1 ∈ [139, 140]) {kx : Int32 → sS → Option (Int32 × sS)} (hx : ∀ (x3 : Int32) (σ : sS), kx x3 σ = some z → fm [139, 140] [6, 7, 8, 9, 10, 11, 12, 13] σ z.2) : ∀ (n : Nat) (x3 : Int32) (x4 : Int32) (σ : sS), L_X12_readLetters__8 F x1 kx n x3 x4 σ = some z → fm [139, 140] [6, 7, 8, 9, 10, 11, 12, 13] σ z.2 := by
  intro n
  induction n with
  | zero =>
    intro x3 x4 σ h
    rw [L_X12_readLetters__8] at h
    cases h
  | succ n ih =>
    intro x3 x4 σ h
    rw [L_X12_readLetters__8] at h
    refine ite_fm h (fun h => ?_) (fun h => ?_)
    · exact hx _ _ h
    · refine ite_fm h (fun h => ?_) (fun h => ?_)
      · replace h := (grd_at h).2
        refine bnd_fv h (fun yq5 h => ?_)
        refine ite_fm h (fun h => ?_) (fun h => ?_)
        · refine ite_fm h (fun h => ?_) (fun h => ?_)
          · refine bd_fm h (fun τ9 g9 => (f_L_X12_flaw g9).mo (by decide) (by decide)) (fun σ11 h => ?_)
            exact ih _ _ _ h
          · replace h := (grd_at h).2
            refine bnd_fm h (fm.uI (Or.inl hm)) (fun σ9 h => ?_)
            exact ih _ _ _ h
        · refine bd_fm h (fun τ9 g9 => (f_L_X12_flaw g9).mo (by decide) (by decide)) (fun σ13 h => ?_)
          exact ih _ _ _ h
      · exact hx _ _ h
set_option maxRecDepth 8000 in
theorem f_L_X12_readLetters_ {F : Nat} {x1 : Nat} {x2 : Int32} {σ : sS} {z : (Int32 × sS)} (hm : x1 ∈ [139, 140]) (h : L_X12_readLetters_ F x1 x2 σ = some z) : fm [139, 140] [6, 7, 8, 9, 10, 11, 12, 13] σ z.2 := by
  unfold L_X12_readLetters_ at h
  refine bnd_fv h (fun yq1 h => ?_)
  refine f_L_X12_readLetters__8 hm (fun yq2 σ3 h => ?_) _ _ _ _ h
  refine bd_fm h (fun τ9 g9 => (f_L_X12_goOn g9).mo (by decide) (by decide)) (fun σ5 h => ?_)
  exact fm_I h
set_option maxRecDepth 8000 in
theorem f_L_X12_readLasso_10 {F : Nat} {z : sS} {kx : sS → Option sS} (hx : ∀  (σ : sS), kx σ = some z → fm [139, 140] [6, 7, 8, 9, 10, 11, 12, 13, 41, 42] σ z) : ∀ (n : Nat)  (σ : sS), L_X12_readLasso_10 F kx n σ = some z → fm [139, 140] [6, 7, 8, 9, 10, 11, 12, 13, 41, 42] σ z := by
  intro n
  induction n with
  | zero =>
    intro σ h
    rw [L_X12_readLasso_10] at h
    cases h
  | succ n ih =>
    intro σ h
    rw [L_X12_readLasso_10] at h
    refine ite_fm h (fun h => ?_) (fun h => ?_)
    · refine ite_fm h (fun h => ?_) (fun h => ?_)
      · refine bd2_fm h (fun r9 τ9 g9 => (f_L_X12_readLetters_ (by decide) g9).mo (by decide) (by decide)) (fun rq6 σ7 h => ?_)
        refine bnd_fm h (fm.uI (Or.inr ⟨rfl, by decide⟩)) (fun σ8 h => ?_)
        exact ih _ h
      · exact hx _ h
    · exact hx _ h
set_option maxRecDepth 8000 in
theorem f_L_X12_readLasso_82 {F : Nat} {z : sS} {kx : sS → Option sS} (hx : ∀  (σ : sS), kx σ = some z → fm [139, 140] [6, 7, 8, 9, 10, 11, 12, 13, 41, 42] σ z) : ∀ (n : Nat)  (σ : sS), L_X12_readLasso_82 F kx n σ = some z → fm [139, 140] [6, 7, 8, 9, 10, 11, 12, 13, 41, 42] σ z := by
  intro n
  induction n with
  | zero =>
    intro σ h
    rw [L_X12_readLasso_82] at h
    cases h
  | succ n ih =>
    intro σ h
    rw [L_X12_readLasso_82] at h
    refine ite_fm h (fun h => ?_) (fun h => ?_)
    · refine ite_fm h (fun h => ?_) (fun h => ?_)
      · refine bd2_fm h (fun r9 τ9 g9 => (f_L_X12_readLetters_ (by decide) g9).mo (by decide) (by decide)) (fun rq11 σ12 h => ?_)
        refine bnd_fm h (fm.uI (Or.inr ⟨rfl, by decide⟩)) (fun σ13 h => ?_)
        exact ih _ h
      · exact hx _ h
    · exact hx _ h
set_option maxRecDepth 8000 in
theorem f_L_X12_readLasso_116 {F : Nat} {z : sS}  (σ : sS) (h : L_X12_readLasso_116 F σ = some z) : fm [139, 140] [6, 7, 8, 9, 10, 11, 12, 13, 41, 42] σ z := by
  unfold L_X12_readLasso_116 at h
  refine ite_fm h (fun h => ?_) (fun h => ?_)
  · refine bd_fm h (fun τ9 g9 => (f_L_X12_flaw g9).mo (by decide) (by decide)) (fun σ15 h => ?_)
    refine bd_fm h (fun τ9 g9 => (f_L_X12_goOn g9).mo (by decide) (by decide)) (fun σ17 h => ?_)
    refine bd_fm h (fun τ9 g9 => (f_L_X12_needsEnd g9).mo (by decide) (by decide)) (fun σ19 h => ?_)
    exact fm_V h
  · refine bd_fm h (fun τ9 g9 => (f_L_X12_goOn g9).mo (by decide) (by decide)) (fun σ11 h => ?_)
    refine bd_fm h (fun τ9 g9 => (f_L_X12_needsEnd g9).mo (by decide) (by decide)) (fun σ13 h => ?_)
    exact fm_V h
set_option maxRecDepth 8000 in
theorem f_L_X12_readLasso_58 {F : Nat} {z : sS}  (σ : sS) (h : L_X12_readLasso_58 F σ = some z) : fm [139, 140] [6, 7, 8, 9, 10, 11, 12, 13, 41, 42] σ z := by
  unfold L_X12_readLasso_58 at h
  refine bd_fm h (fun τ9 g9 => (f_L_X12_goOn g9).mo (by decide) (by decide)) (fun σ6 h => ?_)
  refine ite_fm h (fun h => ?_) (fun h => ?_)
  · refine ite_fm h (fun h => ?_) (fun h => ?_)
    · refine f_L_X12_readLasso_82 (fun σ10 h => ?_) _ _ h
      exact f_L_X12_readLasso_116 _ h
    · refine bd_fm h (fun τ9 g9 => (f_L_X12_flaw g9).mo (by decide) (by decide)) (fun σ12 h => ?_)
      refine f_L_X12_readLasso_82 (fun σ13 h => ?_) _ _ h
      exact f_L_X12_readLasso_116 _ h
  · refine f_L_X12_readLasso_82 (fun σ8 h => ?_) _ _ h
    exact f_L_X12_readLasso_116 _ h
set_option maxRecDepth 8000 in
theorem f_L_X12_readLasso_44 {F : Nat} {z : sS}  (σ : sS) (h : L_X12_readLasso_44 F σ = some z) : fm [139, 140] [6, 7, 8, 9, 10, 11, 12, 13, 41, 42] σ z := by
  unfold L_X12_readLasso_44 at h
  refine ite_fm h (fun h => ?_) (fun h => ?_)
  · refine bd_fm h (fun τ9 g9 => (f_L_X12_flaw g9).mo (by decide) (by decide)) (fun σ6 h => ?_)
    exact f_L_X12_readLasso_58 _ h
  · exact f_L_X12_readLasso_58 _ h
set_option maxRecDepth 8000 in
theorem f_L_X12_readLasso {F : Nat}  {σ : sS} {z : sS} (h : L_X12_readLasso F σ = some z) : fm [139, 140] [6, 7, 8, 9, 10, 11, 12, 13, 41, 42] σ z := by
  unfold L_X12_readLasso at h
  refine bnd_fm h (fm.uI (Or.inr ⟨rfl, by decide⟩)) (fun σ1 h => ?_)
  refine bnd_fm h (fm.uI (Or.inr ⟨rfl, by decide⟩)) (fun σ2 h => ?_)
  refine f_L_X12_readLasso_10 (fun σ3 h => ?_) _ _ h
  exact f_L_X12_readLasso_44 _ h
set_option maxRecDepth 8000 in
theorem f_L_X12_takes {F : Nat} {x1 : Int32} {x2 : Int32} {σ : sS} {z : (Int32 × sS)} (h : L_X12_takes F x1 x2 σ = some z) : fm [139, 140, 143, 144, 145, 146, 149, 150, 151, 152, 154, 155, 156, 157, 158, 159, 160, 164, 165] [0, 1, 2, 4, 5, 6, 7, 8, 9, 10, 11, 12, 13, 37, 38, 41, 42, 47, 48, 53, 61, 62, 63] σ z.2 := by
  unfold L_X12_takes at h
  refine bnd_fm h (fm.uI (Or.inr ⟨rfl, by decide⟩)) (fun σ1 h => ?_)
  refine bd_fv h (fun rq3 h => ?_)
  refine ite_fm h (fun h => ?_) (fun h => ?_)
  · refine bd2_fm h (fun r9 τ9 g9 => (f_L_X12_refused g9).mo (by decide) (by decide)) (fun rq28 σ29 h => ?_)
    exact fm_I h
  · refine ite_fm h (fun h => ?_) (fun h => ?_)
    · refine bd_fm h (fun τ9 g9 => (f_L_X12_begins g9).mo (by decide) (by decide)) (fun σ7 h => ?_)
      refine bd_fm h (fun τ9 g9 => (f_L_X12_readLasso g9).mo (by decide) (by decide)) (fun σ9 h => ?_)
      refine ite_fm h (fun h => ?_) (fun h => ?_)
      · refine bd2_fm h (fun r9 τ9 g9 => (f_L_X12_isTaken g9).mo (by decide) (by decide)) (fun rq12 σ13 h => ?_)
        refine ite_fm h (fun h => ?_) (fun h => ?_)
        · refine bd2_fm h (fun r9 τ9 g9 => (f_L_X12_good g9).mo (by decide) (by decide)) (fun rq16 σ17 h => ?_)
          exact fm_I h
        · refine bd2_fm h (fun r9 τ9 g9 => (f_L_X12_good g9).mo (by decide) (by decide)) (fun rq19 σ20 h => ?_)
          exact fm_I h
      · refine bd2_fm h (fun r9 τ9 g9 => (f_L_X12_faulty g9).mo (by decide) (by decide)) (fun rq22 σ23 h => ?_)
        exact fm_I h
    · refine bd2_fm h (fun r9 τ9 g9 => (f_L_X12_refused g9).mo (by decide) (by decide)) (fun rq25 σ26 h => ?_)
      exact fm_I h
set_option maxRecDepth 8000 in
theorem f_L_X12_lacks {F : Nat} {x1 : Int32} {x2 : Int32} {σ : sS} {z : (Int32 × sS)} (h : L_X12_lacks F x1 x2 σ = some z) : fm [123, 124, 125, 126, 127, 128, 129, 130, 131, 136, 139, 140, 143, 144, 145, 146, 149, 150, 151, 152, 154, 155, 156, 157, 158, 159, 160, 164, 165] [0, 1, 2, 4, 5, 6, 7, 8, 9, 10, 11, 12, 13, 32, 33, 34, 35, 37, 38, 41, 42, 47, 48, 53, 61, 62, 63] σ z.2 := by
  unfold L_X12_lacks at h
  refine bnd_fm h (fm.uI (Or.inr ⟨rfl, by decide⟩)) (fun σ1 h => ?_)
  refine bd_fv h (fun rq3 h => ?_)
  refine ite_fm h (fun h => ?_) (fun h => ?_)
  · refine bd2_fm h (fun r9 τ9 g9 => (f_L_X12_refused g9).mo (by decide) (by decide)) (fun rq35 σ36 h => ?_)
    exact fm_I h
  · refine ite_fm h (fun h => ?_) (fun h => ?_)
    · refine bd_fm h (fun τ9 g9 => (f_L_X12_begins g9).mo (by decide) (by decide)) (fun σ7 h => ?_)
      refine bd_fm h (fun τ9 g9 => (f_L_X12_readLasso g9).mo (by decide) (by decide)) (fun σ9 h => ?_)
      refine ite_fm h (fun h => ?_) (fun h => ?_)
      · refine bd2_fm h (fun r9 τ9 g9 => (f_L_X12_lays g9).mo (by decide) (by decide)) (fun rq12 σ13 h => ?_)
        refine ite_fm h (fun h => ?_) (fun h => ?_)
        · refine bd2_fm h (fun r9 τ9 g9 => (f_L_X12_refused g9).mo (by decide) (by decide)) (fun rq26 σ27 h => ?_)
          exact fm_I h
        · refine bd2_fm h (fun r9 τ9 g9 => (f_L_X12_isTaken g9).mo (by decide) (by decide)) (fun rq16 σ17 h => ?_)
          refine ite_fm h (fun h => ?_) (fun h => ?_)
          · refine bd2_fm h (fun r9 τ9 g9 => (f_L_X12_good g9).mo (by decide) (by decide)) (fun rq20 σ21 h => ?_)
            exact fm_I h
          · refine bd2_fm h (fun r9 τ9 g9 => (f_L_X12_good g9).mo (by decide) (by decide)) (fun rq23 σ24 h => ?_)
            exact fm_I h
      · refine bd2_fm h (fun r9 τ9 g9 => (f_L_X12_faulty g9).mo (by decide) (by decide)) (fun rq29 σ30 h => ?_)
        exact fm_I h
    · refine bd2_fm h (fun r9 τ9 g9 => (f_L_X12_refused g9).mo (by decide) (by decide)) (fun rq32 σ33 h => ?_)
      exact fm_I h
set_option maxRecDepth 8000 in
theorem f_L_X12_follows_75 {F : Nat} {x1 : Int32} {x2 : Int32} {σ : sS} {z : (Int32 × sS)} {kx : Int32 → Option (Int32 × sS)} (hx : ∀ (x4 : Int32), kx x4 = some z → fm [139, 140] [0, 1, 2, 4, 5, 6, 7, 8, 9, 10, 11, 12, 13, 41, 42] σ z.2) : ∀ (n : Nat) (x4 : Int32) (x5 : Int32), L_X12_follows_75 F x1 x2 σ kx n x4 x5 = some z → fm [139, 140] [0, 1, 2, 4, 5, 6, 7, 8, 9, 10, 11, 12, 13, 41, 42] σ z.2 := by
  intro n
  induction n with
  | zero =>
    intro x4 x5 h
    rw [L_X12_follows_75] at h
    cases h
  | succ n ih =>
    intro x4 x5 h
    rw [L_X12_follows_75] at h
    refine ite_fm h (fun h => ?_) (fun h => ?_)
    · exact hx _ h
    · replace h := (grd_at h).2
      refine bd_fv h (fun rq20 h => ?_)
      exact ih _ _ h
set_option maxRecDepth 8000 in
theorem f_L_X12_follows_118 {F : Nat} {x1 : Int32} {x2 : Int32} {x5 : Int32} {σ : sS} {z : (Int32 × sS)} {kx : Int32 → Option (Int32 × sS)} (hx : ∀ (x4 : Int32), kx x4 = some z → fm [139, 140] [0, 1, 2, 4, 5, 6, 7, 8, 9, 10, 11, 12, 13, 41, 42] σ z.2) : ∀ (n : Nat) (x4 : Int32) (x6 : Int32), L_X12_follows_118 F x1 x2 x5 σ kx n x4 x6 = some z → fm [139, 140] [0, 1, 2, 4, 5, 6, 7, 8, 9, 10, 11, 12, 13, 41, 42] σ z.2 := by
  intro n
  induction n with
  | zero =>
    intro x4 x6 h
    rw [L_X12_follows_118] at h
    cases h
  | succ n ih =>
    intro x4 x6 h
    rw [L_X12_follows_118] at h
    refine ite_fm h (fun h => ?_) (fun h => ?_)
    · exact hx _ h
    · replace h := (grd_at h).2
      refine bd_fv h (fun rq22 h => ?_)
      exact ih _ _ h
set_option maxRecDepth 8000 in
theorem f_L_X12_follows_109 {F : Nat} {x1 : Int32} {x2 : Int32} {σ : sS} {z : (Int32 × sS)} {kx : Int32 → Option (Int32 × sS)} (hx : ∀ (x4 : Int32), kx x4 = some z → fm [139, 140] [0, 1, 2, 4, 5, 6, 7, 8, 9, 10, 11, 12, 13, 41, 42] σ z.2) : ∀ (n : Nat) (x4 : Int32) (x5 : Int32), L_X12_follows_109 F x1 x2 σ kx n x4 x5 = some z → fm [139, 140] [0, 1, 2, 4, 5, 6, 7, 8, 9, 10, 11, 12, 13, 41, 42] σ z.2 := by
  intro n
  induction n with
  | zero =>
    intro x4 x5 h
    rw [L_X12_follows_109] at h
    cases h
  | succ n ih =>
    intro x4 x5 h
    rw [L_X12_follows_109] at h
    refine ite_fm h (fun h => ?_) (fun h => ?_)
    · exact hx _ h
    · refine f_L_X12_follows_118 (fun yq19 h => ?_) _ _ _ h
      exact ih _ _ h
set_option maxRecDepth 8000 in
theorem f_L_X12_follows {F : Nat} {x1 : Int32} {x2 : Int32} {x3 : Int32} {σ : sS} {z : (Int32 × sS)} (h : L_X12_follows F x1 x2 x3 σ = some z) : fm [139, 140] [0, 1, 2, 4, 5, 6, 7, 8, 9, 10, 11, 12, 13, 41, 42] σ z.2 := by
  unfold L_X12_follows at h
  refine bnd_fm h (fm.uI (Or.inr ⟨rfl, by decide⟩)) (fun σ1 h => ?_)
  refine bd_fv h (fun rq3 h => ?_)
  refine ite_fm h (fun h => ?_) (fun h => ?_)
  · refine bd2_fm h (fun r9 τ9 g9 => (f_L_X12_refused g9).mo (by decide) (by decide)) (fun rq29 σ30 h => ?_)
    exact fm_I h
  · refine ite_fm h (fun h => ?_) (fun h => ?_)
    · refine bd2_fm h (fun r9 τ9 g9 => (f_L_X12_refused g9).mo (by decide) (by decide)) (fun rq7 σ8 h => ?_)
      exact fm_I h
    · refine ite_fm h (fun h => ?_) (fun h => ?_)
      · refine bd_fm h (fun τ9 g9 => (f_L_X12_begins g9).mo (by decide) (by decide)) (fun σ11 h => ?_)
        refine bd_fm h (fun τ9 g9 => (f_L_X12_readLasso g9).mo (by decide) (by decide)) (fun σ13 h => ?_)
        refine ite_fm h (fun h => ?_) (fun h => ?_)
        · replace h := (grd_at h).2
          refine bnd_fv h (fun yq16 h => ?_)
          refine f_L_X12_follows_75 (fun yq17 h => ?_) _ _ _ h
          refine f_L_X12_follows_109 (fun yq18 h => ?_) _ _ _ h
          refine bd2_fm h (fun r9 τ9 g9 => (f_L_X12_good g9).mo (by decide) (by decide)) (fun rq20 σ21 h => ?_)
          exact fm_I h
        · refine bd2_fm h (fun r9 τ9 g9 => (f_L_X12_faulty g9).mo (by decide) (by decide)) (fun rq23 σ24 h => ?_)
          exact fm_I h
      · refine bd2_fm h (fun r9 τ9 g9 => (f_L_X12_refused g9).mo (by decide) (by decide)) (fun rq26 σ27 h => ?_)
        exact fm_I h
set_option maxRecDepth 8000 in
theorem f_L_X12_taken_6 {F : Nat} {x1 : Int32} {x2 : Int32} {x3 : Int32} {x4 : Int32} {σ : sS} {z : (Int32 × sS)} {kx : Int32 → Option (Int32 × sS)} (hx : ∀ (x5 : Int32), kx x5 = some z → fm [139, 140, 143, 144, 145, 146, 149, 150, 151, 152, 154, 155, 156, 157, 158, 159, 160, 164, 165] [37, 38, 41, 42, 47, 48, 53, 61, 62, 63] σ z.2) : ∀ (n : Nat) (x5 : Int32) (x6 : Int32), L_X12_taken_6 F x1 x2 x3 x4 σ kx n x5 x6 = some z → fm [139, 140, 143, 144, 145, 146, 149, 150, 151, 152, 154, 155, 156, 157, 158, 159, 160, 164, 165] [37, 38, 41, 42, 47, 48, 53, 61, 62, 63] σ z.2 := by
  intro n
  induction n with
  | zero =>
    intro x5 x6 h
    rw [L_X12_taken_6] at h
    cases h
  | succ n ih =>
    intro x5 x6 h
    rw [L_X12_taken_6] at h
    refine ite_fm h (fun h => ?_) (fun h => ?_)
    · exact hx _ h
    · refine bnd_fv h (fun yq2 h => ?_)
      exact ih _ _ h
set_option maxRecDepth 8000 in
theorem f_L_X12_taken_106 {F : Nat} {x1 : Int32} {x2 : Int32} {x3 : Int32} {x4 : Int32} {x5 : Int32} {x6 : Int32} {x7 : Int32} {z : (Int32 × sS)} {kh : Int32 → Int32 → sS → Option (Int32 × sS)} (hh : ∀ (x8 : Int32) (x9 : Int32) (σ : sS), kh x8 x9 σ = some z → fm [139, 140, 143, 144, 145, 146, 149, 150, 151, 152, 154, 155, 156, 157, 158, 159, 160, 164, 165] [37, 38, 41, 42, 47, 48, 53, 61, 62, 63] σ z.2) {kx : sS → Option (Int32 × sS)} (hx : ∀  (σ : sS), kx σ = some z → fm [139, 140, 143, 144, 145, 146, 149, 150, 151, 152, 154, 155, 156, 157, 158, 159, 160, 164, 165] [37, 38, 41, 42, 47, 48, 53, 61, 62, 63] σ z.2) (x8 : Int32) (x9 : Int32) (σ : sS) (h : L_X12_taken_106 F x1 x2 x3 x4 x5 x6 x7 kh kx x8 x9 σ = some z) : fm [139, 140, 143, 144, 145, 146, 149, 150, 151, 152, 154, 155, 156, 157, 158, 159, 160, 164, 165] [37, 38, 41, 42, 47, 48, 53, 61, 62, 63] σ z.2 := by
  unfold L_X12_taken_106 at h
  replace h := (grd_at h).2
  refine bnd_fv h (fun yq11 h => ?_)
  exact hh _ _ _ h
set_option maxRecDepth 8000 in
theorem f_L_X12_taken_59 {F : Nat} {x1 : Int32} {x2 : Int32} {x3 : Int32} {x4 : Int32} {x5 : Int32} {x6 : Int32} {x7 : Int32} {z : (Int32 × sS)} {kx : sS → Option (Int32 × sS)} (hx : ∀  (σ : sS), kx σ = some z → fm [139, 140, 143, 144, 145, 146, 149, 150, 151, 152, 154, 155, 156, 157, 158, 159, 160, 164, 165] [37, 38, 41, 42, 47, 48, 53, 61, 62, 63] σ z.2) : ∀ (n : Nat) (x8 : Int32) (x9 : Int32) (σ : sS), L_X12_taken_59 F x1 x2 x3 x4 x5 x6 x7 kx n x8 x9 σ = some z → fm [139, 140, 143, 144, 145, 146, 149, 150, 151, 152, 154, 155, 156, 157, 158, 159, 160, 164, 165] [37, 38, 41, 42, 47, 48, 53, 61, 62, 63] σ z.2 := by
  intro n
  induction n with
  | zero =>
    intro x8 x9 σ h
    rw [L_X12_taken_59] at h
    cases h
  | succ n ih =>
    intro x8 x9 σ h
    rw [L_X12_taken_59] at h
    refine ite_fm h (fun h => ?_) (fun h => ?_)
    · exact hx _ h
    · refine ite_fm h (fun h => ?_) (fun h => ?_)
      · replace h := (grd_at h).2
        replace h := (grd_at h).2
        refine bnd_fm h (fm.uI (Or.inl (by decide))) (fun σ9 h => ?_)
        exact f_L_X12_taken_106 ih hx _ _ _ h
      · replace h := (grd_at h).2
        replace h := (grd_at h).2
        refine bnd_fm h (fm.uI (Or.inl (by decide))) (fun σ12 h => ?_)
        exact f_L_X12_taken_106 ih hx _ _ _ h
set_option maxRecDepth 8000 in
theorem f_L_X12_taken_45 {F : Nat} {x1 : Int32} {x2 : Int32} {x3 : Int32} {x4 : Int32} {x5 : Int32} {z : (Int32 × sS)} {kx : Int32 → sS → Option (Int32 × sS)} (hx : ∀ (x6 : Int32) (σ : sS), kx x6 σ = some z → fm [139, 140, 143, 144, 145, 146, 149, 150, 151, 152, 154, 155, 156, 157, 158, 159, 160, 164, 165] [37, 38, 41, 42, 47, 48, 53, 61, 62, 63] σ z.2) : ∀ (n : Nat) (x6 : Int32) (x7 : Int32) (σ : sS), L_X12_taken_45 F x1 x2 x3 x4 x5 kx n x6 x7 σ = some z → fm [139, 140, 143, 144, 145, 146, 149, 150, 151, 152, 154, 155, 156, 157, 158, 159, 160, 164, 165] [37, 38, 41, 42, 47, 48, 53, 61, 62, 63] σ z.2 := by
  intro n
  induction n with
  | zero =>
    intro x6 x7 σ h
    rw [L_X12_taken_45] at h
    cases h
  | succ n ih =>
    intro x6 x7 σ h
    rw [L_X12_taken_45] at h
    refine ite_fm h (fun h => ?_) (fun h => ?_)
    · exact hx _ _ h
    · refine f_L_X12_taken_59 (fun σ5 h => ?_) _ _ _ _ h
      refine bd2_fm h (fun r9 τ9 g9 => (f_L_X12_isTaken g9).mo (by decide) (by decide)) (fun rq7 σ8 h => ?_)
      refine ite_fm h (fun h => ?_) (fun h => ?_)
      · refine bnd_fv h (fun yq10 h => ?_)
        exact ih _ _ _ h
      · refine bnd_fv h (fun yq11 h => ?_)
        exact ih _ _ _ h
set_option maxRecDepth 8000 in
theorem f_L_X12_taken {F : Nat} {x1 : Int32} {x2 : Int32} {x3 : Int32} {x4 : Int32} {σ : sS} {z : (Int32 × sS)} (h : L_X12_taken F x1 x2 x3 x4 σ = some z) : fm [139, 140, 143, 144, 145, 146, 149, 150, 151, 152, 154, 155, 156, 157, 158, 159, 160, 164, 165] [37, 38, 41, 42, 47, 48, 53, 61, 62, 63] σ z.2 := by
  unfold L_X12_taken at h
  refine f_L_X12_taken_6 (fun yq1 h => ?_) _ _ _ h
  refine bnd_fm h (fm.uI (Or.inr ⟨rfl, by decide⟩)) (fun σ2 h => ?_)
  refine bnd_fm h (fm.uI (Or.inr ⟨rfl, by decide⟩)) (fun σ3 h => ?_)
  refine f_L_X12_taken_45 (fun yq4 σ5 h => ?_) _ _ _ _ h
  exact fm_I h
set_option maxRecDepth 8000 in
theorem f_L_X12_counts {F : Nat} {x1 : Int32} {x2 : Int32} {x3 : Int32} {σ : sS} {z : (Int32 × sS)} (h : L_X12_counts F x1 x2 x3 σ = some z) : fm [139, 140, 143, 144, 145, 146, 149, 150, 151, 152, 154, 155, 156, 157, 158, 159, 160, 164, 165] [0, 1, 2, 37, 38, 41, 42, 47, 48, 53, 61, 62, 63] σ z.2 := by
  unfold L_X12_counts at h
  refine bnd_fm h (fm.uI (Or.inr ⟨rfl, by decide⟩)) (fun σ1 h => ?_)
  refine bd_fv h (fun rq3 h => ?_)
  refine ite_fm h (fun h => ?_) (fun h => ?_)
  · refine bd2_fm h (fun r9 τ9 g9 => (f_L_X12_refused g9).mo (by decide) (by decide)) (fun rq16 σ17 h => ?_)
    exact fm_I h
  · refine ite_fm h (fun h => ?_) (fun h => ?_)
    · refine bd2_fm h (fun r9 τ9 g9 => (f_L_X12_refused g9).mo (by decide) (by decide)) (fun rq7 σ8 h => ?_)
      exact fm_I h
    · refine bd2_fm h (fun r9 τ9 g9 => (f_L_X12_taken g9).mo (by decide) (by decide)) (fun rq10 σ11 h => ?_)
      refine bd2_fm h (fun r9 τ9 g9 => (f_L_X12_good g9).mo (by decide) (by decide)) (fun rq13 σ14 h => ?_)
      exact fm_I h
set_option maxRecDepth 8000 in
theorem f_L_X12_others {F : Nat} {x1 : Int32} {x2 : Int32} {x3 : Int32} {σ : sS} {z : (Int32 × sS)} (h : L_X12_others F x1 x2 x3 σ = some z) : fm [123, 124, 125, 126, 127, 128, 129, 130, 131, 136, 139, 140, 143, 144, 145, 146, 149, 150, 151, 152, 154, 155, 156, 157, 158, 159, 160, 164, 165] [0, 1, 2, 32, 33, 34, 35, 37, 38, 41, 42, 47, 48, 53, 61, 62, 63] σ z.2 := by
  unfold L_X12_others at h
  refine bnd_fm h (fm.uI (Or.inr ⟨rfl, by decide⟩)) (fun σ1 h => ?_)
  refine bd_fv h (fun rq3 h => ?_)
  refine ite_fm h (fun h => ?_) (fun h => ?_)
  · refine bd2_fm h (fun r9 τ9 g9 => (f_L_X12_refused g9).mo (by decide) (by decide)) (fun rq23 σ24 h => ?_)
    exact fm_I h
  · refine ite_fm h (fun h => ?_) (fun h => ?_)
    · refine bd2_fm h (fun r9 τ9 g9 => (f_L_X12_refused g9).mo (by decide) (by decide)) (fun rq20 σ21 h => ?_)
      exact fm_I h
    · refine bd2_fm h (fun r9 τ9 g9 => (f_L_X12_lays g9).mo (by decide) (by decide)) (fun rq7 σ8 h => ?_)
      refine ite_fm h (fun h => ?_) (fun h => ?_)
      · refine bd2_fm h (fun r9 τ9 g9 => (f_L_X12_refused g9).mo (by decide) (by decide)) (fun rq11 σ12 h => ?_)
        exact fm_I h
      · refine bd2_fm h (fun r9 τ9 g9 => (f_L_X12_taken g9).mo (by decide) (by decide)) (fun rq14 σ15 h => ?_)
        refine bd2_fm h (fun r9 τ9 g9 => (f_L_X12_good g9).mo (by decide) (by decide)) (fun rq17 σ18 h => ?_)
        exact fm_I h
set_option maxRecDepth 8000 in
theorem f_L_X12_way_5 {F : Nat} {x1 : Nat} {x2 : Int32} {σ : sS} {z : (Int32 × sS)} (hm : x1 ∈ [166, 167]) {kx : Int32 → Option (Int32 × sS)} (hx : ∀ (x3 : Int32), kx x3 = some z → fm [166, 167] [] σ z.2) : ∀ (n : Nat) (x3 : Int32) (x4 : Int32), L_X12_way_5 F x1 x2 σ kx n x3 x4 = some z → fm [166, 167] [] σ z.2 := by
  intro n
  induction n with
  | zero =>
    intro x3 x4 h
    rw [L_X12_way_5] at h
    cases h
  | succ n ih =>
    intro x3 x4 h
    rw [L_X12_way_5] at h
    replace h := (grd_at h).2
    refine ite_fm h (fun h => ?_) (fun h => ?_)
    · exact hx _ h
    · replace h := (grd_at h).2
      refine bnd_fv h (fun yq4 h => ?_)
      exact ih _ _ h
set_option maxRecDepth 8000 in
theorem f_L_X12_way_37 {F : Nat} {x1 : Nat} {x3 : Int32} {z : (Int32 × sS)} (hm : x1 ∈ [166, 167]) {kx : sS → Option (Int32 × sS)} (hx : ∀  (σ : sS), kx σ = some z → fm [166, 167] [] σ z.2) : ∀ (n : Nat) (x4 : Int32) (x5 : Int32) (σ : sS), L_X12_way_37 F x1 x3 kx n x4 x5 σ = some z → fm [166, 167] [] σ z.2 := by
  intro n
  induction n with
  | zero =>
    intro x4 x5 σ h
    rw [L_X12_way_37] at h
    cases h
  | succ n ih =>
    intro x4 x5 σ h
    rw [L_X12_way_37] at h
    replace h := (grd_at h).2
    refine ite_fm h (fun h => ?_) (fun h => ?_)
    · exact hx _ h
    · replace h := (grd_at h).2
      replace h := (grd_at h).2
      refine bnd_fm h (fm.uI (Or.inl hm)) (fun σ6 h => ?_)
      replace h := (grd_at h).2
      refine bnd_fv h (fun yq8 h => ?_)
      exact ih _ _ _ h
set_option maxRecDepth 8000 in
theorem f_L_X12_way {F : Nat} {x1 : Nat} {x2 : Int32} {σ : sS} {z : (Int32 × sS)} (hm : x1 ∈ [166, 167]) (h : L_X12_way F x1 x2 σ = some z) : fm [166, 167] [] σ z.2 := by
  unfold L_X12_way at h
  refine f_L_X12_way_5 hm (fun yq1 h => ?_) _ _ _ h
  refine f_L_X12_way_37 hm (fun σ2 h => ?_) _ _ _ _ h
  exact fm_I h
set_option maxRecDepth 8000 in
theorem f_L_X12_showsRound_36 {F : Nat} {x1 : Int32} {x2 : Int32} {x3 : Int32} {z : sS} {kx : sS → Option sS} (hx : ∀  (σ : sS), kx σ = some z → fm [143, 144, 145, 146, 149, 150, 151, 152, 166, 167] [47, 48, 53, 69] σ z) : ∀ (n : Nat) (x4 : Int32) (σ : sS), L_X12_showsRound_36 F x1 x2 x3 kx n x4 σ = some z → fm [143, 144, 145, 146, 149, 150, 151, 152, 166, 167] [47, 48, 53, 69] σ z := by
  intro n
  induction n with
  | zero =>
    intro x4 σ h
    rw [L_X12_showsRound_36] at h
    cases h
  | succ n ih =>
    intro x4 σ h
    rw [L_X12_showsRound_36] at h
    refine ite_fm h (fun h => ?_) (fun h => ?_)
    · exact hx _ h
    · refine bd2_fm h (fun r9 τ9 g9 => (f_L_X12_goesBy g9).mo (by decide) (by decide)) (fun rq12 σ13 h => ?_)
      refine ite_fm h (fun h => ?_) (fun h => ?_)
      · refine bd2_fm h (fun r9 τ9 g9 => (f_L_X12_way (by decide) g9).mo (by decide) (by decide)) (fun rq20 σ21 h => ?_)
        refine bnd_fm h (fm.uI (Or.inr ⟨rfl, by decide⟩)) (fun σ22 h => ?_)
        replace h := (grd_at h).2
        refine bnd_fm h (fm.uI (Or.inl (by decide))) (fun σ24 h => ?_)
        refine bnd_fm h (fm.uI (Or.inr ⟨rfl, by decide⟩)) (fun σ25 h => ?_)
        exact fm_V h
      · refine bd_fm h (fun τ9 g9 => (f_L_X12_meets g9).mo (by decide) (by decide)) (fun σ16 h => ?_)
        refine bd_fv h (fun rq18 h => ?_)
        exact ih _ _ h
set_option maxRecDepth 8000 in
theorem f_L_X12_showsRound_13 {F : Nat} {x1 : Int32} {z : sS} {kx : sS → Option sS} (hx : ∀  (σ : sS), kx σ = some z → fm [143, 144, 145, 146, 149, 150, 151, 152, 166, 167] [47, 48, 53, 69] σ z) : ∀ (n : Nat) (x2 : Int32) (σ : sS), L_X12_showsRound_13 F x1 kx n x2 σ = some z → fm [143, 144, 145, 146, 149, 150, 151, 152, 166, 167] [47, 48, 53, 69] σ z := by
  intro n
  induction n with
  | zero =>
    intro x2 σ h
    rw [L_X12_showsRound_13] at h
    cases h
  | succ n ih =>
    intro x2 σ h
    rw [L_X12_showsRound_13] at h
    refine ite_fm h (fun h => ?_) (fun h => ?_)
    · exact hx _ h
    · replace h := (grd_at h).2
      refine bnd_fv h (fun yq7 h => ?_)
      refine bd_fv h (fun rq9 h => ?_)
      refine f_L_X12_showsRound_36 (fun σ10 h => ?_) _ _ _ h
      exact ih _ _ h
set_option maxRecDepth 8000 in
theorem f_L_X12_showsRound {F : Nat} {x1 : Int32} {σ : sS} {z : sS} (h : L_X12_showsRound F x1 σ = some z) : fm [143, 144, 145, 146, 149, 150, 151, 152, 166, 167] [47, 48, 53, 69] σ z := by
  unfold L_X12_showsRound at h
  refine bd_fm h (fun τ9 g9 => (f_L_X12_meetsNone g9).mo (by decide) (by decide)) (fun σ2 h => ?_)
  refine bd_fm h (fun τ9 g9 => (f_L_X12_meets g9).mo (by decide) (by decide)) (fun σ4 h => ?_)
  refine f_L_X12_showsRound_13 (fun σ5 h => ?_) _ _ _ h
  exact fm_V h
