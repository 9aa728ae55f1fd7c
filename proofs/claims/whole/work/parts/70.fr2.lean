/-! frames of the reference, 2 -/
set_option maxRecDepth 8000 in
theorem f_L_X12_shows {F : Nat}  {σ : sS} {z : (Int32 × sS)} (h : L_X12_shows F σ = some z) : fm [143, 144, 145, 146, 149, 150, 151, 152, 154, 155, 156, 157, 158, 159, 160, 166, 167] [47, 48, 53, 61, 62, 63, 68, 69, 71] σ z.2 := by
  unfold L_X12_shows at h
  refine bd2_fm h (fun r9 τ9 g9 => (f_L_X12_found g9).mo (by decide) (by decide)) (fun rq2 σ3 h => ?_)
  refine ite_fm h (fun h => ?_) (fun h => ?_)
  · refine bnd_fm h (fm.uI (Or.inr ⟨rfl, by decide⟩)) (fun σ5 h => ?_)
    refine ite_fm h (fun h => ?_) (fun h => ?_)
    · exact fm_I h
    · refine bd2_fm h (fun r9 τ9 g9 => (f_L_X12_way (by decide) g9).mo (by decide) (by decide)) (fun rq8 σ9 h => ?_)
      refine bnd_fm h (fm.uI (Or.inr ⟨rfl, by decide⟩)) (fun σ10 h => ?_)
      refine bd_fm h (fun τ9 g9 => (f_L_X12_showsRound g9).mo (by decide) (by decide)) (fun σ12 h => ?_)
      exact fm_I h
  · refine bnd_fm h (fm.uI (Or.inr ⟨rfl, by decide⟩)) (fun σ13 h => ?_)
    refine ite_fm h (fun h => ?_) (fun h => ?_)
    · exact fm_I h
    · refine bd2_fm h (fun r9 τ9 g9 => (f_L_X12_way (by decide) g9).mo (by decide) (by decide)) (fun rq16 σ17 h => ?_)
      refine bnd_fm h (fm.uI (Or.inr ⟨rfl, by decide⟩)) (fun σ18 h => ?_)
      refine bd_fm h (fun τ9 g9 => (f_L_X12_showsRound g9).mo (by decide) (by decide)) (fun σ20 h => ?_)
      exact fm_I h
set_option maxRecDepth 8000 in
theorem f_L_X12_empty_35 {F : Nat} {x1 : Int32} {z : (Int32 × sS)} {kx : sS → Option (Int32 × sS)} (hx : ∀  (σ : sS), kx σ = some z → fm [143, 144, 145, 146, 149, 150, 151, 152, 154, 155, 156, 157, 158, 159, 160, 166, 167] [0, 1, 2, 37, 38, 47, 48, 53, 61, 62, 63, 68, 69, 71] σ z.2) : ∀ (n : Nat) (x2 : Int32) (σ : sS), L_X12_empty_35 F x1 kx n x2 σ = some z → fm [143, 144, 145, 146, 149, 150, 151, 152, 154, 155, 156, 157, 158, 159, 160, 166, 167] [0, 1, 2, 37, 38, 47, 48, 53, 61, 62, 63, 68, 69, 71] σ z.2 := by
  intro n
  induction n with
  | zero =>
    intro x2 σ h
    rw [L_X12_empty_35] at h
    cases h
  | succ n ih =>
    intro x2 σ h
    rw [L_X12_empty_35] at h
    refine ite_fm h (fun h => ?_) (fun h => ?_)
    · exact hx _ h
    · replace h := (grd_at h).2
      refine ite_fm h (fun h => ?_) (fun h => ?_)
      · refine bd_fm h (fun τ9 g9 => (f_L_X12_meets g9).mo (by decide) (by decide)) (fun σ13 h => ?_)
        exact ih _ _ h
      · exact ih _ _ h
set_option maxRecDepth 8000 in
theorem f_L_X12_empty {F : Nat} {x1 : Int32} {σ : sS} {z : (Int32 × sS)} (h : L_X12_empty F x1 σ = some z) : fm [143, 144, 145, 146, 149, 150, 151, 152, 154, 155, 156, 157, 158, 159, 160, 166, 167] [0, 1, 2, 37, 38, 47, 48, 53, 61, 62, 63, 68, 69, 71] σ z.2 := by
  unfold L_X12_empty at h
  refine bnd_fm h (fm.uI (Or.inr ⟨rfl, by decide⟩)) (fun σ1 h => ?_)
  refine bd_fv h (fun rq3 h => ?_)
  refine ite_fm h (fun h => ?_) (fun h => ?_)
  · refine bd2_fm h (fun r9 τ9 g9 => (f_L_X12_refused g9).mo (by decide) (by decide)) (fun rq23 σ24 h => ?_)
    exact fm_I h
  · refine bnd_fm h (fm.uI (Or.inr ⟨rfl, by decide⟩)) (fun σ5 h => ?_)
    refine bnd_fm h (fm.uI (Or.inr ⟨rfl, by decide⟩)) (fun σ6 h => ?_)
    refine bd_fm h (fun τ9 g9 => (f_L_X12_meetsNone g9).mo (by decide) (by decide)) (fun σ8 h => ?_)
    refine f_L_X12_empty_35 (fun σ9 h => ?_) _ _ _ h
    refine bd_fm h (fun τ9 g9 => (f_L_X12_meetsAll g9).mo (by decide) (by decide)) (fun σ11 h => ?_)
    refine bd2_fm h (fun r9 τ9 g9 => (f_L_X12_shows g9).mo (by decide) (by decide)) (fun rq13 σ14 h => ?_)
    refine ite_fm h (fun h => ?_) (fun h => ?_)
    · refine bd2_fm h (fun r9 τ9 g9 => (f_L_X12_good g9).mo (by decide) (by decide)) (fun rq17 σ18 h => ?_)
      exact fm_I h
    · refine bd2_fm h (fun r9 τ9 g9 => (f_L_X12_good g9).mo (by decide) (by decide)) (fun rq20 σ21 h => ?_)
      exact fm_I h
set_option maxRecDepth 8000 in
theorem f_L_X12_all {F : Nat} {x1 : Int32} {σ : sS} {z : (Int32 × sS)} (h : L_X12_all F x1 σ = some z) : fm [123, 124, 125, 126, 127, 128, 129, 130, 131, 136, 143, 144, 145, 146, 149, 150, 151, 152, 154, 155, 156, 157, 158, 159, 160, 166, 167] [0, 1, 2, 32, 33, 34, 35, 37, 38, 47, 48, 53, 61, 62, 63, 68, 69, 71] σ z.2 := by
  unfold L_X12_all at h
  refine bnd_fm h (fm.uI (Or.inr ⟨rfl, by decide⟩)) (fun σ1 h => ?_)
  refine bd_fv h (fun rq3 h => ?_)
  refine ite_fm h (fun h => ?_) (fun h => ?_)
  · refine bd2_fm h (fun r9 τ9 g9 => (f_L_X12_refused g9).mo (by decide) (by decide)) (fun rq31 σ32 h => ?_)
    exact fm_I h
  · refine bd2_fm h (fun r9 τ9 g9 => (f_L_X12_lays g9).mo (by decide) (by decide)) (fun rq6 σ7 h => ?_)
    refine ite_fm h (fun h => ?_) (fun h => ?_)
    · refine bd2_fm h (fun r9 τ9 g9 => (f_L_X12_refused g9).mo (by decide) (by decide)) (fun rq28 σ29 h => ?_)
      exact fm_I h
    · refine bnd_fm h (fm.uI (Or.inr ⟨rfl, by decide⟩)) (fun σ9 h => ?_)
      refine bnd_fm h (fm.uI (Or.inr ⟨rfl, by decide⟩)) (fun σ10 h => ?_)
      refine bd_fm h (fun τ9 g9 => (f_L_X12_meetsNone g9).mo (by decide) (by decide)) (fun σ12 h => ?_)
      refine bd_fm h (fun τ9 g9 => (f_L_X12_meets g9).mo (by decide) (by decide)) (fun σ14 h => ?_)
      refine bd_fm h (fun τ9 g9 => (f_L_X12_meetsAll g9).mo (by decide) (by decide)) (fun σ16 h => ?_)
      refine bd2_fm h (fun r9 τ9 g9 => (f_L_X12_shows g9).mo (by decide) (by decide)) (fun rq18 σ19 h => ?_)
      refine ite_fm h (fun h => ?_) (fun h => ?_)
      · refine bd2_fm h (fun r9 τ9 g9 => (f_L_X12_good g9).mo (by decide) (by decide)) (fun rq22 σ23 h => ?_)
        exact fm_I h
      · refine bd2_fm h (fun r9 τ9 g9 => (f_L_X12_good g9).mo (by decide) (by decide)) (fun rq25 σ26 h => ?_)
        exact fm_I h
set_option maxRecDepth 8000 in
theorem f_L_X12_within_63 {F : Nat} {x1 : Int32} {z : (Int32 × sS)} {kx : sS → Option (Int32 × sS)} (hx : ∀  (σ : sS), kx σ = some z → fm [123, 124, 125, 126, 127, 128, 129, 130, 131, 136, 143, 144, 145, 146, 149, 150, 151, 152, 154, 155, 156, 157, 158, 159, 160, 166, 167] [0, 1, 2, 32, 33, 34, 35, 37, 38, 47, 48, 53, 61, 62, 63, 68, 69, 70, 71] σ z.2) : ∀ (n : Nat) (x3 : Int32) (σ : sS), L_X12_within_63 F x1 kx n x3 σ = some z → fm [123, 124, 125, 126, 127, 128, 129, 130, 131, 136, 143, 144, 145, 146, 149, 150, 151, 152, 154, 155, 156, 157, 158, 159, 160, 166, 167] [0, 1, 2, 32, 33, 34, 35, 37, 38, 47, 48, 53, 61, 62, 63, 68, 69, 70, 71] σ z.2 := by
  intro n
  induction n with
  | zero =>
    intro x3 σ h
    rw [L_X12_within_63] at h
    cases h
  | succ n ih =>
    intro x3 σ h
    rw [L_X12_within_63] at h
    refine ite_fm h (fun h => ?_) (fun h => ?_)
    · exact hx _ h
    · replace h := (grd_at h).2
      refine bnd_fm h (fm.uI (Or.inl (by decide))) (fun σ21 h => ?_)
      exact ih _ _ h
set_option maxRecDepth 8000 in
theorem f_L_X12_within_89 {F : Nat} {x1 : Int32} {z : (Int32 × sS)} {kx : sS → Option (Int32 × sS)} (hx : ∀  (σ : sS), kx σ = some z → fm [123, 124, 125, 126, 127, 128, 129, 130, 131, 136, 143, 144, 145, 146, 149, 150, 151, 152, 154, 155, 156, 157, 158, 159, 160, 166, 167] [0, 1, 2, 32, 33, 34, 35, 37, 38, 47, 48, 53, 61, 62, 63, 68, 69, 70, 71] σ z.2) : ∀ (n : Nat) (x3 : Int32) (σ : sS), L_X12_within_89 F x1 kx n x3 σ = some z → fm [123, 124, 125, 126, 127, 128, 129, 130, 131, 136, 143, 144, 145, 146, 149, 150, 151, 152, 154, 155, 156, 157, 158, 159, 160, 166, 167] [0, 1, 2, 32, 33, 34, 35, 37, 38, 47, 48, 53, 61, 62, 63, 68, 69, 70, 71] σ z.2 := by
  intro n
  induction n with
  | zero =>
    intro x3 σ h
    rw [L_X12_within_89] at h
    cases h
  | succ n ih =>
    intro x3 σ h
    rw [L_X12_within_89] at h
    refine ite_fm h (fun h => ?_) (fun h => ?_)
    · exact hx _ h
    · replace h := (grd_at h).2
      refine ite_fm h (fun h => ?_) (fun h => ?_)
      · refine bd2_fm h (fun r9 τ9 g9 => (f_L_X12_three g9).mo (by decide) (by decide)) (fun rq26 σ27 h => ?_)
        refine bd_fm h (fun τ9 g9 => (f_L_X12_meets g9).mo (by decide) (by decide)) (fun σ29 h => ?_)
        exact ih _ _ h
      · exact ih _ _ h
set_option maxRecDepth 8000 in
theorem f_L_X12_within {F : Nat} {x1 : Int32} {x2 : Int32} {σ : sS} {z : (Int32 × sS)} (h : L_X12_within F x1 x2 σ = some z) : fm [123, 124, 125, 126, 127, 128, 129, 130, 131, 136, 143, 144, 145, 146, 149, 150, 151, 152, 154, 155, 156, 157, 158, 159, 160, 166, 167] [0, 1, 2, 32, 33, 34, 35, 37, 38, 47, 48, 53, 61, 62, 63, 68, 69, 70, 71] σ z.2 := by
  unfold L_X12_within at h
  refine bnd_fm h (fm.uI (Or.inr ⟨rfl, by decide⟩)) (fun σ1 h => ?_)
  refine bd_fv h (fun rq3 h => ?_)
  refine ite_fm h (fun h => ?_) (fun h => ?_)
  · refine bd2_fm h (fun r9 τ9 g9 => (f_L_X12_refused g9).mo (by decide) (by decide)) (fun rq6 σ7 h => ?_)
    exact fm_I h
  · refine bd_fv h (fun rq9 h => ?_)
    refine ite_fm h (fun h => ?_) (fun h => ?_)
    · refine bd2_fm h (fun r9 τ9 g9 => (f_L_X12_refused g9).mo (by decide) (by decide)) (fun rq44 σ45 h => ?_)
      exact fm_I h
    · refine bd2_fm h (fun r9 τ9 g9 => (f_L_X12_lays g9).mo (by decide) (by decide)) (fun rq12 σ13 h => ?_)
      refine ite_fm h (fun h => ?_) (fun h => ?_)
      · refine bd2_fm h (fun r9 τ9 g9 => (f_L_X12_refused g9).mo (by decide) (by decide)) (fun rq41 σ42 h => ?_)
        exact fm_I h
      · refine bnd_fm h (fm.uI (Or.inr ⟨rfl, by decide⟩)) (fun σ15 h => ?_)
        refine bnd_fm h (fm.uI (Or.inr ⟨rfl, by decide⟩)) (fun σ16 h => ?_)
        refine bnd_fm h (fm.uI (Or.inr ⟨rfl, by decide⟩)) (fun σ17 h => ?_)
        refine bnd_fm h (fm.uI (Or.inr ⟨rfl, by decide⟩)) (fun σ18 h => ?_)
        refine f_L_X12_within_63 (fun σ19 h => ?_) _ _ _ h
        refine bd_fm h (fun τ9 g9 => (f_L_X12_meetsNone g9).mo (by decide) (by decide)) (fun σ21 h => ?_)
        refine f_L_X12_within_89 (fun σ22 h => ?_) _ _ _ h
        refine bd_fm h (fun τ9 g9 => (f_L_X12_meetsAll g9).mo (by decide) (by decide)) (fun σ24 h => ?_)
        refine ite_fm h (fun h => ?_) (fun h => ?_)
        · refine bd2_fm h (fun r9 τ9 g9 => (f_L_X12_refused g9).mo (by decide) (by decide)) (fun rq38 σ39 h => ?_)
          exact fm_I h
        · refine bnd_fm h (fm.uI (Or.inr ⟨rfl, by decide⟩)) (fun σ26 h => ?_)
          refine bd2_fm h (fun r9 τ9 g9 => (f_L_X12_shows g9).mo (by decide) (by decide)) (fun rq28 σ29 h => ?_)
          refine ite_fm h (fun h => ?_) (fun h => ?_)
          · refine bd2_fm h (fun r9 τ9 g9 => (f_L_X12_good g9).mo (by decide) (by decide)) (fun rq32 σ33 h => ?_)
            exact fm_I h
          · refine bd2_fm h (fun r9 τ9 g9 => (f_L_X12_good g9).mo (by decide) (by decide)) (fun rq35 σ36 h => ?_)
            exact fm_I h
set_option maxRecDepth 8000 in
theorem f_L_X12_met  {σ : sS} {z : (Int32 × sS)} (h : L_X12_met σ = some z) : fm [] [0] σ z.2 := by
  unfold L_X12_met at h
  refine bnd_fm h (fm.uI (Or.inr ⟨rfl, by decide⟩)) (fun σ1 h => ?_)
  exact fm_I h
set_option maxRecDepth 8000 in
theorem f_L_X12_shown {x1 : Int32} {σ : sS} {z : (Int32 × sS)} (h : L_X12_shown x1 σ = some z) : fm [] [0, 1, 2] σ z.2 := by
  unfold L_X12_shown at h
  refine bnd_fm h (fm.uI (Or.inr ⟨rfl, by decide⟩)) (fun σ1 h => ?_)
  refine ite_fm h (fun h => ?_) (fun h => ?_)
  · refine bd2_fm h (fun r9 τ9 g9 => (f_L_X12_refused g9).mo (by decide) (by decide)) (fun rq15 σ16 h => ?_)
    exact fm_I h
  · refine ite_fm h (fun h => ?_) (fun h => ?_)
    · refine bd2_fm h (fun r9 τ9 g9 => (f_L_X12_good g9).mo (by decide) (by decide)) (fun rq12 σ13 h => ?_)
      exact fm_I h
    · refine ite_fm h (fun h => ?_) (fun h => ?_)
      · refine bd2_fm h (fun r9 τ9 g9 => (f_L_X12_good g9).mo (by decide) (by decide)) (fun rq9 σ10 h => ?_)
        exact fm_I h
      · refine bd2_fm h (fun r9 τ9 g9 => (f_L_X12_good g9).mo (by decide) (by decide)) (fun rq6 σ7 h => ?_)
        exact fm_I h
set_option maxRecDepth 8000 in
theorem f_L_X12_letter {x1 : Int32} {σ : sS} {z : (Int32 × sS)} (h : L_X12_letter x1 σ = some z) : fm [] [0] σ z.2 := by
  unfold L_X12_letter at h
  refine bnd_fm h (fm.uI (Or.inr ⟨rfl, by decide⟩)) (fun σ1 h => ?_)
  refine ite_fm h (fun h => ?_) (fun h => ?_)
  · refine bnd_fm h (fm.uI (Or.inr ⟨rfl, by decide⟩)) (fun σ3 h => ?_)
    exact fm_I h
  · refine ite_fm h (fun h => ?_) (fun h => ?_)
    · refine bnd_fm h (fm.uI (Or.inr ⟨rfl, by decide⟩)) (fun σ5 h => ?_)
      exact fm_I h
    · refine ite_fm h (fun h => ?_) (fun h => ?_)
      · replace h := (grd_at h).2
        exact fm_I h
      · replace h := (grd_at h).2
        exact fm_I h
set_option maxRecDepth 8000 in
theorem f_L_X12_link {F : Nat} {x1 : Int32} {x2 : Int32} {x3 : Int32} {x4 : Int32} {x5 : Int32} {σ : sS} {z : (Int32 × sS)} (h : L_X12_link F x1 x2 x3 x4 x5 σ = some z) : fm [117] [0, 1, 2, 32] σ z.2 := by
  unfold L_X12_link at h
  refine bnd_fm h (fm.uI (Or.inr ⟨rfl, by decide⟩)) (fun σ1 h => ?_)
  refine bd_fv h (fun rq3 h => ?_)
  refine ite_fm h (fun h => ?_) (fun h => ?_)
  · refine bd2_fm h (fun r9 τ9 g9 => (f_L_X12_refused g9).mo (by decide) (by decide)) (fun rq6 σ7 h => ?_)
    exact fm_I h
  · refine bd_fv h (fun rq9 h => ?_)
    refine ite_fm h (fun h => ?_) (fun h => ?_)
    · refine bd2_fm h (fun r9 τ9 g9 => (f_L_X12_refused g9).mo (by decide) (by decide)) (fun rq12 σ13 h => ?_)
      exact fm_I h
    · refine bd_fv h (fun rq15 h => ?_)
      refine ite_fm h (fun h => ?_) (fun h => ?_)
      · refine bd2_fm h (fun r9 τ9 g9 => (f_L_X12_refused g9).mo (by decide) (by decide)) (fun rq47 σ48 h => ?_)
        exact fm_I h
      · refine bnd_fv h (fun yq17 h => ?_)
        replace h := (grd_at h).2
        refine ite_fm h (fun h => ?_) (fun h => ?_)
        · refine ite_fm h (fun h => ?_) (fun h => ?_)
          · refine bd2_fm h (fun r9 τ9 g9 => (f_L_X12_refused g9).mo (by decide) (by decide)) (fun rq44 σ45 h => ?_)
            exact fm_I h
          · replace h := (grd_at h).2
            replace h := (grd_at h).2
            refine bnd_fm h (fm.uI (Or.inl (by decide))) (fun σ36 h => ?_)
            refine bnd_fm h (fm.uI (Or.inr ⟨rfl, by decide⟩)) (fun σ37 h => ?_)
            refine bd_fv h (fun rq39 h => ?_)
            refine bd2_fm h (fun r9 τ9 g9 => (f_L_X12_good g9).mo (by decide) (by decide)) (fun rq41 σ42 h => ?_)
            exact fm_I h
        · refine ite_fm h (fun h => ?_) (fun h => ?_)
          · refine bd2_fm h (fun r9 τ9 g9 => (f_L_X12_refused g9).mo (by decide) (by decide)) (fun rq31 σ32 h => ?_)
            exact fm_I h
          · replace h := (grd_at h).2
            replace h := (grd_at h).2
            refine bnd_fm h (fm.uI (Or.inl (by decide))) (fun σ23 h => ?_)
            refine bnd_fm h (fm.uI (Or.inr ⟨rfl, by decide⟩)) (fun σ24 h => ?_)
            refine bd_fv h (fun rq26 h => ?_)
            refine bd2_fm h (fun r9 τ9 g9 => (f_L_X12_good g9).mo (by decide) (by decide)) (fun rq28 σ29 h => ?_)
            exact fm_I h
set_option maxRecDepth 8000 in
theorem f_L_X12_mark {x1 : Int32} {x2 : Int32} {x3 : Int32} {σ : sS} {z : (Int32 × sS)} (h : L_X12_mark x1 x2 x3 σ = some z) : fm [116] [0, 1, 2, 32] σ z.2 := by
  unfold L_X12_mark at h
  refine bnd_fm h (fm.uI (Or.inr ⟨rfl, by decide⟩)) (fun σ1 h => ?_)
  refine bd_fv h (fun rq3 h => ?_)
  refine ite_fm h (fun h => ?_) (fun h => ?_)
  · refine bd2_fm h (fun r9 τ9 g9 => (f_L_X12_refused g9).mo (by decide) (by decide)) (fun rq32 σ33 h => ?_)
    exact fm_I h
  · replace h := (grd_at h).2
    refine ite_fm h (fun h => ?_) (fun h => ?_)
    · refine ite_fm h (fun h => ?_) (fun h => ?_)
      · refine bd2_fm h (fun r9 τ9 g9 => (f_L_X12_refused g9).mo (by decide) (by decide)) (fun rq29 σ30 h => ?_)
        exact fm_I h
      · replace h := (grd_at h).2
        replace h := (grd_at h).2
        refine bnd_fm h (fm.uI (Or.inl (by decide))) (fun σ22 h => ?_)
        refine bnd_fm h (fm.uI (Or.inr ⟨rfl, by decide⟩)) (fun σ23 h => ?_)
        replace h := (grd_at h).2
        refine bd2_fm h (fun r9 τ9 g9 => (f_L_X12_good g9).mo (by decide) (by decide)) (fun rq26 σ27 h => ?_)
        exact fm_I h
    · refine ite_fm h (fun h => ?_) (fun h => ?_)
      · refine bd2_fm h (fun r9 τ9 g9 => (f_L_X12_refused g9).mo (by decide) (by decide)) (fun rq17 σ18 h => ?_)
        exact fm_I h
      · replace h := (grd_at h).2
        replace h := (grd_at h).2
        refine bnd_fm h (fm.uI (Or.inl (by decide))) (fun σ10 h => ?_)
        refine bnd_fm h (fm.uI (Or.inr ⟨rfl, by decide⟩)) (fun σ11 h => ?_)
        replace h := (grd_at h).2
        refine bd2_fm h (fun r9 τ9 g9 => (f_L_X12_good g9).mo (by decide) (by decide)) (fun rq14 σ15 h => ?_)
        exact fm_I h
set_option maxRecDepth 8000 in
theorem f_L_X12_begin {x1 : Int32} {x2 : Int32} {x3 : Int32} {σ : sS} {z : (Int32 × sS)} (h : L_X12_begin x1 x2 x3 σ = some z) : fm [115] [0, 1, 2, 32] σ z.2 := by
  unfold L_X12_begin at h
  refine bnd_fm h (fm.uI (Or.inr ⟨rfl, by decide⟩)) (fun σ1 h => ?_)
  refine bd_fv h (fun rq3 h => ?_)
  refine ite_fm h (fun h => ?_) (fun h => ?_)
  · refine bd2_fm h (fun r9 τ9 g9 => (f_L_X12_refused g9).mo (by decide) (by decide)) (fun rq32 σ33 h => ?_)
    exact fm_I h
  · replace h := (grd_at h).2
    refine ite_fm h (fun h => ?_) (fun h => ?_)
    · refine ite_fm h (fun h => ?_) (fun h => ?_)
      · refine bd2_fm h (fun r9 τ9 g9 => (f_L_X12_refused g9).mo (by decide) (by decide)) (fun rq29 σ30 h => ?_)
        exact fm_I h
      · replace h := (grd_at h).2
        replace h := (grd_at h).2
        refine bnd_fm h (fm.uI (Or.inl (by decide))) (fun σ22 h => ?_)
        refine bnd_fm h (fm.uI (Or.inr ⟨rfl, by decide⟩)) (fun σ23 h => ?_)
        replace h := (grd_at h).2
        refine bd2_fm h (fun r9 τ9 g9 => (f_L_X12_good g9).mo (by decide) (by decide)) (fun rq26 σ27 h => ?_)
        exact fm_I h
    · refine ite_fm h (fun h => ?_) (fun h => ?_)
      · refine bd2_fm h (fun r9 τ9 g9 => (f_L_X12_refused g9).mo (by decide) (by decide)) (fun rq17 σ18 h => ?_)
        exact fm_I h
      · replace h := (grd_at h).2
        replace h := (grd_at h).2
        refine bnd_fm h (fm.uI (Or.inl (by decide))) (fun σ10 h => ?_)
        refine bnd_fm h (fm.uI (Or.inr ⟨rfl, by decide⟩)) (fun σ11 h => ?_)
        replace h := (grd_at h).2
        refine bd2_fm h (fun r9 τ9 g9 => (f_L_X12_good g9).mo (by decide) (by decide)) (fun rq14 σ15 h => ?_)
        exact fm_I h
set_option maxRecDepth 8000 in
theorem f_L_X12_size  {σ : sS} {z : (Int32 × sS)} (h : L_X12_size σ = some z) : fm [] [0] σ z.2 := by
  unfold L_X12_size at h
  refine bnd_fm h (fm.uI (Or.inr ⟨rfl, by decide⟩)) (fun σ1 h => ?_)
  exact fm_I h
set_option maxRecDepth 8000 in
theorem f_L_X12_trouble  {σ : sS} {z : (Int32 × sS)} (h : L_X12_trouble σ = some z) : fm [] [0] σ z.2 := by
  unfold L_X12_trouble at h
  refine bnd_fm h (fm.uI (Or.inr ⟨rfl, by decide⟩)) (fun σ1 h => ?_)
  exact fm_I h
