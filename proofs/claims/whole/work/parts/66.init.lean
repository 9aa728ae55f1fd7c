/-! the state at the law's first call -/
def pl_tab : List Nat := [0, 1, 2, 4, 5, 7, 10, 12, 9, 14, 17, 20, 15, 18, 21, 23, 24, 26, 27, 28, 29, 31, 33, 35, 37, 39, 52, 54, 64, 74, 55, 65, 75, 57, 67, 77, 58, 68, 78, 60, 70, 80, 62, 72, 82, 84, 85, 87, 89, 91, 93, 94, 96, 98, 100, 102, 41, 42, 44, 46, 48, 50, 9999, 9999, 9999, 9999, 9999, 9999, 9999, 9999, 9999, 9999, 9999, 9999, 9999, 9999, 9999, 9999, 9999, 9999, 142, 9999, 9999, 9999, 9999, 9999, 9999, 9999, 9999, 9999, 104, 9999, 9999, 9999, 9999, 9999, 9999, 9999, 9999, 9999, 9999, 9999, 9999, 105, 9999, 9999, 9999, 9999, 9999, 9999, 9999, 9999, 9999, 9999, 106, 107, 108, 109, 110, 9999, 9999, 9999, 9999, 111, 112, 113, 114, 115, 116, 117, 118, 119, 9999, 9999, 9999, 9999, 120, 9999, 9999, 121, 122, 9999, 9999, 123, 124, 125, 126, 9999, 9999, 127, 128, 129, 130, 9999, 131, 132, 133, 134, 135, 136, 137, 9999, 9999, 9999, 138, 139, 140, 141]
def pr_tab : List Nat := [9999, 9999, 3, 9999, 6, 8, 11, 13, 9999, 9999, 9999, 9999, 16, 19, 22, 9999, 25, 9999, 9999, 9999, 30, 32, 34, 36, 38, 40, 53, 9999, 9999, 9999, 56, 66, 76, 9999, 9999, 9999, 59, 69, 79, 61, 71, 81, 63, 73, 83, 9999, 86, 88, 90, 92, 9999, 95, 97, 99, 101, 103, 9999, 43, 45, 47, 49, 51]
def iv_tab : List Nat := [0, 1, 2, 1002, 3, 4, 1004, 5, 1005, 8, 6, 1006, 7, 1007, 9, 12, 1012, 10, 13, 1013, 11, 14, 1014, 15, 16, 1016, 17, 18, 19, 20, 1020, 21, 1021, 22, 1022, 23, 1023, 24, 1024, 25, 1025, 56, 57, 1057, 58, 1058, 59, 1059, 60, 1060, 61, 1061, 26, 1026, 27, 30, 1030, 33, 36, 1036, 39, 1039, 42, 1042, 28, 31, 1031, 34, 37, 1037, 40, 1040, 43, 1043, 29, 32, 1032, 35, 38, 1038, 41, 1041, 44, 1044, 45, 46, 1046, 47, 1047, 48, 1048, 49, 1049, 50, 51, 1051, 52, 1052, 53, 1053, 54, 1054, 55, 1055, 90, 103, 114, 115, 116, 117, 118, 123, 124, 125, 126, 127, 128, 129, 130, 131, 136, 139, 140, 143, 144, 145, 146, 149, 150, 151, 152, 154, 155, 156, 157, 158, 159, 160, 164, 165, 166, 167, 80]
def cp_tab : List Nat := [0, 0, 400, 0, 3, 3, 10, 10, 0, 0, 0, 0, 12, 12, 12, 0, 128, 0, 0, 0, 0, 0, 0, 0, 0, 0, 0, 0, 0, 0, 12, 12, 12, 0, 0, 0, 0, 0, 0, 0, 0, 0, 0, 0, 0, 0, 0, 0, 0, 0, 0, 0, 0, 0, 0, 0, 0, 0, 0, 0, 0, 0]
/-- an id's place, its Row's cells' place, what lies at a place, a Row's capacity -/
def pl (a : Nat) : Nat := pl_tab.getD a 9999
def pr (a : Nat) : Nat := pr_tab.getD a 9999
def iv (q : Nat) : Nat := iv_tab.getD q 9999
def s0I (a k : Nat) : Int32 := if (a = 1 ∧ k = 8) ∨ (a = 90 ∧ (k = 2 ∨ k = 32)) then -1 else 0
def s0R (a k : Nat) : Option Nat := if a = 45 then (if k = 1 then some 46 else if k = 2 then some 47 else if k = 5 then some 27 else if k = 6 then some 49 else none) else if a = 50 then (if k = 5 then some 27 else if k = 6 then some 33 else none) else none
/-- the state at the law's first call -/
def s00 : sS := (s0I, fun _ _ => 0, s0R, fun _ => 0, fun a => cp_tab.getD a 0, 143, 316186)
def c_fin : Option cS := bd (C_X11_init 0 (cNew 10 12 [1, 1, 1, 1, 1, 1, 1, 1, 1, 0, 0, 0] ([], 0, 0))) (fun σ1 => bd (C_X12_init 104 (cNew 11 72 [0, 0, 0, 1, 0, 0, 0, 0, 0, 0, 0, 0, 0, 2, 1, 1, 1, 1, 1, 0, 0, 0, 0, 1, 1, 1, 1, 1, 1, 1, 1, 1, 0, 0, 0, 0, 1, 0, 0, 1, 1, 0, 0, 1, 1, 1, 1, 0, 0, 1, 1, 1, 1, 0, 1, 1, 1, 1, 1, 1, 1, 0, 0, 0, 1, 1, 1, 1, 0, 0, 0, 0] σ1)) (fun σ2 => some (cArr 2 1 [] σ2)))
def rcd (x : Option Nat) : Nat := match x with | none => 1 | some y => 4 + pl y
/-- the code of a field, of an id's cell -/
def fc (a : Nat) (q : Nat × Nat) : Nat := if q.1 = 0 then (if (a = 1 ∧ q.2 = 8) ∨ (a = 90 ∧ (q.2 = 2 ∨ q.2 = 32)) then 3 else 0) else if q.1 = 1 then 2 else if q.1 = 2 then rcd (sr a q.2) else rcd (s0R a q.2)
def ec (a i : Nat) : Nat := rcd (sr a i)
def cec (a : Nat) : cC := match (la a).1 with
  | 1 => (0, (la a).2, (kd (la a).2).zipIdx.map (fc a))
  | 2 => (1, (la a).2, [])
  | 3 => (2, (la a).2, [])
  | 4 => (3, (la a).2, [])
  | 5 => (4, (la a).2, (List.range (la a).2).map (ec a))
  | 6 => (5, (la a).2, (List.range (la a).2).map (ec a))
  | _ => (0, 6, [4 + pr a, 0])
def c_chk (L : List cC) : Bool := (List.range 200).all (fun a => decide ((la a).1 = 0) || (decide (L[pl a]? = some (cec a)) && decide (iv (pl a) = a) && (!decide ((la a).1 = 7) || (decide (L[pr a]? = some (1, cp_tab.getD a 0, [])) && decide (iv (pr a) = 1000 + a) && decide (cp_tab.getD a 0 ≤ 270000)))))
theorem c_fin_ok : ∃ L, c_fin = some (L, 143, 316186) ∧ L.length = 143 ∧ c_chk L = true := by
  have h : (match c_fin with | none => false | some x => decide (x.2 = (143, 316186)) && decide (x.1.length = 143) && c_chk x.1) = true := by decide +kernel
  cases e : c_fin with
  | none => rw [e] at h; cases h
  | some x =>
    rw [e] at h
    obtain ⟨h1, h2⟩ := Bool.and_eq_true_iff.mp h
    obtain ⟨h3, h4⟩ := Bool.and_eq_true_iff.mp h1
    obtain ⟨L, y⟩ := x
    have h5 : y = (143, 316186) := of_decide_eq_true h3
    subst h5
    exact ⟨L, rfl, of_decide_eq_true h4, h2⟩
theorem sr_lt : ∀ (a k b : Nat), sr a k = some b → b < 200 := by
  have h : sr_tab.all (fun r => r.all (fun x => match x with | none => true | some b => decide (b < 200))) = true := by decide +kernel
  intro a k b hb
  unfold sr at hb
  rw [List.getD_eq_getElem?_getD, List.getD_eq_getElem?_getD] at hb
  cases ha : sr_tab[a]? with
  | none => rw [ha] at hb; simp at hb
  | some r =>
    rw [ha] at hb
    have hr := List.all_eq_true.mp h r (List.mem_of_getElem? ha)
    cases hk : r[k]? with
    | none => simp [hk] at hb
    | some x =>
      simp [hk] at hb
      have hx := List.all_eq_true.mp hr x (List.mem_of_getElem? hk)
      rw [hb] at hx
      exact of_decide_eq_true hx
theorem s0R_lt (a k b : Nat) (h : s0R a k = some b) : b < 200 := by
  unfold s0R at h
  repeat' split at h
  all_goals first | (cases h; decide) | (cases h)
def ad0 (b : Nat) (kk : Nat → Nat) (a : Nat) : Nat := if a < 200 then b + pl a else kk (a - 200)
def ar0 (b a : Nat) : Nat := b + pr a
theorem ad0_lt {b a : Nat} {kk : Nat → Nat} (h : a < 200) : ad0 b kk a = b + pl a := if_pos h
theorem la_lt {a : Nat} (h : (la a).1 ≠ 0) : a < 200 := by
  by_cases ha : a < 200
  · exact ha
  · exact absurd (by
      have hl : la_tab.length ≤ 200 := by decide +kernel
      unfold la
      rw [List.getD_eq_getElem?_getD, List.getElem?_eq_none_iff.mpr (by omega)]
      rfl) h
theorem va_ad {b : Nat} {kk : Nat → Nat} {x : Option Nat} (h : ∀ y, x = some y → y < 200) : va_rf (x.map (ad0 b kk)) = vd b (rcd x) := by
  cases x with
  | none => rfl
  | some y =>
    show Value.ref (ad0 b kk y) = vd b (4 + pl y)
    rw [vd_ref, ad0_lt (h y rfl)]
theorem fw_fc {b a : Nat} {kk : Nat → Nat} (q : Nat × Nat) : fw (ad0 b kk) s00 a q = vd b (fc a q) := by
  obtain ⟨t, k⟩ := q
  unfold fw fc
  show (if t = 0 then Value.int (s0I a k) else if t = 1 then Value.long 0 else if t = 2 then va_rf ((sr a k).map (ad0 b kk)) else va_rf ((s0R a k).map (ad0 b kk))) = vd b (if t = 0 then _ else if t = 1 then _ else if t = 2 then _ else _)
  by_cases h0 : t = 0
  · rw [if_pos h0, if_pos h0]
    unfold s0I
    split
    · rfl
    · rfl
  · rw [if_neg h0, if_neg h0]
    by_cases h1 : t = 1
    · rw [if_pos h1, if_pos h1]; rfl
    · rw [if_neg h1, if_neg h1]
      by_cases h2 : t = 2
      · rw [if_pos h2, if_pos h2]
        exact va_ad (fun y hy => sr_lt a k y hy)
      · rw [if_neg h2, if_neg h2]
        exact va_ad (fun y hy => s0R_lt a k y hy)
theorem ec_rdc {b a n : Nat} {kk : Nat → Nat} (hn : ∀ i, n ≤ i → sr a i = none) : (fun i => (sr a i).map (ad0 b kk)) = fun i => rdc b (((List.range n).map (ec a)).getD i 1) := by
  funext i
  rw [List.getD_eq_getElem?_getD, List.getElem?_map]
  by_cases hi : i < n
  · rw [List.getElem?_range hi]
    show _ = rdc b (ec a i)
    unfold ec
    cases h : sr a i with
    | none => rfl
    | some y =>
      show some (ad0 b kk y) = rdc b (4 + pl y)
      rw [rdc_4, ad0_lt (sr_lt a i y h)]
  · rw [List.getElem?_eq_none_iff.mpr (by simp; omega), hn i (by omega)]
    rfl
theorem ce_cec {b a : Nat} {kk : Nat → Nat} (h0 : (la a).1 ≠ 0) : ce (ad0 b kk) (ar0 b) s00 a = cd b (cec a) := by
  have ha := la_lt h0
  have hk : ∀ a, a < 200 → ((la a).1 = 0 ∨ (la a).1 = 1 ∨ (la a).1 = 2 ∨ (la a).1 = 3 ∨ (la a).1 = 4 ∨ ((la a).1 = 5 ∧ (sr_tab.getD a []).length ≤ (la a).2) ∨ ((la a).1 = 6 ∧ (sr_tab.getD a []).length ≤ (la a).2) ∨ (la a).1 = 7) ∧ (((la a).1 = 2 ∨ (la a).1 = 3 ∨ (la a).1 = 4 ∨ (la a).1 = 7) → a ≠ 1 ∧ a ≠ 90) := by decide +kernel
  have hs : ∀ n i, (sr_tab.getD a []).length ≤ n → n ≤ i → sr a i = none := by
    intro n i h1 h2
    unfold sr
    rw [List.getD_eq_getElem?_getD, List.getElem?_eq_none_iff.mpr (by omega)]
    rfl
  obtain ⟨h, hz⟩ := hk a ha
  have hI : a ≠ 1 ∧ a ≠ 90 → vI s00 a = fun _ => 0 := by
    rintro ⟨p1, p2⟩
    funext k
    show s0I a k = 0
    unfold s0I
    rw [if_neg]
    rintro (⟨h, -⟩ | ⟨h, -⟩)
    · exact p1 h
    · exact p2 h
  rcases h with h | h | h | h | h | ⟨h, hl⟩ | ⟨h, hl⟩ | h
  · exact absurd h h0
  · have e : fv (ad0 b kk) s00 a (la a).2 = ((kd (la a).2).zipIdx.map (fc a)).map (vd b) := by
      unfold fv
      rw [List.map_map]
      exact List.map_congr_left (fun q _ => fw_fc q)
    simp only [ce, cec, h, cd, e]
  · have e := hI (hz (Or.inl h))
    simp only [ce, cec, h, cd, e]
  · simp only [ce, cec, h, cd]
    rfl
  · have e := hI (hz (Or.inr (Or.inr (Or.inl h))))
    simp only [ce, cec, h, cd, e]
  · have e := ec_rdc (b := b) (kk := kk) (hs (la a).2 · hl)
    simp only [ce, cec, h, cd, e]
  · have e := ec_rdc (b := b) (kk := kk) (hs (la a).2 · hl)
    simp only [ce, cec, h, cd, e]
  · have e := la_7 h
    simp only [ce, cec, h, cd]
    show Sum.inr (6, [Value.ref (ar0 b a), Value.int 0]) = Sum.inr (6, [vd b (4 + pr a), vd b 0])
    rw [vd_ref]
    rfl
/-- the new cells hold the state -/
theorem fin_sR {b : Nat} {kk : Nat → Nat} {L : List cC} {g : ab_S} (hL : L.length = 143) (hc : c_chk L = true) (hg : pC b kk (L, 143, 316186) g) : sR (ad0 b kk) s00 g := by
  cases hg
  have hch : ∀ a, (la a).1 ≠ 0 → L[pl a]? = some (cec a) ∧ iv (pl a) = a ∧ ((la a).1 = 7 → L[pr a]? = some (1, cp_tab.getD a 0, []) ∧ iv (pr a) = 1000 + a ∧ cp_tab.getD a 0 ≤ 270000) := by
    intro a h0
    have h := List.all_eq_true.mp hc a (List.mem_range.mpr (la_lt h0))
    simp only [Bool.or_eq_true, Bool.and_eq_true, decide_eq_true_eq, Bool.not_eq_true', decide_eq_false_iff_not] at h
    rcases h with h | ⟨⟨h1, h2⟩, h3⟩
    · exact absurd h h0
    · refine ⟨h1, h2, fun h7 => ?_⟩
      rcases h3 with h3 | ⟨⟨h3, h4⟩, h5⟩
      · exact absurd h7 h3
      · exact ⟨h3, h4, h5⟩
  refine ⟨ar0 b, fun a h0 => ?_, fun a h7 => ?_, fun x y hx hy hxy => ?_, fun x y hx hy hxy => ?_, fun x y hx hy hxy => ?_, fun q hq => ?_, rfl, ?_⟩
  · show hC b L (ad0 b kk a) = _
    rw [ad0_lt (la_lt h0), hC_at (hch a h0).1, ce_cec h0]
  · have h0 : (la a).1 ≠ 0 := by omega
    obtain ⟨h1, h2, h3⟩ := (hch a h0).2.2 h7
    have hz : a ≠ 1 ∧ a ≠ 90 := by
      constructor
      · intro e; rw [e] at h7; exact absurd h7 (by decide)
      · intro e; rw [e] at h7; exact absurd h7 (by decide)
    have hI : ∀ i, vI s00 a i = 0 := by
      intro i
      show s0I a i = 0
      unfold s0I
      rw [if_neg]
      rintro (⟨h, -⟩ | ⟨h, -⟩)
      · exact hz.1 h
      · exact hz.2 h
    refine ⟨fun _ => 0, hC_at h1, fun i _ => (hI i).symm, fun i _ => hI i, h3⟩
  · have e : pr x = pr y := Nat.add_left_cancel hxy
    have h1 := ((hch x (by omega)).2.2 hx).2.1
    have h2 := ((hch y (by omega)).2.2 hy).2.1
    rw [e, h2] at h1
    omega
  · rw [ad0_lt (la_lt hy)] at hxy
    have e : pr x = pl y := Nat.add_left_cancel hxy
    have h1 := ((hch x (by omega)).2.2 hx).2.1
    have h2 := (hch y hy).2.1
    rw [e, h2] at h1
    have := la_lt hy
    omega
  · rw [ad0_lt (la_lt hx), ad0_lt (la_lt hy)] at hxy
    have e : pl x = pl y := Nat.add_left_cancel hxy
    have h1 := (hch x hx).2.1
    rw [e, (hch y hy).2.1] at h1
    exact h1.symm
  · show q < b + L.length
    have hq : (hC b L q).isSome = true := hq
    unfold hC at hq
    split at hq
    · cases hq
    · rename_i h
      cases hz : L[q - b]? with
      | none => rw [hz] at hq; cases hq
      | some c =>
        have := (List.getElem?_eq_some_iff.mp hz).1
        omega
  · funext i
    show kk i = ad0 b kk (200 + i)
    unfold ad0
    rw [if_neg (by omega), Nat.add_sub_cancel_left]
