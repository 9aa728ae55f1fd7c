/-! constructors: the new cells, one behind another, as codes; references are told by places -/
abbrev cC : Type := Nat × Nat × List Nat
abbrev cS : Type := List cC × Nat × Nat
/-- a field: 0 the int 0, 1 null, 2 the long 0, 3 the int -1, from 4 on a place -/
def vd (b x : Nat) : Value := if x = 0 then .int 0 else if x = 1 then .null else if x = 2 then .long 0 else if x = 3 then .int (-1) else .ref (b + (x - 4))
def rdc (b x : Nat) : Option Nat := if x < 4 then none else some (b + (x - 4))
/-- a cell: (0, class, fields), (1, n) ints, (2, n) longs, (3, n) booleans, (4, n, ..) and (5, n, ..) rows of objects -/
def cd (b : Nat) (c : cC) : va_E := match c.1 with
  | 0 => .inr (c.2.1, c.2.2.map (vd b))
  | 1 => .inl (0, c.2.1, .inl (fun _ => 0))
  | 2 => .inl (1, c.2.1, .inr (.inl (fun _ => 0)))
  | 3 => .inl (2, c.2.1, .inl (fun _ => 0))
  | 4 => .inl (3, c.2.1, .inr (.inr (.inr (.inr (fun i => rdc b (c.2.2.getD i 1))))))
  | _ => .inl (4, c.2.1, .inr (.inr (.inr (.inr (fun i => rdc b (c.2.2.getD i 1))))))
def hC (b : Nat) (L : List cC) : ab_H := fun q => if q < b then none else (L[q - b]?).map (cd b)
def pC (b : Nat) (k : Nat → Nat) (σ : cS) (g : ab_S) : Prop := g = (hC b σ.1, b + σ.1.length, σ.2.1, σ.2.2, k)
theorem vd_ref {b r : Nat} : vd b (4 + r) = .ref (b + r) := by
  unfold vd
  rw [if_neg (by omega), if_neg (by omega), if_neg (by omega), if_neg (by omega), Nat.add_sub_cancel_left]
theorem hC_at {b a : Nat} {L : List cC} {c : cC} (h : L[a]? = some c) : hC b L (b + a) = some (cd b c) := by
  unfold hC
  rw [if_neg (by omega), Nat.add_sub_cancel_left, h]
  rfl
theorem hC_push {b : Nat} {L : List cC} {c : cC} {e : va_E} (he : e = cd b c) : ab_up (hC b L) (b + L.length) e = hC b (L ++ [c]) := by
  funext q
  unfold ab_up hC
  by_cases h : q = b + L.length
  · subst h
    rw [if_pos rfl, if_neg (by omega), Nat.add_sub_cancel_left, List.getElem?_concat_length, he]
    rfl
  · rw [if_neg h]
    by_cases h2 : q < b
    · rw [if_pos h2, if_pos h2]
    · rw [if_neg h2, if_neg h2]
      by_cases h3 : q - b < L.length
      · rw [List.getElem?_append_left h3]
      · rw [List.getElem?_eq_none_iff.mpr (by omega), List.getElem?_eq_none_iff.mpr (by simp; omega)]
theorem hC_set {b a : Nat} {L : List cC} {c : cC} {e : va_E} (ha : a < L.length) (he : e = cd b c) : ab_up (hC b L) (b + a) e = hC b (L.set a c) := by
  funext q
  unfold ab_up hC
  by_cases h : q = b + a
  · subst h
    rw [if_pos rfl, if_neg (by omega), Nat.add_sub_cancel_left, List.getElem?_set_self ha, he]
    rfl
  · rw [if_neg h]
    by_cases h2 : q < b
    · rw [if_pos h2, if_pos h2]
    · rw [if_neg h2, if_neg h2, List.getElem?_set_ne (by omega)]
/-! what is done to the cells -/
def cNew (ci N : Nat) (fs : List Nat) (σ : cS) : cS := (σ.1 ++ [(0, ci, fs)], σ.2.1 + 1, σ.2.2 + N)
def cArr (t n : Nat) (fs : List Nat) (σ : cS) : cS := (σ.1 ++ [(t, n, fs)], σ.2.1 + 1, σ.2.2 + n)
def cPut (ci : Nat) (σ : cS) (a k x : Nat) : Option cS := match σ.1[a]? with
  | some (0, c, fs) => if c = ci ∧ k < fs.length then some (σ.1.set a (0, c, fs.set k x), σ.2) else none
  | _ => none
def cGet (ci : Nat) (σ : cS) (a k : Nat) : Option Nat := match σ.1[a]? with
  | some (0, c, fs) => if c = ci ∧ 4 ≤ fs.getD k 0 then some (fs.getD k 0 - 4) else none
  | _ => none
def cAst (t ci : Nat) (σ : cS) (a i v : Nat) : Option cS := match σ.1[a]?, σ.1[v]? with
  | some (s, n, fs), some (0, c, _) => if s = t ∧ c = ci ∧ i < n ∧ fs.length = n then some (σ.1.set a (s, n, fs.set i (4 + v)), σ.2) else none
  | _, _ => none
def cAld (t : Nat) (σ : cS) (a i : Nat) : Option Nat := match σ.1[a]? with
  | some (s, n, fs) => if s = t ∧ i < n ∧ 4 ≤ fs.getD i 0 then some (fs.getD i 0 - 4) else none
  | _ => none
theorem cPut_sp {ci a k x : Nat} {σ τ : cS} (h : cPut ci σ a k x = some τ) : ∃ fs, σ.1[a]? = some (0, ci, fs) ∧ k < fs.length ∧ τ = (σ.1.set a (0, ci, fs.set k x), σ.2) := by
  unfold cPut at h
  split at h
  · rename_i c fs e
    split at h
    · rename_i q
      obtain ⟨rfl, q⟩ := q
      exact ⟨fs, e, q, (Option.some.inj h).symm⟩
    · cases h
  · cases h
theorem cGet_sp {ci a k r : Nat} {σ : cS} (h : cGet ci σ a k = some r) : ∃ fs, σ.1[a]? = some (0, ci, fs) ∧ fs[k]? = some (4 + r) := by
  unfold cGet at h
  split at h
  · rename_i c fs e
    split at h
    · rename_i q
      obtain ⟨rfl, q⟩ := q
      refine ⟨fs, e, ?_⟩
      have h2 := Option.some.inj h
      rw [List.getD_eq_getElem?_getD] at q h2
      cases hk : fs[k]? with
      | none => rw [hk] at q; simp at q
      | some y => rw [hk] at q h2; simp at q h2; rw [show y = 4 + r by omega]
    · cases h
  · cases h
theorem cAst_sp {t ci a i v : Nat} {σ τ : cS} (h : cAst t ci σ a i v = some τ) : ∃ n fs vs, σ.1[a]? = some (t, n, fs) ∧ σ.1[v]? = some (0, ci, vs) ∧ i < n ∧ fs.length = n ∧ τ = (σ.1.set a (t, n, fs.set i (4 + v)), σ.2) := by
  unfold cAst at h
  split at h
  · rename_i s n fs c vs e1 e2
    split at h
    · rename_i q
      obtain ⟨rfl, rfl, q, q2⟩ := q
      exact ⟨n, fs, vs, e1, e2, q, q2, (Option.some.inj h).symm⟩
    · cases h
  · cases h
theorem cAld_sp {t a i r : Nat} {σ : cS} (h : cAld t σ a i = some r) : ∃ n fs, σ.1[a]? = some (t, n, fs) ∧ i < n ∧ fs.getD i 1 = 4 + r := by
  unfold cAld at h
  split at h
  · rename_i s n fs e
    split at h
    · rename_i q
      obtain ⟨rfl, q1, q⟩ := q
      refine ⟨n, fs, e, q1, ?_⟩
      have h2 := Option.some.inj h
      rw [List.getD_eq_getElem?_getD] at q h2 ⊢
      cases hk : fs[i]? with
      | none => rw [hk] at q; simp at q
      | some y => rw [hk] at q h2; simp at q h2; simp; omega
    · cases h
  · cases h
section PCR
variable {b : Nat} {kk : Nat → Nat} {X : ab_M} {d pc idx : Nat} {lo : List (Nat × Value)} {st : List Value} {σ τ : cS} {Q : Option Value → cS → Prop} {ci N a k x r n v : Nat} {C : String} {T : u_T} {ty : Nat → FieldType} {i : Int32}
theorem pC_lt {c : cC} (h : σ.1[a]? = some c) : a < σ.1.length := (List.getElem?_eq_some_iff.mp h).1
theorem p_new {fs : List Nat} (O : ab_ok ci C T N ty) (hd : decode X.2.1 pc = .ok (.new idx, 3)) (hcl : Cond.classLink X.1.cls idx C ∈ ab_tb) (hin : Cond.instantiable C N ∈ ab_tb) (hini : Cond.initialized C ∈ ab_tb) (hfs : ∀ j, j < N → defaultValue (ty j) = vp_V (fs.map (vd b)) j) (K : ab_E (pC b kk) X d (pc + 3) lo (.ref (b + σ.1.length) :: st) (cNew ci N fs σ) Q) : ab_E (pC b kk) X d pc lo st σ Q :=
  ab_E.hp (fun g hg => ⟨(hC b (cNew ci N fs σ).1, b + (cNew ci N fs σ).1.length, (cNew ci N fs σ).2.1, (cNew ci N fs σ).2.2, kk), rfl, fun r g' h => by
    cases hg
    refine ab_R.new (fs := fs.map (vd b)) O hd hcl hin hini hfs ?_
    show ab_R X d (pc + 3) lo (.ref (b + σ.1.length) :: st) (ab_up (hC b σ.1) (b + σ.1.length) (.inr (ci, fs.map (vd b))), b + σ.1.length + 1, σ.2.1 + 1, σ.2.2 + N, kk) r g'
    rw [hC_push (b := b) (L := σ.1) (c := (0, ci, fs)) (e := .inr (ci, fs.map (vd b))) rfl]
    have e : b + (cNew ci N fs σ).1.length = b + σ.1.length + 1 := by simp [cNew]; omega
    rw [e] at h
    exact h⟩) K
theorem p_newI (hd : decode X.2.1 pc = .ok (.newarray .int, 2)) (hn : inb i 270301 = true) (K : ab_E (pC b kk) X d (pc + 2) lo (.ref (b + σ.1.length) :: st) (cArr 1 i.toNatClampNeg [] σ) Q) : ab_E (pC b kk) X d pc lo (.int i :: st) σ Q :=
  ab_E.hp (fun g hg => ⟨(hC b (cArr 1 i.toNatClampNeg [] σ).1, b + (cArr 1 i.toNatClampNeg [] σ).1.length, (cArr 1 i.toNatClampNeg [] σ).2.1, (cArr 1 i.toNatClampNeg [] σ).2.2, kk), rfl, fun r g' h => by
    cases hg
    refine ab_R.newa (at0 := .int) (t0 := 0) (ty := .int) (a0 := (i.toNatClampNeg, .inl (fun _ => 0))) rfl hd ac_int (fun _ => rfl) (fun _ _ q => q) (fun cA => by rw [vp_cell_i]; rfl) (Int32.not_lt.mpr (inb_sp hn).1) rfl (by have := (inb_sp hn).2; show i.toNatClampNeg * 4 ≤ _; omega) ?_
    show ab_R X d (pc + 2) lo (.ref (b + σ.1.length) :: st) (ab_up (hC b σ.1) (b + σ.1.length) (.inl (0, i.toNatClampNeg, .inl (fun _ => 0))), b + σ.1.length + 1, σ.2.1 + 1, σ.2.2 + i.toNatClampNeg, kk) r g'
    rw [hC_push (b := b) (L := σ.1) (c := (1, i.toNatClampNeg, [])) (e := .inl (0, i.toNatClampNeg, .inl (fun _ => 0))) rfl]
    have e : b + (cArr 1 i.toNatClampNeg [] σ).1.length = b + σ.1.length + 1 := by simp [cArr]; omega
    rw [e] at h
    exact h⟩) K
theorem p_newL (hd : decode X.2.1 pc = .ok (.newarray .long, 2)) (hn : inb i 270301 = true) (K : ab_E (pC b kk) X d (pc + 2) lo (.ref (b + σ.1.length) :: st) (cArr 2 i.toNatClampNeg [] σ) Q) : ab_E (pC b kk) X d pc lo (.int i :: st) σ Q :=
  ab_E.hp (fun g hg => ⟨(hC b (cArr 2 i.toNatClampNeg [] σ).1, b + (cArr 2 i.toNatClampNeg [] σ).1.length, (cArr 2 i.toNatClampNeg [] σ).2.1, (cArr 2 i.toNatClampNeg [] σ).2.2, kk), rfl, fun r g' h => by
    cases hg
    refine ab_R.newa (at0 := .long) (t0 := 1) (ty := .long) (a0 := (i.toNatClampNeg, .inr (.inl (fun _ => 0)))) rfl hd ac_long (fun _ => rfl) (fun _ _ q => q) (fun cA => by rw [vp_cell_l]; rfl) (Int32.not_lt.mpr (inb_sp hn).1) rfl (by have := (inb_sp hn).2; show i.toNatClampNeg * 8 ≤ _; omega) ?_
    show ab_R X d (pc + 2) lo (.ref (b + σ.1.length) :: st) (ab_up (hC b σ.1) (b + σ.1.length) (.inl (1, i.toNatClampNeg, .inr (.inl (fun _ => 0)))), b + σ.1.length + 1, σ.2.1 + 1, σ.2.2 + i.toNatClampNeg, kk) r g'
    rw [hC_push (b := b) (L := σ.1) (c := (2, i.toNatClampNeg, [])) (e := .inl (1, i.toNatClampNeg, .inr (.inl (fun _ => 0)))) rfl]
    have e : b + (cArr 2 i.toNatClampNeg [] σ).1.length = b + σ.1.length + 1 := by simp [cArr]; omega
    rw [e] at h
    exact h⟩) K
theorem p_newZ (hd : decode X.2.1 pc = .ok (.newarray .boolean, 2)) (hn : inb i 270301 = true) (K : ab_E (pC b kk) X d (pc + 2) lo (.ref (b + σ.1.length) :: st) (cArr 3 i.toNatClampNeg [] σ) Q) : ab_E (pC b kk) X d pc lo (.int i :: st) σ Q :=
  ab_E.hp (fun g hg => ⟨(hC b (cArr 3 i.toNatClampNeg [] σ).1, b + (cArr 3 i.toNatClampNeg [] σ).1.length, (cArr 3 i.toNatClampNeg [] σ).2.1, (cArr 3 i.toNatClampNeg [] σ).2.2, kk), rfl, fun r g' h => by
    cases hg
    refine ab_R.newa (at0 := .boolean) (t0 := 2) (ty := .boolean) (a0 := (i.toNatClampNeg, .inl (fun _ => 0))) rfl hd ac_boolean (fun _ => rfl) (fun _ _ q => q) (fun cA => by rw [vp_cell_i]; rfl) (Int32.not_lt.mpr (inb_sp hn).1) rfl (by have := (inb_sp hn).2; show i.toNatClampNeg * 1 ≤ _; omega) ?_
    show ab_R X d (pc + 2) lo (.ref (b + σ.1.length) :: st) (ab_up (hC b σ.1) (b + σ.1.length) (.inl (2, i.toNatClampNeg, .inl (fun _ => 0))), b + σ.1.length + 1, σ.2.1 + 1, σ.2.2 + i.toNatClampNeg, kk) r g'
    rw [hC_push (b := b) (L := σ.1) (c := (3, i.toNatClampNeg, [])) (e := .inl (2, i.toNatClampNeg, .inl (fun _ => 0))) rfl]
    have e : b + (cArr 3 i.toNatClampNeg [] σ).1.length = b + σ.1.length + 1 := by simp [cArr]; omega
    rw [e] at h
    exact h⟩) K
theorem cd_rep {t n : Nat} (ht : t = 4 ∨ t = 5) {b : Nat} : cd b (t, n, List.replicate n 1) = .inl (t - 1, n, .inr (.inr (.inr (.inr (fun _ => none))))) := by
  have h : ∀ i, rdc b ((List.replicate n 1).getD i 1) = none := by
    intro i
    rw [List.getD_eq_getElem?_getD]
    by_cases hi : i < n
    · rw [List.getElem?_replicate_of_lt hi]; rfl
    · rw [List.getElem?_eq_none_iff.mpr (by simp; omega)]; rfl
  rcases ht with rfl | rfl
  · simp only [cd, h]
  · simp only [cd, h]
theorem p_anew {t : Nat} (ht : (t = 4 ∧ C = "OddRanks$Automaton") ∨ (t = 5 ∧ C = "OddRanks$Complement")) (hd : decode X.2.1 pc = .ok (.anewarray idx, 3)) (hcl : Cond.classLink X.1.cls idx C ∈ ab_tb) (hn : inb i 270301 = true) (K : ab_E (pC b kk) X d (pc + 3) lo (.ref (b + σ.1.length) :: st) (cArr t i.toNatClampNeg (List.replicate i.toNatClampNeg 1) σ) Q) : ab_E (pC b kk) X d pc lo (.int i :: st) σ Q :=
  ab_E.hp (fun g hg => ⟨(hC b (cArr t i.toNatClampNeg (List.replicate i.toNatClampNeg 1) σ).1, b + (cArr t i.toNatClampNeg (List.replicate i.toNatClampNeg 1) σ).1.length, (cArr t i.toNatClampNeg (List.replicate i.toNatClampNeg 1) σ).2.1, (cArr t i.toNatClampNeg (List.replicate i.toNatClampNeg 1) σ).2.2, kk), rfl, fun r g' h => by
    cases hg
    have e : b + (cArr t i.toNatClampNeg (List.replicate i.toNatClampNeg 1) σ).1.length = b + σ.1.length + 1 := by simp [cArr]; omega
    rw [e] at h
    have hb : i.toNatClampNeg * 4 ≤ 536870912 := by have := (inb_sp hn).2; omega
    rcases ht with ⟨rfl, rfl⟩ | ⟨rfl, rfl⟩
    · refine ab_R.anew (t0 := 3) hd hcl (fun l κ s q => q.2.2.2.1) (fun _ => rfl) (Int32.not_lt.mpr (inb_sp hn).1) rfl hb ?_
      show ab_R X d (pc + 3) lo (.ref (b + σ.1.length) :: st) (ab_up (hC b σ.1) (b + σ.1.length) (.inl (3, i.toNatClampNeg, .inr (.inr (.inr (.inr (fun _ => none)))))), b + σ.1.length + 1, σ.2.1 + 1, σ.2.2 + i.toNatClampNeg, kk) r g'
      rw [hC_push (b := b) (L := σ.1) (c := (4, i.toNatClampNeg, List.replicate i.toNatClampNeg 1)) (e := .inl (3, i.toNatClampNeg, .inr (.inr (.inr (.inr (fun _ => none)))))) (cd_rep (Or.inl rfl)).symm]
      exact h
    · refine ab_R.anew (t0 := 4) hd hcl (fun l κ s q => q.2.2.2.2.1) (fun _ => rfl) (Int32.not_lt.mpr (inb_sp hn).1) rfl hb ?_
      show ab_R X d (pc + 3) lo (.ref (b + σ.1.length) :: st) (ab_up (hC b σ.1) (b + σ.1.length) (.inl (4, i.toNatClampNeg, .inr (.inr (.inr (.inr (fun _ => none)))))), b + σ.1.length + 1, σ.2.1 + 1, σ.2.2 + i.toNatClampNeg, kk) r g'
      rw [hC_push (b := b) (L := σ.1) (c := (5, i.toNatClampNeg, List.replicate i.toNatClampNeg 1)) (e := .inl (4, i.toNatClampNeg, .inr (.inr (.inr (.inr (fun _ => none)))))) (cd_rep (Or.inr rfl)).symm]
      exact h⟩) K
theorem p_put {w : Value} (O : ab_ok ci C T N ty) (hd : decode X.2.1 pc = .ok (.putfield idx, 3)) (hk : k < N) (hl : Cond.fieldLink X.1.cls idx (T k).1 (T k).2.1 (T k).2.2.1 ∈ ab_tb) (hfin : (T k).2.2.2 = false) (hw : w = vd b x) (hn : narrow (ty k) w = w) (hfit : fits (ty k) w = true) (hp : cPut ci σ a k x = some τ) (K : ab_E (pC b kk) X d (pc + 3) lo st τ Q) : ab_E (pC b kk) X d pc lo (w :: .ref (b + a) :: st) σ Q :=
  ab_E.hp (fun g hg => by
    obtain ⟨fs, e1, e2, rfl⟩ := cPut_sp hp
    refine ⟨(hC b (σ.1.set a (0, ci, fs.set k x)), b + (σ.1.set a (0, ci, fs.set k x)).length, σ.2.1, σ.2.2, kk), rfl, fun r g' h => ?_⟩
    cases hg
    refine ab_R.put O hd hk hl hfin hn hfit (fs := fs.map (vd b)) (by rw [List.length_map]; exact e2) (hC_at e1) ?_
    show ab_R X d (pc + 3) lo st (ab_up (hC b σ.1) (b + a) (.inr (ci, (fs.map (vd b)).set k w)), b + σ.1.length, σ.2.1, σ.2.2, kk) r g'
    rw [hC_set (b := b) (L := σ.1) (c := (0, ci, fs.set k x)) (pC_lt e1) (by rw [hw]; simp only [cd, List.map_set])]
    rw [List.length_set] at h
    exact h) K
theorem p_putF {w : Value} (O : ab_ok ci C T N ty) (hd : decode X.2.1 pc = .ok (.putfield idx, 3)) (hk : k < N) (hl : Cond.fieldLink X.1.cls idx (T k).1 (T k).2.1 (T k).2.2.1 ∈ ab_tb) (hfin : (T k).2.2.2 = true) (hin2 : X.1.name = "<init>") (hdecl : (T k).1 = X.1.cls) (hw : w = vd b x) (hn : narrow (ty k) w = w) (hfit : fits (ty k) w = true) (hp : cPut ci σ a k x = some τ) (K : ab_E (pC b kk) X d (pc + 3) lo st τ Q) : ab_E (pC b kk) X d pc lo (w :: .ref (b + a) :: st) σ Q :=
  ab_E.hp (fun g hg => by
    obtain ⟨fs, e1, e2, rfl⟩ := cPut_sp hp
    refine ⟨(hC b (σ.1.set a (0, ci, fs.set k x)), b + (σ.1.set a (0, ci, fs.set k x)).length, σ.2.1, σ.2.2, kk), rfl, fun r g' h => ?_⟩
    cases hg
    refine ab_R.putF O hd hk hl hfin hin2 hdecl hn hfit (fs := fs.map (vd b)) (by rw [List.length_map]; exact e2) (hC_at e1) ?_
    show ab_R X d (pc + 3) lo st (ab_up (hC b σ.1) (b + a) (.inr (ci, (fs.map (vd b)).set k w)), b + σ.1.length, σ.2.1, σ.2.2, kk) r g'
    rw [hC_set (b := b) (L := σ.1) (c := (0, ci, fs.set k x)) (pC_lt e1) (by rw [hw]; simp only [cd, List.map_set])]
    rw [List.length_set] at h
    exact h) K
theorem p_get (O : ab_ok ci C T N ty) (hd : decode X.2.1 pc = .ok (.getfield idx, 3)) (hk : k < N) (hl : Cond.fieldLink X.1.cls idx (T k).1 (T k).2.1 (T k).2.2.1 ∈ ab_tb) (hp : cGet ci σ a k = some r) (K : ab_E (pC b kk) X d (pc + 3) lo (.ref (b + r) :: st) σ Q) : ab_E (pC b kk) X d pc lo (.ref (b + a) :: st) σ Q :=
  ab_E.hp (fun g hg => by
    obtain ⟨fs, e1, e2⟩ := cGet_sp hp
    refine ⟨g, hg, fun r g' h => ?_⟩
    cases hg
    exact ab_R.get O hd hk hl (fs := fs.map (vd b)) (hC_at e1) (by rw [List.getElem?_map, e2, Option.map_some, vd_ref]) h) K
theorem inb_in {i : Int32} {n : Nat} (h0 : 0 ≤ i) (h : i.toNatClampNeg < n) : vp_in i n := inb_of (by simp [inb, h0, h])
theorem va_upc {fs : List Nat} {j r : Nat} (hj : j < fs.length) : va_up (fun i => rdc b (fs.getD i 1)) j (some (b + r)) = fun i => rdc b ((fs.set j (4 + r)).getD i 1) := by
  funext q
  unfold va_up
  show (if q = j then some (b + r) else rdc b (fs.getD q 1)) = _
  rw [List.getD_eq_getElem?_getD, List.getD_eq_getElem?_getD]
  by_cases h : q = j
  · subst h
    rw [if_pos rfl, List.getElem?_set_self hj]
    show _ = rdc b (4 + r)
    unfold rdc
    rw [if_neg (by omega), Nat.add_sub_cancel_left]
  · rw [if_neg h, List.getElem?_set_ne (Ne.symm h)]
theorem p_aast4 (hd : decode X.2.1 pc = .ok (.aastore, 1)) (h0 : 0 ≤ i) (hp : cAst 4 0 σ a i.toNatClampNeg v = some τ) (K : ab_E (pC b kk) X d (pc + 1) lo st τ Q) : ab_E (pC b kk) X d pc lo (.ref (b + v) :: .int i :: .ref (b + a) :: st) σ Q :=
  ab_E.hp (fun g hg => by
    obtain ⟨n, fs, vs, e1, e2, e3, e4, rfl⟩ := cAst_sp hp
    refine ⟨(hC b (σ.1.set a (4, n, fs.set i.toNatClampNeg (4 + v))), b + (σ.1.set a (4, n, fs.set i.toNatClampNeg (4 + v))).length, σ.2.1, σ.2.2, kk), rfl, fun r g' h => ?_⟩
    cases hg
    refine ab_R.aast3 hd (hC_at e1) (hC_at e2) (inb_in h0 e3) ?_
    show ab_R X d (pc + 1) lo st (ab_up (hC b σ.1) (b + a) (.inl (3, n, .inr (.inr (.inr (.inr (va_up (fun i => rdc b (fs.getD i 1)) i.toNatClampNeg (some (b + v)))))))), b + σ.1.length, σ.2.1, σ.2.2, kk) r g'
    rw [hC_set (b := b) (L := σ.1) (c := (4, n, fs.set i.toNatClampNeg (4 + v))) (pC_lt e1) (by simp only [cd]; rw [va_upc (by omega)])]
    rw [List.length_set] at h
    exact h) K
theorem p_aast5 (hd : decode X.2.1 pc = .ok (.aastore, 1)) (h0 : 0 ≤ i) (hp : cAst 5 1 σ a i.toNatClampNeg v = some τ) (K : ab_E (pC b kk) X d (pc + 1) lo st τ Q) : ab_E (pC b kk) X d pc lo (.ref (b + v) :: .int i :: .ref (b + a) :: st) σ Q :=
  ab_E.hp (fun g hg => by
    obtain ⟨n, fs, vs, e1, e2, e3, e4, rfl⟩ := cAst_sp hp
    refine ⟨(hC b (σ.1.set a (5, n, fs.set i.toNatClampNeg (4 + v))), b + (σ.1.set a (5, n, fs.set i.toNatClampNeg (4 + v))).length, σ.2.1, σ.2.2, kk), rfl, fun r g' h => ?_⟩
    cases hg
    refine ab_R.aast4 hd (hC_at e1) (hC_at e2) (inb_in h0 e3) ?_
    show ab_R X d (pc + 1) lo st (ab_up (hC b σ.1) (b + a) (.inl (4, n, .inr (.inr (.inr (.inr (va_up (fun i => rdc b (fs.getD i 1)) i.toNatClampNeg (some (b + v)))))))), b + σ.1.length, σ.2.1, σ.2.2, kk) r g'
    rw [hC_set (b := b) (L := σ.1) (c := (5, n, fs.set i.toNatClampNeg (4 + v))) (pC_lt e1) (by simp only [cd]; rw [va_upc (by omega)])]
    rw [List.length_set] at h
    exact h) K
theorem rdc_4 {r : Nat} : rdc b (4 + r) = some (b + r) := by
  unfold rdc
  rw [if_neg (by omega), Nat.add_sub_cancel_left]
theorem p_aald4 (hd : decode X.2.1 pc = .ok (.aaload, 1)) (h0 : 0 ≤ i) (hp : cAld 4 σ a i.toNatClampNeg = some r) (K : ab_E (pC b kk) X d (pc + 1) lo (.ref (b + r) :: st) σ Q) : ab_E (pC b kk) X d pc lo (.int i :: .ref (b + a) :: st) σ Q :=
  ab_E.hp (fun g hg => by
    obtain ⟨n, fs, e1, e2, e3⟩ := cAld_sp hp
    refine ⟨g, hg, fun r g' h => ?_⟩
    cases hg
    exact ab_R.aald3 hd (hC_at e1) (inb_in h0 e2) (by simp only [e3, rdc_4]; exact h)) K
theorem p_aald5 (hd : decode X.2.1 pc = .ok (.aaload, 1)) (h0 : 0 ≤ i) (hp : cAld 5 σ a i.toNatClampNeg = some r) (K : ab_E (pC b kk) X d (pc + 1) lo (.ref (b + r) :: st) σ Q) : ab_E (pC b kk) X d pc lo (.int i :: .ref (b + a) :: st) σ Q :=
  ab_E.hp (fun g hg => by
    obtain ⟨n, fs, e1, e2, e3⟩ := cAld_sp hp
    refine ⟨g, hg, fun r g' h => ?_⟩
    cases hg
    exact ab_R.aald4 hd (hC_at e1) (inb_in h0 e2) (by simp only [e3, rdc_4]; exact h)) K
end PCR
theorem lfC {σ z : cS} (h : some σ = some z) : (none : Option Value) = none ∧ σ = z := by cases h; exact ⟨rfl, rfl⟩
theorem r_topa {S : Type} {Rp : S → ab_S → Prop} {X : ab_M} {b d pc : Nat} {lo : List (Nat × Value)} {st : List Value} {σ : S} {Q : Option Value → S → Prop} {e : Nat} (K : ∀ x, x = e → ab_E Rp X d pc lo (.ref (b + x) :: st) σ Q) : ab_E Rp X d pc lo (.ref (b + e) :: st) σ Q := K e rfl
