/-! the complement: the reference's nodes and edges -/
theorem nI_dv {a b : Nat} (ha : a < 2 ^ 31) (hb : b < 2 ^ 31) : nI a / nI b = nI (a / b) := (Int32.ofNat_div ha hb).symm
theorem nI_sb {a b : Nat} (h : b ≤ a) : nI a - nI b = nI (a - b) := by
  rw [show nI a = nI (a - b) + nI b by rw [nI_add, Nat.sub_add_cancel h], Int32.add_sub_cancel]
theorem nI_rem {a b : Nat} (ha : a < 2 ^ 31) (hb : b < 2 ^ 31) : nI a - nI a / nI b * nI b = nI (a % b) := by
  rw [nI_dv ha hb, nI_mul, nI_sb (Nat.div_mul_le_self a b)]
  congr 1
  have := Nat.div_add_mod a b
  rw [Nat.mul_comm] at this
  omega
def ndT (x : nd) : Int32 := if x.2.1 = 0 then -2 else nI x.2.1
def ndh (x : nd) : Nat := x.1 + 17 * x.2.2.2 + 31 * x.2.2.1 + 7 * (if x.2.1 = 0 then 0 else x.2.1 + 2)
def ndH (x : nd) : Nat := ndh x % 1024
def lst (X : Nat → nd) (h : Nat) : Nat → Option Nat
  | 0 => none
  | k + 1 => if ndH (X k) = h then some k else lst X h k
def oI : Option Nat → Int32
  | none => -1
  | some k => nI k
def rNd (σ : sS) (n : Nat) (x : nd) : Prop := vI σ 124 n = nI x.1 ∧ vI σ 125 n = ndT x ∧ vI σ 126 n = nI x.2.2.1 ∧ vI σ 127 n = nI x.2.2.2
/-- the reference holds nodes and edges -/
def rZ (z : zS) (σ : sS) : Prop := zN z ≤ 300 ∧ vI σ 90 33 = nI (zN z) ∧ vI σ 90 34 = nI (zE z) ∧ vI σ 90 35 = 0 ∧ (∀ n, n < zN z → ndO (zX z n) ∧ rNd σ n (zX z n)) ∧ (∀ h, h < 1024 → vI σ 129 h = oI (lst (zX z) h (zN z))) ∧ (∀ n, n < zN z → vI σ 128 n = oI (lst (zX z) (ndH (zX z n)) n)) ∧ ∀ j, j < zE z → vI σ 131 j = nI (zT z j)
theorem ndO.P {x : nd} (h : ndO x) : x.2.2.1 < 4096 ∧ x.2.1 < 8 := by
  rcases h.2.2 with ⟨c1, c2, c3⟩ | ⟨c1, c2, -⟩
  · rw [c1, c2]; exact ⟨by decide, by decide⟩
  · exact ⟨c2.1, by rcases c1 with h | h | h | h <;> omega⟩
theorem ndh_lt {x : nd} (h : ndO x) : ndh x < 200000 := by
  have h1 := h.1
  have h2 := h.2.1
  have h3 := h.P
  unfold ndh
  split <;> omega
theorem x_hash {x : nd} (h : ndO x) : (((nI x.1 + ((17 : Int32) * nI x.2.2.2)) + ((31 : Int32) * nI x.2.2.1)) + ((7 : Int32) * (ndT x + 2))) - (((nI x.1 + ((17 : Int32) * nI x.2.2.2)) + ((31 : Int32) * nI x.2.2.1)) + ((7 : Int32) * (ndT x + 2))) / 1024 * 1024 = nI (ndH x) := by
  have e2 : ndT x + 2 = nI (if x.2.1 = 0 then 0 else x.2.1 + 2) := by
    unfold ndT
    split
    · rfl
    · rw [show (2 : Int32) = nI 2 from rfl, nI_add]
  have e : ((nI x.1 + ((17 : Int32) * nI x.2.2.2)) + ((31 : Int32) * nI x.2.2.1)) + ((7 : Int32) * (ndT x + 2)) = nI (ndh x) := by
    rw [e2, show (17 : Int32) = nI 17 from rfl, show (31 : Int32) = nI 31 from rfl, show (7 : Int32) = nI 7 from rfl, nI_mul, nI_mul, nI_mul, nI_add, nI_add, nI_add]
    rfl
  rw [e]
  exact nI_rem (b := 1024) (by have := ndh_lt h; omega) (by decide)
theorem ndT_eq {x y : nd} (hx : ndO x) (hy : ndO y) : ndT x = ndT y ↔ x.2.1 = y.2.1 := by
  have h1 := hx.P.2
  have h2 := hy.P.2
  unfold ndT
  have n2 : ∀ k, k < 8 → ¬ nI k = -2 := by decide +kernel
  by_cases c1 : x.2.1 = 0
  · rw [if_pos c1]
    by_cases c2 : y.2.1 = 0
    · rw [if_pos c2, c1, c2]; exact ⟨fun _ => rfl, fun _ => rfl⟩
    · rw [if_neg c2]
      exact ⟨fun e => absurd e.symm (n2 _ h2), fun e => absurd (e ▸ c1) c2⟩
  · rw [if_neg c1]
    by_cases c2 : y.2.1 = 0
    · rw [if_pos c2]
      exact ⟨fun e => absurd e (n2 _ h1), fun e => absurd (e.symm ▸ c2) c1⟩
    · rw [if_neg c2]
      exact ⟨fun e => nI_ij (by omega) (by omega) e, fun e => by rw [e]⟩
theorem x_find {z : zS} {σ : sS} {x : nd} {F : Nat} {x5 : Int32} (h : rZ z σ) (hx : ndO x) (kx : Option (Int32 × sS)) : ∀ (k f : Nat), k ≤ zN z → k < f → L_X12_nodeOf_34 F (nI x.1) (ndT x) (nI x.2.2.1) (nI x.2.2.2) x5 σ kx f (oI (lst (zX z) (ndH x) k)) = match fnd (zX z) x k with
    | some j => some (nI j, σ)
    | none => kx := by
  obtain ⟨a1, a2, a3, a4, a5, a6, a7, a8⟩ := h
  intro k
  induction k with
  | zero =>
    intro f _ hf
    obtain ⟨f, rfl⟩ : ∃ g, f = g + 1 := ⟨f - 1, by omega⟩
    rw [lst, L_X12_nodeOf_34, if_pos (show oI none = -1 from rfl)]
    rfl
  | succ k ih =>
    intro f hk hf
    rw [lst, fnd]
    by_cases hh : ndH (zX z k) = ndH x
    · rw [if_pos hh]
      obtain ⟨f, rfl⟩ : ∃ g, f = g + 1 := ⟨f - 1, by omega⟩
      obtain ⟨o, r1, r2, r3, r4⟩ := a5 k (by omega)
      have hn := a7 k (by omega)
      rw [hh] at hn
      have nx := ih f (by omega) (by omega)
      show L_X12_nodeOf_34 F (nI x.1) (ndT x) (nI x.2.2.1) (nI x.2.2.2) x5 σ kx (f + 1) (nI k) = _
      have hm1 : ¬ nI k = -1 := fun c => nI_pos (n := k) (by omega) (by rw [c]; decide)
      have oP := o.P
      have xP := hx.P
      rw [L_X12_nodeOf_34, if_neg hm1, inb_n (by omega) (by omega)]
      simp only [grd_s, bnd_s]
      rw [nI_clamp (by omega), r1, r2, r3, r4, hn, nx]
      by_cases e1 : (zX z k).1 = x.1
      · rw [if_pos (by rw [e1])]
        by_cases e2 : (zX z k).2.1 = x.2.1
        · rw [if_pos ((ndT_eq o hx).mpr e2)]
          by_cases e3 : (zX z k).2.2.1 = x.2.2.1
          · rw [if_pos (by rw [e3])]
            by_cases e4 : (zX z k).2.2.2 = x.2.2.2
            · have e : zX z k = x := Prod.ext e1 (Prod.ext e2 (Prod.ext e3 e4))
              rw [if_pos (by rw [e4]), if_pos e]
            · rw [if_neg (fun c => e4 (nI_ij (by have := o.2.1; omega) (by have := hx.2.1; omega) c)), if_neg (fun c => e4 (by rw [c]))]
          · rw [if_neg (fun c => e3 (nI_ij (by omega) (by omega) c)), if_neg (fun c => e3 (by rw [c]))]
        · rw [if_neg (fun c => e2 ((ndT_eq o hx).mp c)), if_neg (fun c => e2 (by rw [c]))]
      · rw [if_neg (fun c => e1 (nI_ij (by have := o.1; omega) (by have := hx.1; omega) c)), if_neg (fun c => e1 (by rw [c]))]
    · rw [if_neg hh, if_neg (fun c => hh (by rw [c]))]
      exact ih f (by omega) (by omega)
theorem lst_pu {X : Nat → nd} {x : nd} {n h : Nat} : ∀ k, k ≤ n → lst (pu X n x) h k = lst X h k := by
  intro k
  induction k with
  | zero => intro _; rfl
  | succ k ih =>
    intro hk
    rw [lst, lst, ih (by omega)]
    have : pu X n x k = X k := if_neg (by omega)
    rw [this]
theorem pu_s {α : Type} {f : Nat → α} {k : Nat} {x : α} : pu f k x k = x := if_pos rfl
theorem pu_n {α : Type} {f : Nat → α} {k j : Nat} {x : α} (h : j ≠ k) : pu f k x j = f j := if_neg h
def cpM : List Nat := [124, 125, 126, 127, 128, 129, 131]
def cpK : List Nat := [33, 34, 35]
/-- a new node -/
theorem rZ.add {z : zS} {σ : sS} {x : nd} (h : rZ z σ) (hx : ndO x) (hn : zN z < 300) : rZ ((zN z + 1, pu (zX z) (zN z) x), z.2) (uI (uI (uI (uI (uI (uI (uI σ 124 (zN z) (nI x.1)) 125 (zN z) (ndT x)) 126 (zN z) (nI x.2.2.1)) 127 (zN z) (nI x.2.2.2)) 128 (zN z) (vI σ 129 (ndH x))) 129 (ndH x) (nI (zN z))) 90 33 (nI (zN z + 1))) := by
  obtain ⟨a1, a2, a3, a4, a5, a6, a7, a8⟩ := h
  have hH : ndH x < 1024 := Nat.mod_lt _ (by decide)
  refine ⟨show zN z + 1 ≤ 300 by omega, rfl, a3, a4, fun n hn' => ?_, fun k hk => ?_, fun n hn' => ?_, a8⟩
  · have hn' : n < zN z + 1 := hn'
    show ndO (pu (zX z) (zN z) x n) ∧ rNd _ n (pu (zX z) (zN z) x n)
    by_cases c : n = zN z
    · rw [c, pu_s]
      refine ⟨hx, ?_, ?_, ?_, ?_⟩
      · show vI (uI σ 124 (zN z) (nI x.1)) 124 (zN z) = _
        exact vI_e
      · show vI (uI _ 125 (zN z) (ndT x)) 125 (zN z) = _
        exact vI_e
      · show vI (uI _ 126 (zN z) (nI x.2.2.1)) 126 (zN z) = _
        exact vI_e
      · show vI (uI _ 127 (zN z) (nI x.2.2.2)) 127 (zN z) = _
        exact vI_e
    · rw [pu_n c]
      obtain ⟨o, r1, r2, r3, r4⟩ := a5 n (by omega)
      refine ⟨o, ?_, ?_, ?_, ?_⟩
      · show vI (uI σ 124 (zN z) (nI x.1)) 124 n = _
        rw [vI_q (fun q => c q.2)]; exact r1
      · show vI (uI (uI σ 124 _ _) 125 (zN z) (ndT x)) 125 n = _
        rw [vI_q (fun q => c q.2)]; exact r2
      · show vI (uI (uI (uI σ 124 _ _) 125 _ _) 126 (zN z) (nI x.2.2.1)) 126 n = _
        rw [vI_q (fun q => c q.2)]; exact r3
      · show vI (uI (uI (uI (uI σ 124 _ _) 125 _ _) 126 _ _) 127 (zN z) (nI x.2.2.2)) 127 n = _
        rw [vI_q (fun q => c q.2)]; exact r4
  · show vI (uI (uI (uI (uI (uI (uI σ 124 _ _) 125 _ _) 126 _ _) 127 _ _) 128 _ _) 129 (ndH x) (nI (zN z))) 129 k = oI (lst (pu (zX z) (zN z) x) k (zN z + 1))
    rw [lst, pu_s, lst_pu _ (Nat.le_refl _)]
    by_cases c : ndH x = k
    · rw [if_pos c, c, vI_e]
      rfl
    · rw [if_neg c, vI_q (fun q => c q.2.symm)]
      exact a6 k hk
  · have hn' : n < zN z + 1 := hn'
    show vI (uI (uI (uI (uI (uI σ 124 _ _) 125 _ _) 126 _ _) 127 _ _) 128 (zN z) (vI σ 129 (ndH x))) 128 n = oI (lst (pu (zX z) (zN z) x) (ndH (pu (zX z) (zN z) x n)) n)
    by_cases c : n = zN z
    · rw [c, pu_s, vI_e, lst_pu _ (Nat.le_refl _)]
      exact a6 _ hH
    · rw [pu_n c, lst_pu _ (by omega), vI_q (fun q => c q.2)]
      exact a7 n (by omega)
theorem x_nodeOf {z : zS} {σ : sS} {x : nd} {F : Nat} (hF : 300 < F) (h : rZ z σ) (hx : ndO x) : match fnd (zX z) x (zN z) with
    | some k => L_X12_nodeOf F (nI x.1) (ndT x) (nI x.2.2.1) (nI x.2.2.2) σ = some (nI k, σ)
    | none => if zN z = 300 then L_X12_nodeOf F (nI x.1) (ndT x) (nI x.2.2.1) (nI x.2.2.2) σ = some (-1, uI σ 90 35 1) else ∃ τ, L_X12_nodeOf F (nI x.1) (ndT x) (nI x.2.2.1) (nI x.2.2.2) σ = some (nI (zN z), τ) ∧ rZ ((zN z + 1, pu (zX z) (zN z) x), z.2) τ ∧ fm cpM cpK σ τ := by
  have hH : ndH x < 1024 := Nat.mod_lt _ (by decide)
  have hN := h.1
  unfold L_X12_nodeOf
  simp only [bnd_s]
  rw [x_hash hx, inb_n hH (by omega), grd_s, nI_clamp (by omega), h.2.2.2.2.2.1 _ hH, x_find h hx _ (zN z) F (Nat.le_refl _) (by omega)]
  cases hf : fnd (zX z) x (zN z) with
  | some k => rfl
  | none =>
    show if zN z = 300 then _ else _
    rw [h.2.1]
    by_cases c : zN z = 300
    · rw [if_pos c, if_pos (by rw [c]; rfl)]
    · rw [if_neg c, if_neg (show ¬ nI (zN z) = 300 from fun q => c (nI_ij (y := 300) (by omega) (by omega) q))]
      refine ⟨_, ?_, h.add hx (by omega), ?_⟩
      · have e33 := h.2.1
        have g1 : vI (uI σ 124 (zN z) (nI x.1)) 90 33 = nI (zN z) := e33
        have g2 : vI (uI (uI σ 124 (zN z) (nI x.1)) 125 (zN z) (ndT x)) 90 33 = nI (zN z) := e33
        have g3 : vI (uI (uI (uI σ 124 (zN z) (nI x.1)) 125 (zN z) (ndT x)) 126 (zN z) (nI x.2.2.1)) 90 33 = nI (zN z) := e33
        have g4 : vI (uI (uI (uI (uI σ 124 (zN z) (nI x.1)) 125 (zN z) (ndT x)) 126 (zN z) (nI x.2.2.1)) 127 (zN z) (nI x.2.2.2)) 90 33 = nI (zN z) := e33
        have g5 : vI (uI (uI (uI (uI (uI σ 124 (zN z) (nI x.1)) 125 (zN z) (ndT x)) 126 (zN z) (nI x.2.2.1)) 127 (zN z) (nI x.2.2.2)) 128 (zN z) (vI (uI (uI (uI (uI σ 124 (zN z) (nI x.1)) 125 (zN z) (ndT x)) 126 (zN z) (nI x.2.2.1)) 127 (zN z) (nI x.2.2.2)) 129 (ndH x))) 90 33 = nI (zN z) := e33
        have g6 : vI (uI (uI (uI (uI (uI (uI σ 124 (zN z) (nI x.1)) 125 (zN z) (ndT x)) 126 (zN z) (nI x.2.2.1)) 127 (zN z) (nI x.2.2.2)) 128 (zN z) (vI (uI (uI (uI (uI σ 124 (zN z) (nI x.1)) 125 (zN z) (ndT x)) 126 (zN z) (nI x.2.2.1)) 127 (zN z) (nI x.2.2.2)) 129 (ndH x))) 129 (ndH x) (nI (zN z))) 90 33 = nI (zN z) := e33
        rw [inb_n (show zN z < 300 by omega) (by omega), nI_clamp (by omega)]
        simp only [grd_s]
        rw [g1, inb_n (show zN z < 300 by omega) (by omega), nI_clamp (by omega)]
        simp only [grd_s]
        rw [g2, inb_n (show zN z < 300 by omega) (by omega), nI_clamp (by omega)]
        simp only [grd_s]
        rw [g3, inb_n (show zN z < 300 by omega) (by omega), nI_clamp (by omega)]
        simp only [grd_s]
        rw [g4, inb_n (show zN z < 300 by omega) (by omega), nI_clamp (by omega)]
        simp only [grd_s]
        rw [g5, g6, nI_1]
        show some (nI (zN z + 1) - 1, _) = _
        rw [nI_pred]
        rfl
      · exact (((((((fm.uI (Or.inl (by decide))).tr (fm.uI (Or.inl (by decide)))).tr (fm.uI (Or.inl (by decide)))).tr (fm.uI (Or.inl (by decide)))).tr (fm.uI (Or.inl (by decide)))).tr (fm.uI (Or.inl (by decide)))).tr (fm.uI (Or.inr ⟨rfl, by decide⟩)))
/-- there is no room -/
def rFu (σ : sS) : Prop := vI σ 90 35 = 1 ∧ vI σ 90 33 = nI 300
theorem rFu.k {σ τ : sS} {M K : List Nat} (h : rFu σ) (f : fm M K σ τ) (h9 : 90 ∉ M) (h1 : 35 ∉ K) (h2 : 33 ∉ K) : rFu τ := ⟨(f.f h1 h9).trans h.1, (f.f h2 h9).trans h.2⟩
/-- an edge to a node is laid -/
theorem x_go1 {z : zS} {σ : sS} {x : nd} {F : Nat} (hF : 300 < F) (h : rZ z σ) (hx : ndO x) (hE : ∀ y, go1 z x = some y → zE z < 270300) : ∃ r υ τ, L_X12_nodeOf F (nI x.1) (ndT x) (nI x.2.2.1) (nI x.2.2.2) σ = some (r, υ) ∧ L_X12_goesTo r υ = some τ ∧ fm cpM cpK σ τ ∧ (match go1 z x with
    | some y => rZ y τ
    | none => rFu τ) := by
  have hn := x_nodeOf hF h hx
  have put : ∀ (z' : zS) (υ : sS) (k : Nat), zE z < 270300 → rZ z' υ → zE z' = zE z → zT z' = zT z → ∃ τ, L_X12_goesTo (nI k) υ = some τ ∧ fm cpM cpK υ τ ∧ rZ (z'.1, (zE z + 1, pu (zT z) (zE z) k)) τ := by
    intro z' υ k hE hz e1 e2
    obtain ⟨a1, a2, a3, a4, a5, a6, a7, a8⟩ := hz
    rw [e1] at a3
    refine ⟨uI (uI υ 131 (zE z) (nI k)) 90 34 (nI (zE z + 1)), ?_, (fm.uI (Or.inl (by decide))).tr (fm.uI (Or.inr ⟨rfl, by decide⟩)), a1, a2, rfl, a4, a5, a6, a7, fun j hj => ?_⟩
    · unfold L_X12_goesTo
      rw [if_pos a4, a3, inb_n hE (by omega), grd_s, nI_clamp (by omega)]
      simp only [bnd_s]
      rw [show vI (uI υ 131 (zE z) (nI k)) 90 34 = nI (zE z) from a3, nI_1]
    · have hj : j < zE z + 1 := hj
      show vI (uI υ 131 (zE z) (nI k)) 131 j = nI (pu (zT z) (zE z) k j)
      by_cases c : j = zE z
      · rw [c, vI_e, pu_s]
      · rw [vI_q (fun q => c q.2), pu_n c, ← e2]
        exact a8 j (by omega)
  unfold go1 at hE ⊢
  cases hf : fnd (zX z) x (zN z) with
  | some k =>
    rw [hf] at hn hE
    obtain ⟨τ, t1, t2, t3⟩ := put z σ k (hE _ rfl) h rfl rfl
    exact ⟨nI k, σ, τ, hn, t1, t2, t3⟩
  | none =>
    rw [hf] at hn hE
    have hn : if zN z = 300 then _ else _ := hn
    have hE : ∀ y, (if zN z = 300 then none else some ((zN z + 1, pu (zX z) (zN z) x), (zE z + 1, pu (zT z) (zE z) (zN z)))) = some y → zE z < 270300 := hE
    show ∃ r υ τ, _ ∧ _ ∧ _ ∧ (match (if zN z = 300 then none else some ((zN z + 1, pu (zX z) (zN z) x), (zE z + 1, pu (zT z) (zE z) (zN z)))) with
      | some y => rZ y τ
      | none => rFu τ)
    by_cases c : zN z = 300
    · rw [if_pos c] at hn ⊢
      refine ⟨-1, uI σ 90 35 1, uI σ 90 35 1, hn, ?_, fm.uI (Or.inr ⟨rfl, by decide⟩), rfl, h.2.1.trans (by rw [c])⟩
      unfold L_X12_goesTo
      rw [if_neg (show ¬ vI (uI σ 90 35 1) 90 35 = 0 from i1n0)]
    · rw [if_neg c] at hn hE ⊢
      obtain ⟨υ, u1, u2, u3⟩ := hn
      obtain ⟨τ, t1, t2, t3⟩ := put _ υ (zN z) (hE _ rfl) u2 rfl rfl
      exact ⟨nI (zN z), υ, τ, u1, t1, u3.tr t2, t3⟩
