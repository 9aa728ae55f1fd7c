/-! Row over the state -/
theorem nI_lt0 {i : Int32} (h : ¬ i < 0) : ∃ j : Nat, j < 2 ^ 31 ∧ i = nI j := nI_of h
/-- what get(i) answers -/
def rg (σ : sS) (r : Nat) (i : Int32) : Int32 := if i < 0 then 0 else vI σ r i.toNatClampNeg
/-- behind put(i, x) -/
def rp (σ : sS) (r : Nat) (i x : Int32) : sS := if i < 0 ∨ vC σ r ≤ i.toNatClampNeg then σ else uI σ r i.toNatClampNeg x
def uC (σ : sS) (r n : Nat) : sS := (σ.1, σ.2.1, σ.2.2.1, σ.2.2.2.1, u1 σ.2.2.2.2.1 r n, σ.2.2.2.2.2.1 + 1, σ.2.2.2.2.2.2 + n)
/-- behind stretch(m) -/
def rx (σ : sS) (r m : Nat) : sS := if vC σ r < m ∧ m ≤ 270000 then uC σ r (rw_cap (vC σ r) m) else σ
def uZ (σ : sS) (r n : Nat) : sS := (fun b j => if b = r ∧ j < n then 0 else σ.1 b j, σ.2)
/-- behind wipe(m) -/
def rz (σ : sS) (r m : Nat) : sS := uU (uZ (rx σ r m) r m) r 0
/-- behind push(x), with k used -/
def rq (σ : sS) (r k : Nat) (x : Int32) : sS := if k < vC (rx σ r (k + 1)) r then uU (uI (rx σ r (k + 1)) r k x) r (nI (k + 1)) else rx σ r (k + 1)
theorem sA.row {ad ar : Nat → Nat} {σ : sS} {g : ab_S} {r : Nat} (h : sA ad ar σ g) (hr : la r = (7, 0)) : g.1 (ad r) = some (.inr (6, [.ref (ar r), .int (vU σ r)])) := h.cell (la_ne hr (by decide)) (ce_R hr)
/-- a Row's cells change, in range -/
theorem sA_setW {ad ar : Nat → Nat} {σ : sS} {g : ab_S} {r k : Nat} {x : Int32} {f : Nat → Int32} (h : sA ad ar σ g) (hr : la r = (7, 0)) (hk : k < vC σ r) (hf : ∀ i, i < vC σ r → f i = vI σ r i) : sA ad ar (uI σ r k x) (ab_up g.1 (ar r) (.inl (0, vC σ r, .inl (upd f k x))), g.2) := by
  obtain ⟨h1, h2, h3, h4, h5, h6, h7⟩ := h
  have r7 : (la r).1 = 7 := by rw [hr]
  have key : ∀ j, upd f k x j = if j = k then x else f j := fun j => by simp [upd]
  refine ⟨fun b hb => ?_, fun b hb => ?_, h3, h4, h5, fun q hq => ?_, h7⟩
  · show ab_up g.1 (ar r) _ (ad b) = _
    rw [ab_up_n (fun q => h4 r b r7 hb q.symm), h1 b hb]
    by_cases hbr : b = r
    · subst hbr
      rw [ce_R hr, ce_R hr]
      rfl
    · exact congrArg some (ce_other (σ := σ) (σ' := uI σ r k x) (u2_r hbr) rfl rfl rfl).symm
  · by_cases hbr : b = r
    · subst hbr
      obtain ⟨f0, g1, g2, g3, g4⟩ := h2 b hb
      refine ⟨upd f k x, by show ab_up g.1 (ar b) _ (ar b) = _; rw [ab_up_s]; rfl, fun i hi => ?_, fun i hi => ?_, g4⟩
      · rw [key]
        show _ = u2 σ.1 b k x b i
        by_cases hik : i = k
        · rw [hik, if_pos rfl, u2_s]
        · rw [if_neg hik, u2_n (Or.inr hik)]
          exact hf i hi
      · show u2 σ.1 b k x b i = 0
        have hi2 : vC σ b ≤ i := hi
        rw [u2_n (Or.inr (by omega))]
        exact g3 i hi
    · obtain ⟨f0, g1, g2, g3, g4⟩ := h2 b hb
      have e : vI (uI σ r k x) b = vI σ b := u2_r hbr
      refine ⟨f0, ?_, ?_, ?_, g4⟩
      · show ab_up g.1 (ar r) _ (ar b) = _
        rw [ab_up_n (fun q => hbr (h3 b r hb r7 q))]
        exact g1
      · rw [e]; exact g2
      · rw [e]; exact g3
  · rcases ab_up_some hq with rfl | h8
    · obtain ⟨f0, g1, -⟩ := h2 r r7
      exact h6 _ (by rw [g1]; rfl)
    · exact h6 q h8
theorem c_get {ad : Nat → Nat} {σ : sS} {r : Nat} (hr : la r = (7, 0)) (i : Int32) : ab_X (sR ad) 1 mX7_get [.ref (ad r), .int i] σ (some (.int (rg σ r i))) σ := by
  refine ab_X.up (fun g hg => ⟨g, ?_, hg⟩)
  obtain ⟨ar, hg⟩ := hg
  obtain ⟨f, f1, f2, f3, f4⟩ := hg.2.1 r (by rw [hr])
  have h := mm_get (hg.row hr) f1 f4 i
  have e : (if i < 0 then 0 else if vC σ r ≤ i.toNatClampNeg then 0 else f i.toNatClampNeg) = rg σ r i := by
    unfold rg
    by_cases c : i < 0
    · rw [if_pos c, if_pos c]
    · rw [if_neg c, if_neg c]
      by_cases c2 : vC σ r ≤ i.toNatClampNeg
      · rw [if_pos c2, f3 _ c2]
      · rw [if_neg c2, f2 _ (by omega)]
  rw [e] at h
  exact h
theorem c_put {ad : Nat → Nat} {σ : sS} {r : Nat} (hr : la r = (7, 0)) (i x : Int32) : ab_X (sR ad) 1 mX7_put [.ref (ad r), .int i, .int x] σ none (rp σ r i x) := by
  refine ab_X.up (fun g hg => ?_)
  obtain ⟨ar, hg⟩ := hg
  obtain ⟨f, f1, f2, f3, f4⟩ := hg.2.1 r (by rw [hr])
  refine ⟨_, mm_put (hg.row hr) f1 f4 i x, ar, ?_⟩
  unfold rp
  by_cases c : i < 0 ∨ vC σ r ≤ i.toNatClampNeg
  · rw [if_pos c, if_pos c]; exact hg
  · rw [if_neg c, if_neg c]
    exact sA_setW (k := i.toNatClampNeg) hg hr (Nat.not_le.mp (fun z => c (Or.inr z))) f2
theorem rw_cap_le {n m : Nat} (hn : n ≤ 270000) : rw_cap n m ≤ 270000 ∧ n ≤ rw_cap n m := by
  unfold rw_cap
  by_cases c : n < m ∧ m ≤ 270000
  · rw [if_pos c]; omega
  · rw [if_neg c]; omega
theorem c_stretch {ad : Nat → Nat} {σ : sS} {r : Nat} (hr : la r = (7, 0)) (m : Nat) (hm : m < 2 ^ 31) : ab_X (sR ad) 2 mX7_stretch [.ref (ad r), .int (nI m)] σ none (rx σ r m) := by
  refine ab_X.up (fun g hg => ?_)
  obtain ⟨ar, hg⟩ := hg
  have r7 : (la r).1 = 7 := by rw [hr]
  obtain ⟨f, f1, f2, f3, f4⟩ := hg.2.1 r r7
  have hb := hg.2.2.2.2.2.1
  have hac := hb (ar r) (by rw [f1]; rfl)
  have haa := hb (ad r) (by rw [hg.row hr]; rfl)
  refine ⟨_, mm_stretch (hg.row hr) f1 f4 hac haa m hm, ?_⟩
  unfold rx
  by_cases c : vC σ r < m ∧ m ≤ 270000
  · rw [if_pos c, if_pos c]
    obtain ⟨h1, h2, h3, h4, h5, h6, h7⟩ := hg
    have fre : ∀ b, (la b).1 ≠ 0 → ad b ≠ g.2.1 := fun b hb q => absurd (h6 (ad b) (by rw [h1 b hb]; rfl)) (by omega)
    have frr : ∀ b, (la b).1 = 7 → ar b ≠ g.2.1 := fun b hb q => by
      obtain ⟨f0, g1, -⟩ := h2 b hb
      exact absurd (h6 (ar b) (by rw [g1]; rfl)) (by omega)
    have hcap := rw_cap_le (m := m) f4
    refine ⟨fun b => if b = r then g.2.1 else ar b, fun b hb => ?_, fun b hb => ?_, fun x y hx hy hxy => ?_, fun x y hx hy => ?_, h5, fun q hq => ?_, ?_, h7.2⟩
    · by_cases hbr : b = r
      · subst hbr
        show ab_up (ab_up g.1 g.2.1 _) (ad b) _ (ad b) = _
        rw [ab_up_s, ce_R hr, if_pos rfl]
        rfl
      · show ab_up (ab_up g.1 g.2.1 _) (ad r) _ (ad b) = _
        rw [ab_up_n (fun q => hbr (h5 b r hb (by omega) q)), ab_up_n (fre b hb), h1 b hb]
        have e : ce ad (fun b => if b = r then g.2.1 else ar b) (uC σ r (rw_cap (vC σ r) m)) b = ce ad ar σ b := by
          have hf : ∀ ci, fv ad (uC σ r (rw_cap (vC σ r) m)) b ci = fv ad σ b ci := fun ci => rfl
          simp only [ce, hf, if_neg hbr]
          rfl
        rw [e]
    · by_cases hbr : b = r
      · subst hbr
        refine ⟨fun j => if j < vC σ b then f j else 0, ?_, fun i hi => ?_, fun i hi => ?_, ?_⟩
        · show ab_up (ab_up g.1 g.2.1 _) (ad b) _ (if b = b then g.2.1 else ar b) = _
          rw [if_pos rfl, ab_up_n (fun q => fre b (by omega) q.symm), ab_up_s]
          have e : vC (uC σ b (rw_cap (vC σ b) m)) b = rw_cap (vC σ b) m := by simp [vC, uC, u1]
          rw [e]
        · show (if i < vC σ b then f i else 0) = vI σ b i
          by_cases hi2 : i < vC σ b
          · rw [if_pos hi2]; exact f2 i hi2
          · rw [if_neg hi2]; exact (f3 i (by omega)).symm
        · have e : vC (uC σ b (rw_cap (vC σ b) m)) b = rw_cap (vC σ b) m := by simp [vC, uC, u1]
          rw [e] at hi
          exact f3 i (by omega)
        · have e : vC (uC σ b (rw_cap (vC σ b) m)) b = rw_cap (vC σ b) m := by simp [vC, uC, u1]
          rw [e]
          exact hcap.1
      · obtain ⟨f0, g1, g2, g3, g4⟩ := h2 b hb
        have e : vC (uC σ r (rw_cap (vC σ r) m)) b = vC σ b := by simp [vC, uC, u1, hbr]
        refine ⟨f0, ?_, ?_, ?_, ?_⟩
        · show ab_up (ab_up g.1 g.2.1 _) (ad r) _ (if b = r then g.2.1 else ar b) = _
          rw [if_neg hbr, ab_up_n (h4 b r hb (by omega)), ab_up_n (frr b hb), e]
          exact g1
        · rw [e]; exact g2
        · rw [e]; exact g3
        · rw [e]; exact g4
    · dsimp only at hxy
      by_cases hxr : x = r
      · by_cases hyr : y = r
        · rw [hxr, hyr]
        · rw [if_pos hxr, if_neg hyr] at hxy
          exact absurd hxy.symm (frr y hy)
      · by_cases hyr : y = r
        · rw [if_neg hxr, if_pos hyr] at hxy
          exact absurd hxy (frr x hx)
        · rw [if_neg hxr, if_neg hyr] at hxy
          exact h3 x y hx hy hxy
    · dsimp only
      by_cases hxr : x = r
      · rw [if_pos hxr]; exact fun q => fre y hy q.symm
      · rw [if_neg hxr]; exact h4 x y hx hy
    · show q < g.2.1 + 1
      rcases ab_up_some hq with rfl | hq
      · omega
      · rcases ab_up_some hq with rfl | hq
        · omega
        · have := h6 q hq
          omega
    · show (g.2.2.1 + 1, g.2.2.2.1 + rw_cap (vC σ r) m) = _
      have e := h7.1
      have e1 : g.2.2.1 = (vk σ).1 := congrArg Prod.fst e
      have e2 : g.2.2.2.1 = (vk σ).2 := congrArg Prod.snd e
      rw [e1, e2]
      rfl
  · rw [if_neg c, if_neg c]
    exact ⟨ar, hg⟩
