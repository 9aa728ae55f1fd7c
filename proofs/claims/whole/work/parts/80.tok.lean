/-! tokens: the reference's goOn -/
theorem uI_uI {σ : sS} {a k : Nat} {x y : Int32} : uI (uI σ a k x) a k y = uI σ a k y := by
  show (u2 (u2 σ.1 a k x) a k y, σ.2) = (u2 σ.1 a k y, σ.2)
  congr 1
  funext b j
  unfold u2
  by_cases h : b = a ∧ j = k
  · rw [if_pos h, if_pos h]
  · rw [if_neg h, if_neg h, if_neg h]
theorem uI_self {σ : sS} {a k : Nat} {x : Int32} (h : vI σ a k = x) : uI σ a k x = σ := by
  show (u2 σ.1 a k x, σ.2) = σ
  have e : u2 σ.1 a k x = σ.1 := by
    funext b j
    unfold u2
    by_cases q : b = a ∧ j = k
    · rw [if_pos q, q.1, q.2]; exact h.symm
    · rw [if_neg q]
  rw [e]
theorem bd_z {β : Type} {f g : Int32 → Option β} : bd (some (0 : Int32)) (fun r => if r = 0 then f r else g r) = f 0 := by rw [bd_s, if_pos rfl]
theorem bd_o {β : Type} {f g : Int32 → Option β} : bd (some (1 : Int32)) (fun r => if r = 0 then f r else g r) = g 1 := by rw [bd_s, if_neg i1n0]
abbrev kBl (b : Nat → Int32) : Nat → Bool := fun j => decide (b j = 32)
abbrev kSm (b : Nat → Int32) : Nat → Bool := fun j => !decide (b j < 97) && !decide (122 < b j)
abbrev kDg (b : Nat → Int32) : Nat → Bool := fun j => !decide (b j < 48) && !decide (57 < b j)
/-- the reference reads e bytes b and stands at p -/
def tkR (b : Nat → Int32) (e p : Nat) (σ : sS) : Prop := (∀ j, j < 400 → vI σ 103 j = b j) ∧ vI σ 90 5 = nI e ∧ vI σ 90 6 = nI p ∧ p ≤ e ∧ e ≤ 400
theorem tkR.mv {b : Nat → Int32} {e p q : Nat} {σ : sS} (h : tkR b e p σ) (hq : q ≤ e) : tkR b e q (uI σ 90 6 (nI q)) := ⟨h.1, h.2.1, rfl, hq, h.2.2.2.2⟩
theorem z_blank {b : Nat → Int32} {e : Nat} {F : Nat} (kx : sS → Option sS) : ∀ (n p f : Nat) (σ : sS), p + n = e → n < f → tkR b e p σ → L_X12_goOn_8 F kx f σ = kx (uI σ 90 6 (nI (scn (kBl b) e p))) := by
  intro n
  induction n with
  | zero =>
    intro p f σ hp hf h
    obtain ⟨f, rfl⟩ : ∃ g, f = g + 1 := ⟨f - 1, by omega⟩
    have he := h.2.2.2.2
    rw [L_X12_goOn_8, h.2.1, h.2.2.1, if_pos (nI_le (by omega) (by omega)), scn_stop (by omega), uI_self h.2.2.1]
  | succ n ih =>
    intro p f σ hp hf h
    obtain ⟨f, rfl⟩ : ∃ g, f = g + 1 := ⟨f - 1, by omega⟩
    have he := h.2.2.2.2
    rw [L_X12_goOn_8, h.2.1, h.2.2.1, if_neg (nI_ge (by omega) (by omega)), inb_n (by omega) (by omega), nI_clamp (by omega), h.1 p (by omega), nI_1, grd_s]
    by_cases hb : b p = 32
    · rw [if_pos hb, scn_go (by omega) (decide_eq_true hb)]
      simp only [bnd_s]
      rw [ih (p + 1) f _ (by omega) (by omega) (h.mv (by omega)), uI_uI]
    · rw [if_neg hb, scn_stop (fun q => hb (of_decide_eq_true q.2)), uI_self h.2.2.1]
theorem z_in {x l u : Int32} : L_X12_in x l u = if (!decide (x < l) && !decide (u < x)) = true then 1 else 0 := by
  unfold L_X12_in
  by_cases h1 : x < l
  · rw [if_pos h1, if_neg (by simp [h1])]
  · rw [if_neg h1]
    by_cases h2 : u < x
    · rw [if_pos h2, if_neg (by simp [h2])]
    · rw [if_neg h2, if_pos (by simp [h1, h2])]
theorem z_small {b : Nat → Int32} {e p k : Nat} {σ : sS} (h : tkR b e p σ) (hk : k ≤ e) : L_X12_isLetterAt (nI k) σ = some (if k < e ∧ kSm b k = true then 1 else 0) := by
  have he := h.2.2.2.2
  unfold L_X12_isLetterAt
  rw [h.2.1]
  by_cases hke : k < e
  · rw [if_neg (nI_ge hke (by omega)), inb_n (by omega) (by omega), nI_clamp (by omega), h.1 k (by omega), z_in, grd_s]
    by_cases hs : kSm b k = true
    · rw [if_pos hs, if_neg i1n0, if_pos ⟨hke, hs⟩]
    · rw [if_neg hs, if_pos rfl, if_neg (fun q => hs q.2)]
  · rw [if_pos (nI_le (by omega) (by omega)), if_neg (fun q => hke q.1)]
theorem z_digit {b : Nat → Int32} {e p k : Nat} {σ : sS} (h : tkR b e p σ) (hk : k ≤ e) : L_X12_isDigitAt (nI k) σ = some (if k < e ∧ kDg b k = true then 1 else 0) := by
  have he := h.2.2.2.2
  unfold L_X12_isDigitAt
  rw [h.2.1]
  by_cases hke : k < e
  · rw [if_neg (nI_ge hke (by omega)), inb_n (by omega) (by omega), nI_clamp (by omega), h.1 k (by omega), z_in, grd_s]
    by_cases hs : kDg b k = true
    · rw [if_pos hs, if_neg i1n0, if_pos ⟨hke, hs⟩]
    · rw [if_neg hs, if_pos rfl, if_neg (fun q => hs q.2)]
  · rw [if_pos (nI_le (by omega) (by omega)), if_neg (fun q => hke q.1)]
theorem z_digits {b : Nat → Int32} {e : Nat} {F : Nat} (kx : sS → Option sS) : ∀ (n p f : Nat) (σ : sS), p + n = e → n < f → tkR b e p σ → L_X12_goOn_209 F kx f σ = kx (uI σ 90 6 (nI (scn (kDg b) e p))) := by
  intro n
  induction n with
  | zero =>
    intro p f σ hp hf h
    obtain ⟨f, rfl⟩ : ∃ g, f = g + 1 := ⟨f - 1, by omega⟩
    rw [L_X12_goOn_209, h.2.2.1, z_digit h (by omega), if_neg (by omega), bd_z, scn_stop (by omega), uI_self h.2.2.1]
  | succ n ih =>
    intro p f σ hp hf h
    obtain ⟨f, rfl⟩ : ∃ g, f = g + 1 := ⟨f - 1, by omega⟩
    rw [L_X12_goOn_209, h.2.2.1, z_digit h (by omega), nI_1]
    by_cases hb : kDg b p = true
    · rw [if_pos ⟨by omega, hb⟩, bd_o, scn_go (by omega) hb]
      simp only [bnd_s]
      rw [ih (p + 1) f _ (by omega) (by omega) (h.mv (by omega)), uI_uI]
    · rw [if_neg (fun q => hb q.2), bd_z, scn_stop (fun q => hb q.2), uI_self h.2.2.1]
/-- a word's number: of its first seven letters -/
def wdv (b : Nat → Int32) (a : Nat) : Nat → Int64
  | 0 => 0
  | k + 1 => if k < 7 then wdv b a k * 32 + (b (a + k)).toInt64 - 97 + 1 else wdv b a k
theorem uL_self {σ : sS} {a k : Nat} {x : Int64} (h : vL σ a k = x) : uL σ a k x = σ := by
  show (σ.1, u2 σ.2.1 a k x, σ.2.2) = σ
  have e : u2 σ.2.1 a k x = σ.2.1 := by
    funext b j
    unfold u2
    by_cases q : b = a ∧ j = k
    · rw [if_pos q, q.1, q.2]; exact h.symm
    · rw [if_neg q]
  rw [e]
theorem uL_uL {σ : sS} {a k : Nat} {x y : Int64} : uL (uL σ a k x) a k y = uL σ a k y := by
  show (σ.1, u2 (u2 σ.2.1 a k x) a k y, σ.2.2) = (σ.1, u2 σ.2.1 a k y, σ.2.2)
  have e : u2 (u2 σ.2.1 a k x) a k y = u2 σ.2.1 a k y := by
    funext b j
    unfold u2
    by_cases h : b = a ∧ j = k
    · rw [if_pos h, if_pos h]
    · rw [if_neg h, if_neg h, if_neg h]
  rw [e]
theorem z_word {b : Nat → Int32} {e a : Nat} {F : Nat} (kx : sS → Option sS) : ∀ (n p f : Nat) (σ : sS), p + n = e → n < f → a ≤ p → tkR b e p σ → vI σ 90 10 = nI a → vL σ 90 13 = wdv b a (p - a) → L_X12_goOn_89 F kx f σ = kx (uL (uI σ 90 6 (nI (scn (kSm b) e p))) 90 13 (wdv b a (scn (kSm b) e p - a))) := by
  intro n
  induction n with
  | zero =>
    intro p f σ hp hf hap h ha hw
    obtain ⟨f, rfl⟩ : ∃ g, f = g + 1 := ⟨f - 1, by omega⟩
    rw [L_X12_goOn_89, h.2.2.1, z_small h (by omega), if_neg (by omega), bd_z, scn_stop (by omega), uI_self h.2.2.1, uL_self hw]
  | succ n ih =>
    intro p f σ hp hf hap h ha hw
    obtain ⟨f, rfl⟩ : ∃ g, f = g + 1 := ⟨f - 1, by omega⟩
    have he := h.2.2.2.2
    have e1 : nI p - nI a = nI (p - a) := by
      have e2 : nI p = nI (p - a) + nI a := by rw [nI_add]; congr 1; omega
      rw [e2, Int32.add_sub_cancel]
    rw [L_X12_goOn_89, h.2.2.1, ha, z_small h (by omega), e1, inb_n (by omega) (by omega), nI_clamp (by omega), h.1 p (by omega), grd_s]
    by_cases hb : kSm b p = true
    · rw [if_pos ⟨by omega, hb⟩, bd_o, scn_go (by omega) hb]
      by_cases h7 : 7 ≤ p - a
      · rw [if_pos (show (7 : Int32) ≤ nI (p - a) from (nI_leI (a := 7) (by decide) (by omega)).mpr h7)]
        unfold L_X12_goOn_143
        simp only [bnd_s]
        rw [h.2.2.1, nI_1, ih (p + 1) f _ (by omega) (by omega) (by omega) (h.mv (by omega)) ha (by
          rw [show p + 1 - a = (p - a) + 1 by omega]
          unfold wdv
          rw [if_neg (by omega)]
          exact hw), uI_uI]
      · rw [if_neg (show ¬ (7 : Int32) ≤ nI (p - a) from fun q => h7 ((nI_leI (a := 7) (by decide) (by omega)).mp q)), hw]
        unfold L_X12_goOn_143
        simp only [bnd_s]
        have hv : vI (uL σ 90 13 (wdv b a (p - a) * 32 + (b p).toInt64 - 97 + 1)) 90 6 = nI p := h.2.2.1
        rw [hv, nI_1]
        have h' : tkR b e (p + 1) (uI (uL σ 90 13 (wdv b a (p - a) * 32 + (b p).toInt64 - 97 + 1)) 90 6 (nI (p + 1))) := ⟨h.1, h.2.1, rfl, by omega, h.2.2.2.2⟩
        rw [ih (p + 1) f _ (by omega) (by omega) (by omega) h' ha (by
          rw [show p + 1 - a = (p - a) + 1 by omega]
          show u2 σ.2.1 90 13 (wdv b a (p - a) * 32 + (b p).toInt64 - 97 + 1) 90 13 = _
          rw [u2_s, wdv, if_pos (by omega), show a + (p - a) = p by omega])]
        have ec : ∀ (x : Int64) (u v : Int32), uI (uI (uL σ 90 13 x) 90 6 u) 90 6 v = uL (uI σ 90 6 v) 90 13 x := fun x u v => by rw [uI_uI]; rfl
        rw [ec, uL_uL]
    · rw [if_neg (fun q => hb q.2), bd_z, scn_stop (fun q => hb q.2), uI_self h.2.2.1, uL_self hw]
