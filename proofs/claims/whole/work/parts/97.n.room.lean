/-! room: rows that grow -/
def grR : List Nat := [20, 21, 22, 23, 24, 25, 26, 36, 37, 38, 39, 40, 41, 42, 43, 44, 46, 47, 48, 49, 51, 52, 53, 54, 55, 57, 58, 59, 60, 61]
def lim (r : Nat) : Nat := if r = 42 ∨ r = 43 ∨ r = 44 then 270000 else 6000
def gw (n : Nat) : Nat := if n = 270000 then 810000 else 2 * n
def gc (n : Nat) : Nat := if n = 0 then 0 else if n = 270000 then 21 else Nat.log2 n + 1
def sm (f : Nat → Nat) : List Nat → Nat
  | [] => 0
  | r :: l => f r + sm f l
theorem sm_le {f g : Nat → Nat} (h : ∀ b, f b ≤ g b) : ∀ l, sm f l ≤ sm g l
  | [] => Nat.le_refl _
  | r :: l => Nat.add_le_add (h r) (sm_le h l)
theorem sm_up {f g : Nat → Nat} {r d : Nat} (h : ∀ b, f b ≤ g b) (hr : f r + d ≤ g r) : ∀ l, r ∈ l → sm f l + d ≤ sm g l
  | [], q => nomatch q
  | b :: l, q => by
    rw [sm, sm]
    rcases List.mem_cons.mp q with e | e
    · subst e
      have := sm_le h l
      omega
    · have := sm_up h hr l e
      have := h b
      omega
/-- the room is kept: what has been made stays below what the rows hold -/
def Rm (B : Nat × Nat) (σ : sS) : Prop := (∀ r, r ∈ grR → vC σ r ≤ lim r) ∧ (vk σ).1 ≤ B.1 + sm (fun r => gc (vC σ r)) grR ∧ (vk σ).2 ≤ B.2 + sm (fun r => gw (vC σ r)) grR
theorem log2_2 {n m : Nat} (hn : n ≠ 0) (h : 2 * n ≤ m) : Nat.log2 n + 1 ≤ Nat.log2 m := by
  have hm : m ≠ 0 := by omega
  rw [Nat.le_log2 hm]
  have h1 : 2 ^ Nat.log2 n ≤ n := (Nat.le_log2 hn).mp (Nat.le_refl _)
  rw [Nat.pow_succ]
  omega
theorem gw_up {n m : Nat} (h1 : n < m) (h2 : m ≤ 270000) : gw n + rw_cap n m ≤ gw (rw_cap n m) ∧ gc n + 1 ≤ gc (rw_cap n m) ∧ m ≤ rw_cap n m ∧ rw_cap n m ≤ 270000 ∧ rw_cap n m ≤ 2 * m := by
  have e : rw_cap n m = min (max m (2 * n)) 270000 := if_pos ⟨h1, h2⟩
  have b1 : m ≤ rw_cap n m := by rw [e]; omega
  have b2 : rw_cap n m ≤ 270000 := by rw [e]; omega
  have b3 : rw_cap n m ≤ 2 * m := by rw [e]; omega
  have b4 : rw_cap n m = 270000 ∨ 2 * n ≤ rw_cap n m := by rw [e]; omega
  generalize rw_cap n m = c at b1 b2 b3 b4
  refine ⟨?_, ?_, b1, b2, b3⟩
  · unfold gw
    rw [if_neg (show ¬ n = 270000 by omega)]
    split <;> omega
  · unfold gc
    rw [if_neg (show ¬ c = 0 by omega)]
    by_cases n0 : n = 0
    · rw [if_pos n0]
      split <;> omega
    · rw [if_neg n0, if_neg (show ¬ n = 270000 by omega)]
      by_cases c7 : c = 270000
      · rw [if_pos c7]
        have : Nat.log2 n < 19 := (Nat.log2_lt n0).mpr (by omega)
        omega
      · rw [if_neg c7]
        have := log2_2 n0 (show 2 * n ≤ c by omega)
        omega
theorem Rm.rx {B : Nat × Nat} {σ : sS} {r m : Nat} (h : Rm B σ) (hr : r ∈ grR) (hm : m ≤ 3000 ∨ lim r = 270000) : Rm B (rx σ r m) := by
  by_cases c : vC σ r < m ∧ m ≤ 270000
  · have e : _root_.Jvm.Pilot.COddRanksLaw_law_r6233_83b37d.rx σ r m = uC σ r (rw_cap (vC σ r) m) := if_pos c
    rw [e]
    obtain ⟨h1, h2, h3⟩ := h
    obtain ⟨g1, g2, g3, g4, g5⟩ := gw_up c.1 c.2
    have hC : ∀ b, vC (uC σ r (rw_cap (vC σ r) m)) b = if b = r then rw_cap (vC σ r) m else vC σ b := fun b => rfl
    refine ⟨fun b hb => ?_, ?_, ?_⟩
    · rw [hC]
      by_cases eb : b = r
      · rw [if_pos eb, eb]
        rcases hm with q | q
        · unfold lim
          split <;> omega
        · rw [q]; exact g4
      · rw [if_neg eb]; exact h1 b hb
    · have := sm_up (f := fun r => gc (vC σ r)) (g := fun b => gc (vC (uC σ r (rw_cap (vC σ r) m)) b)) (r := r) (d := 1) (fun b => by
        show gc (vC σ b) ≤ gc (vC (uC σ r (rw_cap (vC σ r) m)) b)
        rw [hC]
        by_cases eb : b = r
        · rw [if_pos eb, eb]; omega
        · rw [if_neg eb]; exact Nat.le_refl _) (by
        show gc (vC σ r) + 1 ≤ gc (vC (uC σ r (rw_cap (vC σ r) m)) r)
        rw [hC, if_pos rfl]; exact g2) grR hr
      show (vk σ).1 + 1 ≤ _
      omega
    · have := sm_up (f := fun r => gw (vC σ r)) (g := fun b => gw (vC (uC σ r (rw_cap (vC σ r) m)) b)) (r := r) (d := rw_cap (vC σ r) m) (fun b => by
        show gw (vC σ b) ≤ gw (vC (uC σ r (rw_cap (vC σ r) m)) b)
        rw [hC]
        by_cases eb : b = r
        · rw [if_pos eb, eb]; omega
        · rw [if_neg eb]; exact Nat.le_refl _) (by
        show gw (vC σ r) + _ ≤ gw (vC (uC σ r (rw_cap (vC σ r) m)) r)
        rw [hC, if_pos rfl]; exact g1) grR hr
      show (vk σ).2 + rw_cap (vC σ r) m ≤ _
      omega
  · have e : _root_.Jvm.Pilot.COddRanksLaw_law_r6233_83b37d.rx σ r m = σ := if_neg c
    rw [e]
    exact h
theorem Rm.c {B : Nat × Nat} {σ τ : sS} (h : Rm B σ) (e : τ.2.2.2.2 = σ.2.2.2.2) : Rm B τ := by
  have e1 : ∀ r, vC τ r = vC σ r := fun r => by show τ.2.2.2.2.1 r = σ.2.2.2.2.1 r; rw [e]
  have e2 : vk τ = vk σ := by show τ.2.2.2.2.2 = σ.2.2.2.2.2; rw [e]
  unfold Rm at h ⊢
  rw [e2]
  simp only [e1]
  exact h
/-- a number is pushed -/
def psh (r k : Nat) (x : Int32) (σ τ : sS) : Prop := vU τ r = nI (k + 1) ∧ (∀ j, vI τ r j = if j = k then x else vI σ r j) ∧ (∀ b j, b ≠ r → vI τ b j = vI σ b j) ∧ (∀ b, b ≠ r → vU τ b = vU σ b) ∧ (∀ b, b ≠ r → vC τ b = vC σ b) ∧ τ.2.1 = σ.2.1 ∧ τ.2.2.1 = σ.2.2.1 ∧ k < vC τ r ∧ τ.2.2.2.2 = (rx σ r (k + 1)).2.2.2.2
theorem rx_2 {σ : sS} {r m : Nat} : (rx σ r m).1 = σ.1 ∧ (rx σ r m).2.1 = σ.2.1 ∧ (rx σ r m).2.2.1 = σ.2.2.1 ∧ (rx σ r m).2.2.2.1 = σ.2.2.2.1 := by
  unfold rx
  split
  · exact ⟨rfl, rfl, rfl, rfl⟩
  · exact ⟨rfl, rfl, rfl, rfl⟩
theorem rqu_p {σ : sS} {r k : Nat} {x : Int32} (hU : vU σ r = nI k) (hk : k < 270000) (hC : vC σ r ≤ 270000) : psh r k x σ (rqu σ r x) := by
  have hcap : k < vC (rx σ r (k + 1)) r := by
    rw [rx_C]
    by_cases c : vC σ r < k + 1
    · have := (gw_up c (by omega)).2.2.1
      omega
    · have : vC σ r ≤ rw_cap (vC σ r) (k + 1) := (rw_cap_le hC).2
      omega
  have e : rqu σ r x = uU (uI (rx σ r (k + 1)) r k x) r (nI (k + 1)) := by
    unfold rqu rq
    rw [hU, nI_clamp (by omega), if_pos hcap]
  obtain ⟨q1, q2, q3, q4⟩ := rx_2 (σ := σ) (r := r) (m := k + 1)
  rw [e]
  refine ⟨?_, fun j => ?_, fun b j hb => ?_, fun b hb => ?_, fun b hb => ?_, q2, q3, hcap, rfl⟩
  · show (if r = r then nI (k + 1) else _) = _
    rw [if_pos rfl]
  · show vI (uI (rx σ r (k + 1)) r k x) r j = _
    rw [vI_u, rx_I]
    by_cases c : j = k
    · rw [if_pos ⟨rfl, c⟩, if_pos c]
    · rw [if_neg (fun q => c q.2), if_neg c]
  · show vI (uI (rx σ r (k + 1)) r k x) b j = _
    rw [vI_q (fun q => hb q.1), rx_I]
  · show (if b = r then nI (k + 1) else vU (rx σ r (k + 1)) b) = _
    rw [if_neg hb, rx_U]
  · exact rx_Cn hb
/-- whatever is pushed, however many there are: what stays -/
theorem rqu_f {σ : sS} {r : Nat} {x : Int32} : (∀ b j, b ≠ r → vI (rqu σ r x) b j = vI σ b j) ∧ (∀ b, b ≠ r → vU (rqu σ r x) b = vU σ b) ∧ (∀ b, b ≠ r → vC (rqu σ r x) b = vC σ b) ∧ (rqu σ r x).2.1 = σ.2.1 ∧ (rqu σ r x).2.2.1 = σ.2.2.1 ∧ (rqu σ r x).2.2.2.2 = (rx σ r ((vU σ r).toNatClampNeg + 1)).2.2.2.2 := by
  unfold rqu
  refine ⟨fun b j hb => ?_, fun b hb => rq_U hb, fun b hb => rq_C hb, rq_L.1, rq_L.2, ?_⟩
  · rw [rq_I hb]
  · unfold rq
    split
    · rfl
    · rfl
