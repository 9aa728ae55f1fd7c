/-! the complement: what it keeps to -/
theorem fnd_n {X : Nat → nd} {x : nd} : ∀ n, fnd X x n = none → ∀ k, k < n → X k ≠ x := by
  intro n
  induction n with
  | zero => intro _ k hk; exact absurd hk (Nat.not_lt_zero k)
  | succ n ih =>
    intro h k hk
    rw [fnd] at h
    split at h
    · exact nomatch h
    · next hc =>
      by_cases e : k = n
      · rw [e]; exact hc
      · exact ih h k (by omega)
def zO (x0 : nd) (z : zS) : Prop := 1 ≤ zN z ∧ zN z ≤ 300 ∧ zX z 0 = x0 ∧ (∀ n, n < zN z → ndO (zX z n)) ∧ (∀ j, j < zE z → zT z j < zN z) ∧ ∀ a b, a < zN z → b < zN z → zX z a = zX z b → a = b
theorem zO.go {x0 : nd} {z y : zS} {x : nd} (h : zO x0 z) (hx : ndO x) (hg : go1 z x = some y) : zO x0 y := by
  obtain ⟨a1, a2, a3, a4, a5, a6⟩ := h
  unfold go1 at hg
  cases hf : fnd (zX z) x (zN z) with
  | some k =>
    rw [hf] at hg
    injection hg with hg
    rw [← hg]
    obtain ⟨k1, -⟩ := fnd_s _ hf
    refine ⟨a1, a2, a3, a4, fun j hj => ?_, a6⟩
    have hj : j < zE z + 1 := hj
    show pu (zT z) (zE z) k j < zN z
    by_cases e : j = zE z
    · rw [e, pu_s]; exact k1
    · rw [pu_n e]; exact a5 j (by omega)
  | none =>
    rw [hf] at hg
    have hg : (if zN z = 300 then none else some ((zN z + 1, pu (zX z) (zN z) x), (zE z + 1, pu (zT z) (zE z) (zN z)))) = some y := hg
    by_cases c : zN z = 300
    · rw [if_pos c] at hg; exact nomatch hg
    · rw [if_neg c] at hg
      injection hg with hg
      rw [← hg]
      have nn := fnd_n _ hf
      refine ⟨show 1 ≤ zN z + 1 by omega, show zN z + 1 ≤ 300 by omega, (pu_n (show 0 ≠ zN z by omega)).trans a3, fun n hn => ?_, fun j hj => ?_, fun a b ha hb e => ?_⟩
      · have hn : n < zN z + 1 := hn
        show ndO (pu (zX z) (zN z) x n)
        by_cases e : n = zN z
        · rw [e, pu_s]; exact hx
        · rw [pu_n e]; exact a4 n (by omega)
      · have hj : j < zE z + 1 := hj
        show pu (zT z) (zE z) (zN z) j < zN z + 1
        by_cases e : j = zE z
        · rw [e, pu_s]; omega
        · rw [pu_n e]; have := a5 j (by omega); omega
      · have ha : a < zN z + 1 := ha
        have hb : b < zN z + 1 := hb
        have e : pu (zX z) (zN z) x a = pu (zX z) (zN z) x b := e
        by_cases ea : a = zN z
        · by_cases eb : b = zN z
          · omega
          · rw [ea, pu_s, pu_n eb] at e
            exact absurd e.symm (nn b (by omega))
        · by_cases eb : b = zN z
          · rw [eb, pu_s, pu_n ea] at e
            exact absurd e (nn a (by omega))
          · rw [pu_n ea, pu_n eb] at e
            exact a6 a b (by omega) (by omega) e
theorem zO.goL {x0 : nd} : ∀ {l : List nd} {z y : zS}, zO x0 z → (∀ x, x ∈ l → ndO x) → goL l z = some y → zO x0 y
  | [], z, y, h, _, hg => by
    injection hg with hg
    rw [← hg]
    exact h
  | x :: l, z, y, h, hl, hg => by
    rw [_root_.Jvm.Pilot.COddRanksLaw_law_r6233_83b37d.goL] at hg
    cases h1 : go1 z x with
    | none => rw [h1] at hg; exact nomatch hg
    | some w =>
      rw [h1] at hg
      exact zO.goL (h.go (hl x List.mem_cons_self) h1) (fun y hy => hl y (List.mem_cons_of_mem _ hy)) hg
/-- starts never fall -/
def sMo (S : Nat → Nat) (i : Nat) : Prop := ∀ j, j < i → S j ≤ S (j + 1)
theorem sMo_pu {S : Nat → Nat} {i e e' : Nat} (h : sMo (pu S i e) i) (he : e ≤ e') : sMo (pu (pu S i e) (i + 1) e') (i + 1) := by
  intro j hj
  by_cases c : j = i
  · subst c
    rw [pu_n (show j ≠ j + 1 by omega), pu_s, pu_s]
    exact he
  · rw [pu_n (show j ≠ i + 1 by omega), pu_n (show j + 1 ≠ i + 1 by omega)]
    exact h j (by omega)
theorem lyC_O {G : Nat} {M : aM} {x x0 : nd} (hM : mOk G M) (hx : ndO x) : ∀ (k c i : Nat) (w v : zS × (Nat → Nat)), i + k ≤ 900 → zO x0 w.1 → zE w.1 ≤ 300 * i → sMo (pu w.2 i (zE w.1)) i → lyC M x k c i w = some v → zO x0 v.1 ∧ zE v.1 ≤ 300 * (i + k) ∧ sMo (pu v.2 (i + k) (zE v.1)) (i + k) := by
  intro k
  induction k with
  | zero =>
    intro c i w v _ h1 h2 h3 h
    injection h with h
    rw [← h]
    exact ⟨h1, h2, h3⟩
  | succ k ih =>
    intro c i w v hi h1 h2 h3 h
    rw [lyC] at h
    cases hg : goL (suc M x c) w.1 with
    | none => rw [hg] at h; exact nomatch h
    | some y =>
      rw [hg] at h
      obtain ⟨-, okn⟩ := okE_nd (e0 := zE w.1) (by omega) (suc M x c) [] w.1 h1.2.1 (suc_nd hM hx) (fun y hy => nomatch hy) rfl (suc_O hM hx)
      have hy := okn y hg
      obtain ⟨-, -, x3⟩ := goL_X _ _ _ hg
      have := ih (c + 1) (i + 1) (y, pu w.2 i (zE w.1)) v (by omega) (h1.goL (suc_O hM hx) hg) (by show zE y ≤ _; omega) (sMo_pu h3 x3) h
      rw [show i + 1 + k = i + (k + 1) by omega] at this
      exact this
theorem lyN_O {G : Nat} {M : aM} {x0 : nd} (hM : mOk G M) (hG : G ≤ 3) : ∀ (f n : Nat) (w v : zS × (Nat → Nat)), n ≤ zN w.1 → zO x0 w.1 → zE w.1 ≤ 300 * (n * G) → sMo (pu w.2 (n * G) (zE w.1)) (n * G) → lyN M G f n w = some v → zO x0 v.1 ∧ zE v.1 ≤ 270000 ∧ sMo v.2 (zN v.1 * G) ∧ v.2 (zN v.1 * G) = zE v.1 := by
  intro f
  induction f with
  | zero => intro n w v _ _ _ _ h; exact nomatch h
  | succ f ih =>
    intro n w v hn h1 h2 h3 h
    rw [lyN] at h
    have hN := h1.2.1
    by_cases c : n < zN w.1
    · rw [if_pos c] at h
      cases hl : lyC M (zX w.1 n) G 0 (n * G) w with
      | none => rw [hl] at h; exact nomatch h
      | some u =>
        rw [hl] at h
        have hb : n * G ≤ 299 * G := Nat.mul_le_mul_right _ (by omega)
        obtain ⟨a1, a2, a3⟩ := lyC_O hM (h1.2.2.2.1 n c) G 0 (n * G) w u (by omega) h1 h2 h3 hl
        obtain ⟨b1, -⟩ := lyC_X _ _ _ _ _ hl
        have eG : (n + 1) * G = n * G + G := Nat.succ_mul n G
        exact ih (n + 1) u v (by omega) a1 (by rw [eG]; exact a2) (by rw [eG]; exact a3) h
    · rw [if_neg c] at h
      injection h with h
      rw [← h]
      have en : n = zN w.1 := by omega
      have hb : n * G ≤ 300 * 3 := Nat.mul_le_mul (by omega) hG
      refine ⟨h1, by show zE w.1 ≤ 270000; omega, ?_, ?_⟩
      · show sMo (pu w.2 (n * G) (zE w.1)) (zN w.1 * G)
        rw [← en]; exact h3
      · show pu w.2 (n * G) (zE w.1) (zN w.1 * G) = zE w.1
        rw [← en]; exact pu_s
def cO (M : aM) (G : Nat) (v : zS × (Nat → Nat)) : Prop := zO (mB M, 0, 0, 0) v.1 ∧ zE v.1 ≤ 270000 ∧ sMo v.2 (zN v.1 * G) ∧ v.2 (zN v.1 * G) = zE v.1
theorem cpl_O {G : Nat} {M : aM} {v : zS × (Nat → Nat)} (hM : mOk G M) (hG : G ≤ 3) (h : cpl M G = some v) : cO M G v := by
  unfold cpl at h
  refine lyN_O hM hG 301 0 (((1, fun _ => (mB M, 0, 0, 0)), (0, fun _ => 0)), fun _ => 0) v (Nat.zero_le _) ⟨Nat.le_refl _, (by decide : 1 ≤ 300), rfl, fun n _ => ⟨hM.b.1, (by decide : 0 < 16), Or.inl ⟨rfl, rfl, rfl⟩⟩, fun j hj => absurd hj (Nat.not_lt_zero j), fun a b ha hb _ => ?_⟩ (Nat.zero_le _) (fun j hj => absurd hj (by rw [Nat.zero_mul]; exact Nat.not_lt_zero j)) h
  have ha : a < 1 := ha
  have hb : b < 1 := hb
  omega
theorem sMo.le {S : Nat → Nat} {i : Nat} (h : sMo S i) : ∀ {b a : Nat}, a ≤ b → b ≤ i → S a ≤ S b := by
  intro b
  induction b with
  | zero => intro a ha _; rw [show a = 0 by omega]; exact Nat.le_refl _
  | succ b ih =>
    intro a ha hb
    by_cases e : a = b + 1
    · rw [e]; exact Nat.le_refl _
    · exact Nat.le_trans (ih (by omega) (by omega)) (h b (by omega))
