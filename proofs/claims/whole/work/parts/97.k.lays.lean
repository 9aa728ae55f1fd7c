/-! the complement: the reference lays it -/
theorem go1_X {z y : zS} {x : nd} (h : go1 z x = some y) : zN z ≤ zN y ∧ (∀ j, j < zN z → zX y j = zX z j) ∧ zE y = zE z + 1 := by
  unfold go1 at h
  split at h
  · injection h with h
    rw [← h]
    exact ⟨Nat.le_refl _, fun _ _ => rfl, rfl⟩
  · split at h
    · exact nomatch h
    · injection h with h
      rw [← h]
      exact ⟨Nat.le_succ _, fun j hj => pu_n (show j ≠ zN z by omega), rfl⟩
theorem goL_X : ∀ (l : List nd) (z y : zS), goL l z = some y → zN z ≤ zN y ∧ (∀ j, j < zN z → zX y j = zX z j) ∧ zE z ≤ zE y
  | [], z, y, h => by
    injection h with h
    rw [← h]
    exact ⟨Nat.le_refl _, fun _ _ => rfl, Nat.le_refl _⟩
  | x :: l, z, y, h => by
    rw [goL] at h
    cases hg : go1 z x with
    | none => rw [hg] at h; exact nomatch h
    | some w =>
      rw [hg] at h
      obtain ⟨a1, a2, a3⟩ := go1_X hg
      obtain ⟨b1, b2, b3⟩ := goL_X l w y h
      exact ⟨by omega, fun j hj => (b2 j (by omega)).trans (a2 j hj), by omega⟩
theorem lyC_X {M : aM} {x : nd} : ∀ (k c i : Nat) (w v : zS × (Nat → Nat)), lyC M x k c i w = some v → zN w.1 ≤ zN v.1 ∧ (∀ j, j < zN w.1 → zX v.1 j = zX w.1 j) ∧ (∀ j, j < i → v.2 j = w.2 j) ∧ (0 < k → v.2 i = zE w.1) := by
  intro k
  induction k with
  | zero =>
    intro c i w v h
    injection h with h
    rw [← h]
    exact ⟨Nat.le_refl _, fun _ _ => rfl, fun _ _ => rfl, fun h => absurd h (Nat.lt_irrefl 0)⟩
  | succ k ih =>
    intro c i w v h
    rw [lyC] at h
    cases hg : goL (suc M x c) w.1 with
    | none => rw [hg] at h; exact nomatch h
    | some y =>
      rw [hg] at h
      obtain ⟨a1, a2, -⟩ := goL_X _ _ _ hg
      obtain ⟨b1, b2, b3, -⟩ := ih _ _ _ _ h
      have b1 : zN y ≤ zN v.1 := b1
      refine ⟨by omega, fun j hj => (b2 j (show j < zN y by omega)).trans (a2 j hj), fun j hj => (b3 j (by omega)).trans (pu_n (by omega)), fun _ => (b3 i (by omega)).trans pu_s⟩
def hM : List Nat := [123, 124, 125, 126, 127, 128, 129, 130, 131, 136]
theorem R0.h {A : aS} {σ τ : sS} (h : R0 A σ) (f : fm hM cpK σ τ) : R0 A τ := h.keep f (by decide) (by decide) (by decide)
theorem fm.gh {σ τ : sS} (h : fm gM cpK σ τ) : fm hM cpK σ τ := h.mo (by decide) (fun _ h => h)
theorem fm.h0 {σ τ : sS} (h : fm [130] [] σ τ) : fm hM cpK σ τ := h.mo (by decide) (fun _ h => nomatch h)
theorem rZ.f0 {z : zS} {σ τ : sS} (h : rZ z σ) (f : fm [130] [] σ τ) : rZ z τ := by
  obtain ⟨a1, a2, a3, a4, a5, a6, a7, a8⟩ := h
  refine ⟨a1, (f.f (by decide) (by decide)).trans a2, (f.f (by decide) (by decide)).trans a3, (f.f (by decide) (by decide)).trans a4, fun n hn => ?_, fun k hk => (f.r (by decide) (by decide)).trans (a6 k hk), fun n hn => (f.r (by decide) (by decide)).trans (a7 n hn), fun j hj => (f.r (by decide) (by decide)).trans (a8 j hj)⟩
  obtain ⟨o, r1, r2, r3, r4⟩ := a5 n hn
  exact ⟨o, (f.r (by decide) (by decide)).trans r1, (f.r (by decide) (by decide)).trans r2, (f.r (by decide) (by decide)).trans r3, (f.r (by decide) (by decide)).trans r4⟩
theorem i3n {n c : Nat} : ((3 : Int32) * nI n) + nI c = nI (3 * n + c) := by rw [show (3 : Int32) = nI 3 from rfl, nI_mul, nI_add]
/-- letters that there aren't -/
theorem x_98G {A : aS} {F i n e : Nat} (hn : n < 300) (kx : sS → Option (Int32 × sS)) : ∀ (m c f : Nat) (σ : sS), R0 A σ → vI σ 90 34 = nI e → aG A ≤ c → c + m = 3 → m < f → ∃ τ, L_X12_lays_98 F (nI i) (nI n) kx f (nI c) σ = kx τ ∧ (∀ k, c ≤ k → k < 3 → vI τ 130 (3 * n + k) = nI e) ∧ (∀ j, j < 3 * n + c → vI τ 130 j = vI σ 130 j) ∧ fm [130] [] σ τ := by
  intro m
  induction m with
  | zero =>
    intro c f σ h h34 hc hm hf
    obtain ⟨f, rfl⟩ : ∃ k, f = k + 1 := ⟨f - 1, by omega⟩
    have hc3 : c = 3 := by omega
    subst hc3
    refine ⟨σ, ?_, fun k h1 h2 => absurd h2 (by omega), fun _ _ => rfl, fm.rf⟩
    rw [L_X12_lays_98, if_pos (by decide)]
  | succ m ih =>
    intro c f σ h h34 hc hm hf
    obtain ⟨f, rfl⟩ : ∃ k, f = k + 1 := ⟨f - 1, by omega⟩
    have f1 : fm [130] [] σ (uI σ 130 (3 * n + c) (nI e)) := fm_r1
    have h' := h.h f1.h0
    obtain ⟨τ, t1, t2, t3, t4⟩ := ih (c + 1) f _ h' h34 (by omega) (by omega) (by omega)
    refine ⟨τ, ?_, fun k h1 h2 => ?_, fun j hj => ?_, f1.tr t4⟩
    · rw [L_X12_lays_98, if_neg (show ¬ (3 : Int32) ≤ nI c from nI_ge (b := 3) (by omega) (by omega)), i3n, inb_n (by omega) (by omega), grd_s, nI_clamp (by omega), h34]
      simp only [bnd_s]
      rw [h'.2.2.1.2.2.2.1, if_pos (nI_le hc (by omega)), nI_1]
      exact t1
    · by_cases e1 : k = c
      · rw [e1, t3 _ (by omega), vI_e]
      · exact t2 k (by omega) h2
    · rw [t3 j (by omega), vI_q (fun q => by have := q.2; omega)]
/-- it is full -/
theorem x_98N {A : aS} {F i n : Nat} (hn : n < 300) (kx : sS → Option (Int32 × sS)) : ∀ (m c f : Nat) (σ : sS), R0 A σ → vI σ 90 35 = 1 → c + m = 3 → m < f → ∃ τ, L_X12_lays_98 F (nI i) (nI n) kx f (nI c) σ = kx τ ∧ fm [130] [] σ τ := by
  intro m
  induction m with
  | zero =>
    intro c f σ h h35 hm hf
    obtain ⟨f, rfl⟩ : ∃ k, f = k + 1 := ⟨f - 1, by omega⟩
    have hc3 : c = 3 := by omega
    subst hc3
    refine ⟨σ, ?_, fm.rf⟩
    rw [L_X12_lays_98, if_pos (by decide)]
  | succ m ih =>
    intro c f σ h h35 hm hf
    obtain ⟨f, rfl⟩ : ∃ k, f = k + 1 := ⟨f - 1, by omega⟩
    have f1 : fm [130] [] σ (uI σ 130 (3 * n + c) (vI σ 90 34)) := fm_r1
    obtain ⟨τ, t1, t2⟩ := ih (c + 1) f _ (h.h f1.h0) ((f1.f (by decide) (by decide)).trans h35) (by omega) (by omega)
    refine ⟨τ, ?_, f1.tr t2⟩
    rw [L_X12_lays_98, if_neg (show ¬ (3 : Int32) ≤ nI c from nI_ge (b := 3) (by omega) (by omega)), i3n, inb_n (by omega) (by omega), grd_s, nI_clamp (by omega)]
    simp only [bnd_s]
    rw [if_neg (show ¬ vI (uI σ 130 (3 * n + c) (vI σ 90 34)) 90 35 = 0 by rw [(f1.f (by decide) (by decide)).trans h35]; decide), nI_1]
    split
    · exact t1
    · exact t1
theorem x_98 {A : aS} {F i n : Nat} {x : nd} (hF : 4097 < F) (hi : i < aC A) (hG : 1 ≤ aG A) (hn : n < 300) (kx : sS → Option (Int32 × sS)) : ∀ (m c f : Nat) (σ : sS) (z : zS) (S : Nat → Nat), R0 A σ → rZ z σ → n < zN z → zX z n = x → zE z ≤ 300 * (n * aG A + c) → c + m = aG A → 3 - c < f → match lyC (aMa A i) x m c (n * aG A + c) (z, S) with
    | some v => ∃ τ, L_X12_lays_98 F (nI i) (nI n) kx f (nI c) σ = kx τ ∧ rZ v.1 τ ∧ (∀ k, c ≤ k → k < 3 → vI τ 130 (3 * n + k) = nI (pu v.2 (n * aG A + aG A) (zE v.1) (n * aG A + min k (aG A)))) ∧ (∀ j, j < 3 * n + c → vI τ 130 j = vI σ 130 j) ∧ fm hM cpK σ τ ∧ zE v.1 ≤ 300 * (n * aG A + aG A)
    | none => ∃ τ, L_X12_lays_98 F (nI i) (nI n) kx f (nI c) σ = kx τ ∧ rFu τ ∧ fm hM cpK σ τ := by
  intro m
  induction m with
  | zero =>
    intro c f σ z S h hz hnz hx hE hm hf
    have hG3 := h.c.2
    obtain ⟨τ, t1, t2, t3, t4⟩ := x_98G (A := A) (F := F) (i := i) hn kx (3 - c) c f σ h hz.2.2.1 (by omega) (by omega) hf
    have ec : c = aG A := by omega
    refine ⟨τ, t1, hz.f0 t4, fun k h1 h2 => ?_, t3, t4.h0, Nat.le_trans hE (by rw [ec]; exact Nat.le_refl _)⟩
    rw [t2 k h1 h2, show min k (aG A) = aG A from Nat.min_eq_right (by omega), pu_s]
  | succ m ih =>
    intro c f σ z S h hz hnz hx hE hm hf
    have hG3 := h.c.2
    have hmo := (h.m hi).1
    obtain ⟨f, rfl⟩ : ∃ k, f = k + 1 := ⟨f - 1, by omega⟩
    have hN := hz.1
    have f1 : fm [130] [] σ (uI σ 130 (3 * n + c) (nI (zE z))) := fm_r1
    have h' := h.h f1.h0
    have hz' := hz.f0 f1
    obtain ⟨o, r1, r2, r3, r4⟩ := hz'.2.2.2.2.1 n hnz
    rw [hx] at o r1 r2 r3 r4
    have hi900 : n * aG A + c < 900 := by
      have : n * aG A ≤ 299 * aG A := Nat.mul_le_mul_right _ (by omega)
      omega
    obtain ⟨ok, okn⟩ := okE_nd (e0 := zE z) (by omega) (suc (aMa A i) x c) [] z hN (suc_nd hmo o) (fun y hy => nomatch hy) rfl (suc_O hmo o)
    have step : ∃ τ, (if (vI (uI σ 130 (3 * n + c) (nI (zE z))) 125 n) = ((-2)) then (bd (L_X12_goesFromSet F (nI i) (nI (aft (aMa A i) x.1 c)) (uI σ 130 (3 * n + c) (nI (zE z)))) (fun σ26 => L_X12_lays_98 F (nI i) (nI n) kx f (nI (c + 1)) σ26)) else (bd (L_X12_goesFromPair F (nI i) (nI n) (nI c) (nI (aft (aMa A i) x.1 c)) (uI σ 130 (3 * n + c) (nI (zE z)))) (fun σ24 => L_X12_lays_98 F (nI i) (nI n) kx f (nI (c + 1)) σ24))) = L_X12_lays_98 F (nI i) (nI n) kx f (nI (c + 1)) τ ∧ gR (uI σ 130 (3 * n + c) (nI (zE z))) (goL (suc (aMa A i) x c) z) τ := by
      rw [r2]
      unfold suc at ok ⊢
      by_cases g0 : x.2.1 = 0
      · rw [if_pos g0] at ok ⊢
        rw [if_pos (show ndT x = -2 from if_pos g0)]
        obtain ⟨τ, t1, t2⟩ := x_fromSet (A := A) (F := F) hF hi (aft_16 hmo x.1 c) h' hz' ok
        exact ⟨τ, by rw [t1, bd_s], t2⟩
      · rw [if_neg g0] at ok ⊢
        have hnT : ¬ ndT x = -2 := by
          have := o.P.2
          unfold ndT
          rw [if_neg g0]
          exact (by decide +kernel : ∀ k, k < 8 → ¬ nI k = -2) _ this
        rw [if_neg hnT]
        have hp := x_fromPair (A := A) (F := F) (i := i) (n := n) (c := c) hF hi hnz (by omega) h' hz' (by rw [hx]; exact g0) (by rw [hx]; exact ok)
        rw [hx] at hp
        obtain ⟨τ, t1, t2⟩ := hp
        exact ⟨τ, by rw [t1, bd_s], t2⟩
    obtain ⟨τ, s1, s2, s3⟩ := step
    have e0 : L_X12_lays_98 F (nI i) (nI n) kx (f + 1) (nI c) σ = L_X12_lays_98 F (nI i) (nI n) kx f (nI (c + 1)) τ := by
      rw [← s1, L_X12_lays_98, if_neg (show ¬ (3 : Int32) ≤ nI c from nI_ge (b := 3) (by omega) (by omega)), i3n, inb_n (by omega) (by omega), grd_s, nI_clamp (by omega), hz.2.2.1]
      simp only [bnd_s]
      rw [h'.2.2.1.2.2.2.1, if_neg (nI_ge (by omega) (by omega)), if_pos hz'.2.2.2.1, inb_n (by omega) (by omega), grd_s, nI_clamp (by omega), r1, x_afterOf (by omega) h' hi o.1 (by omega), bd_s, grd_s, nI_1]
    rw [e0, lyC]
    show match (match goL (suc (aMa A i) x c) z with | none => none | some y => lyC (aMa A i) x m (c + 1) (n * aG A + c + 1) (y, pu S (n * aG A + c) (zE z))) with
      | some v => _
      | none => _
    have g35 : ∀ {j : Nat}, vI τ 130 j = vI (uI σ 130 (3 * n + c) (nI (zE z))) 130 j := fun {j} => s2.r (by decide) (by decide)
    cases hgo : goL (suc (aMa A i) x c) z with
    | none =>
      rw [hgo] at s3
      obtain ⟨ω, w1, w2⟩ := x_98N (A := A) (F := F) (i := i) hn kx (3 - (c + 1)) (c + 1) f τ (h'.h s2.gh) s3.1 (by omega) (by omega)
      exact ⟨ω, w1, s3.k w2 (by decide) (by decide) (by decide), (f1.h0.tr s2.gh).tr w2.h0⟩
    | some y =>
      rw [hgo] at s3
      obtain ⟨yN, yE⟩ := okn y hgo
      obtain ⟨x1, x2, x3⟩ := goL_X _ _ _ hgo
      have hi2 := ih (c + 1) f τ y (pu S (n * aG A + c) (zE z)) (h'.h s2.gh) s3 (by omega) ((x2 n hnz).trans hx) (by omega) (by omega) (by omega)
      rw [← Nat.add_assoc] at hi2
      show match lyC (aMa A i) x m (c + 1) (n * aG A + c + 1) (y, pu S (n * aG A + c) (zE z)) with
        | some v => _
        | none => _
      cases hly : lyC (aMa A i) x m (c + 1) (n * aG A + c + 1) (y, pu S (n * aG A + c) (zE z)) with
      | none =>
        rw [hly] at hi2
        obtain ⟨ω, w1, w2, w3⟩ := hi2
        exact ⟨ω, w1, w2, (f1.h0.tr s2.gh).tr w3⟩
      | some v =>
        rw [hly] at hi2
        obtain ⟨ω, w1, w2, w3, w4, w5, w6⟩ := hi2
        obtain ⟨-, -, v3, -⟩ := lyC_X _ _ _ _ _ hly
        refine ⟨ω, w1, w2, fun k h1 h2 => ?_, fun j hj => ?_, (f1.h0.tr s2.gh).tr w5, w6⟩
        · by_cases ek : k = c
          · rw [ek, w4 (3 * n + c) (by omega), g35, vI_e, show min c (aG A) = c from Nat.min_eq_left (by omega), pu_n (show n * aG A + c ≠ n * aG A + aG A by omega), v3 (n * aG A + c) (by omega)]
            exact congrArg nI (pu_s (f := S)).symm
          · exact w3 k (by omega) h2
        · rw [w4 j (by omega), g35, vI_q (fun q => by have := q.2; omega)]
/-- the starts of the edges, as the reference holds them -/
def rSt (G : Nat) (S : Nat → Nat) (n : Nat) (σ : sS) : Prop := ∀ m, m < n → ∀ k, k < 3 → vI σ 130 (3 * m + k) = nI (S (m * G + min k G))
theorem x_80 {A : aS} {F i : Nat} (hF : 4097 < F) (hi : i < aC A) (hG : 1 ≤ aG A) (kx : sS → Option (Int32 × sS)) : ∀ (f n g : Nat) (σ : sS) (z : zS) (S : Nat → Nat), n + f = 301 → f ≤ g → R0 A σ → rZ z σ → n ≤ zN z → zE z ≤ 300 * (n * aG A) → rSt (aG A) (pu S (n * aG A) (zE z)) n σ → match lyN (aMa A i) (aG A) f n (z, S) with
    | some v => ∃ τ, L_X12_lays_80 F (nI i) kx g (nI n) σ = kx τ ∧ rZ v.1 τ ∧ rSt (aG A) v.2 (zN v.1) τ ∧ v.2 (zN v.1 * aG A) = zE v.1 ∧ zE v.1 ≤ 270000 ∧ fm hM cpK σ τ
    | none => ∃ τ, L_X12_lays_80 F (nI i) kx g (nI n) σ = kx τ ∧ rFu τ ∧ fm hM cpK σ τ := by
  intro f
  induction f with
  | zero =>
    intro n g σ z S hn _ _ hz hnz
    have := hz.1
    omega
  | succ f ih =>
    intro n g σ z S hn hg h hz hnz hE hS
    have hG3 := h.c.2
    obtain ⟨g, rfl⟩ : ∃ k, g = k + 1 := ⟨g - 1, by omega⟩
    have hN := hz.1
    rw [lyN, L_X12_lays_80, hz.2.1]
    by_cases c : n < zN z
    · show match (if n < zN z then (match lyC (aMa A i) (zX z n) (aG A) 0 (n * aG A) (z, S) with | none => none | some v => lyN (aMa A i) (aG A) f (n + 1) v) else some (z, pu S (n * aG A) (zE z))) with
        | some v => _
        | none => _
      rw [if_pos c, if_neg (nI_ge c (by omega)), if_pos hz.2.2.2.1]
      have h98 := x_98 (A := A) (F := F) (i := i) (n := n) (x := zX z n) hF hi hG (by omega) (fun σ13 => L_X12_lays_80 F (nI i) kx g (nI n + 1) σ13) (aG A) 0 F σ z S h hz c rfl (by rw [Nat.add_zero]; exact hE) (by omega) (by omega)
      rw [Nat.add_zero] at h98
      cases hly : lyC (aMa A i) (zX z n) (aG A) 0 (n * aG A) (z, S) with
      | none =>
        rw [hly] at h98
        obtain ⟨τ, t1, t2, t3⟩ := h98
        refine ⟨τ, ?_, t2, t3⟩
        rw [show L_X12_lays_98 F (nI i) (nI n) _ F 0 σ = _ from t1]
        obtain ⟨g, rfl⟩ : ∃ k, g = k + 1 := ⟨g - 1, by omega⟩
        rw [L_X12_lays_80, if_neg (show ¬ vI τ 90 35 = 0 by rw [t2.1]; decide)]
        split
        · rfl
        · rfl
      | some v =>
        rw [hly] at h98
        obtain ⟨τ, t1, t2, t3, t4, t5, t6⟩ := h98
        obtain ⟨v1, v2, v3, v4⟩ := lyC_X _ _ _ _ _ hly
        have v1 : zN z ≤ zN v.1 := v1
        have v4 : v.2 (n * aG A) = zE z := v4 (by omega)
        have eG : (n + 1) * aG A = n * aG A + aG A := Nat.succ_mul n (aG A)
        have hSn : rSt (aG A) (pu v.2 ((n + 1) * aG A) (zE v.1)) (n + 1) τ := by
          intro m hm k hk
          by_cases em : m = n
          · subst em
            rw [eG]
            exact t3 k (by omega) hk
          · rw [t4 (3 * m + k) (by omega), hS m (by omega) k hk]
            have hmG : m * aG A + aG A ≤ n * aG A := by
              have : (m + 1) * aG A ≤ n * aG A := Nat.mul_le_mul_right _ (by omega)
              rw [Nat.succ_mul] at this
              exact this
            have hk2 : min k (aG A) ≤ aG A := Nat.min_le_right _ _
            rw [eG, pu_n (show m * aG A + min k (aG A) ≠ n * aG A + aG A by omega)]
            by_cases e1 : m * aG A + min k (aG A) = n * aG A
            · rw [e1, pu_s, v4]
            · rw [pu_n e1, v3 _ (by omega)]
        have hi2 := ih (n + 1) g τ v.1 v.2 (by omega) (by omega) (h.h t5) t2 (by omega) (by rw [eG]; exact t6) hSn
        rw [show L_X12_lays_98 F (nI i) (nI n) _ F 0 σ = _ from t1, nI_1]
        show match lyN (aMa A i) (aG A) f (n + 1) v with
          | some v => _
          | none => _
        cases hln : lyN (aMa A i) (aG A) f (n + 1) v with
        | none =>
          rw [show lyN (aMa A i) (aG A) f (n + 1) (v.1, v.2) = none from hln] at hi2
          obtain ⟨ω, w1, w2, w3⟩ := hi2
          exact ⟨ω, w1, w2, t5.tr w3⟩
        | some u =>
          rw [show lyN (aMa A i) (aG A) f (n + 1) (v.1, v.2) = some u from hln] at hi2
          obtain ⟨ω, w1, w2, w3, w4, w5, w6⟩ := hi2
          exact ⟨ω, w1, w2, w3, w4, w5, t5.tr w6⟩
    · show match (if n < zN z then (match lyC (aMa A i) (zX z n) (aG A) 0 (n * aG A) (z, S) with | none => none | some v => lyN (aMa A i) (aG A) f (n + 1) v) else some (z, pu S (n * aG A) (zE z))) with
        | some v => _
        | none => _
      have en : n = zN z := by omega
      rw [if_neg c, if_pos (nI_le (by omega) (by omega))]
      refine ⟨σ, rfl, hz, ?_, ?_, ?_, fm.rf⟩
      · rw [← en]; exact hS
      · rw [← en]; exact pu_s
      · have : n * aG A ≤ 300 * 3 := Nat.mul_le_mul (by omega) hG3
        show zE z ≤ 270000
        omega
/-- the reference holds the complement of M -/
def rCpl (M : aM) (G : Nat) (σ : sS) : Prop := match cpl M G with
  | some v => rZ v.1 σ ∧ rSt G v.2 (zN v.1) σ ∧ v.2 (zN v.1 * G) = zE v.1 ∧ vI σ 130 (3 * zN v.1) = nI (zE v.1)
  | none => vI σ 90 35 = 1
def rB (A : aS) (σ : sS) : Prop := ∀ i, i < aC A → vI σ 90 32 = nI i → rCpl (aMa A i) (aG A) σ
theorem x_43 {F : Nat} {x1 : Int32} (kx : sS → Option (Int32 × sS)) : ∀ (m k f : Nat) (σ : sS), k + m = 1024 → m < f → ∃ τ, L_X12_lays_43 F x1 kx f (nI k) σ = kx τ ∧ (∀ j, k ≤ j → j < 1024 → vI τ 129 j = -1) ∧ (∀ j, j < k → vI τ 129 j = vI σ 129 j) ∧ fm [129] [] σ τ := by
  intro m
  induction m with
  | zero =>
    intro k f σ hk hf
    obtain ⟨f, rfl⟩ : ∃ k, f = k + 1 := ⟨f - 1, by omega⟩
    have hk : k = 1024 := by omega
    subst hk
    refine ⟨σ, ?_, fun j h1 h2 => absurd h2 (by omega), fun _ _ => rfl, fm.rf⟩
    rw [L_X12_lays_43, if_pos (by decide)]
  | succ m ih =>
    intro k f σ hk hf
    obtain ⟨f, rfl⟩ : ∃ k, f = k + 1 := ⟨f - 1, by omega⟩
    obtain ⟨τ, t1, t2, t3, t4⟩ := ih (k + 1) f (uI σ 129 k (-1)) (by omega) (by omega)
    refine ⟨τ, ?_, fun j h1 h2 => ?_, fun j hj => ?_, fm_r1.tr t4⟩
    · rw [L_X12_lays_43, if_neg (show ¬ (1024 : Int32) ≤ nI k from nI_ge (b := 1024) (by omega) (by omega)), inb_n (by omega) (by omega), grd_s, nI_clamp (by omega), bnd_s, nI_1]
      exact t1
    · by_cases e : j = k
      · rw [e, t3 k (by omega), vI_e]
      · exact t2 j (by omega) h2
    · rw [t3 j (by omega), vI_q (fun q => by have := q.2; omega)]
def lM : List Nat := [123, 124, 125, 126, 127, 128, 129, 130, 131, 136]
def lK : List Nat := [32, 33, 34, 35]
theorem x_lays {A : aS} {σ : sS} {F i : Nat} (hF : 4097 < F) (h : R0 A σ) (hB : rB A σ) (hi : i < aC A) (hG : 1 ≤ aG A) : ∃ τ, L_X12_lays F (nI i) σ = some (if (cpl (aMa A i) (aG A)).isSome = true then 1 else 0, τ) ∧ R0 A τ ∧ rB A τ ∧ rCpl (aMa A i) (aG A) τ ∧ fm lM lK σ τ := by
  have h3 := h.c.1
  unfold L_X12_lays
  by_cases c : vI σ 90 32 = nI i
  · rw [if_pos c]
    have hc := hB i hi c
    refine ⟨σ, ?_, h, hB, hc, fm.rf⟩
    unfold rCpl at hc
    cases hq : cpl (aMa A i) (aG A) with
    | none =>
      rw [hq] at hc
      rw [if_neg (show ¬ vI σ 90 35 = 0 by rw [hc]; decide)]
      rfl
    | some v =>
      rw [hq] at hc
      rw [if_pos hc.1.2.2.2.1]
      rfl
  · rw [if_neg c]
    simp only [bnd_s]
    obtain ⟨υ, u1, u2, -, u4⟩ := x_43 (F := F) (x1 := nI i) (fun σ6 => grd (inb (nI i) 6) (bd2 (L_X12_nodeOf F (vI σ6 115 (nI i).toNatClampNeg) (-2) 0 0 σ6) (fun rq9 σ10 => L_X12_lays_80 F (nI i) (fun σ11 => L_X12_lays_196 F σ11) F 0 σ10))) 1024 0 F (uI (uI (uI (uI σ 90 32 (nI i)) 90 35 0) 90 33 0) 90 34 0) rfl (by omega)
    have f0 : fm lM lK σ (uI (uI (uI (uI σ 90 32 (nI i)) 90 35 0) 90 33 0) 90 34 0) := (((fm.uI (Or.inr ⟨rfl, by decide⟩)).tr (fm.uI (Or.inr ⟨rfl, by decide⟩))).tr (fm.uI (Or.inr ⟨rfl, by decide⟩))).tr (fm.uI (Or.inr ⟨rfl, by decide⟩))
    have f1 : fm lM lK σ υ := f0.tr (u4.mo (by decide) (fun _ h => nomatch h))
    have hR : R0 A υ := h.keep f1 (by decide) (by decide) (by decide)
    have hm := (hR.m hi).1
    have u32 : vI υ 90 32 = nI i := u4.f (by decide) (by decide)
    rw [show L_X12_lays_43 F (nI i) _ F 0 _ = _ from u1, inb_n (by omega) (by omega), grd_s, nI_clamp (by omega), (hR.m hi).2.2.1]
    have z0 : rZ ((0, fun _ => (mB (aMa A i), 0, 0, 0)), (0, fun _ => 0)) υ := by
      refine ⟨Nat.zero_le _, u4.f (by decide) (by decide), u4.f (by decide) (by decide), u4.f (by decide) (by decide), fun n hn => absurd hn (Nat.not_lt_zero n), fun k hk => ?_, fun n hn => absurd hn (Nat.not_lt_zero n), fun j hj => absurd hj (Nat.not_lt_zero j)⟩
      exact u2 k (by omega) hk
    have hx : ndO (mB (aMa A i), 0, 0, 0) := ⟨hm.b.1, (by decide : 0 < 16), Or.inl ⟨rfl, rfl, rfl⟩⟩
    have hno := x_nodeOf (F := F) (by omega) z0 hx
    have hno : if 0 = 300 then _ else ∃ τ, L_X12_nodeOf F (nI (mB (aMa A i))) (ndT (mB (aMa A i), 0, 0, 0)) (nI 0) (nI 0) υ = some (nI 0, τ) ∧ rZ ((1, pu (fun _ => (mB (aMa A i), 0, 0, 0)) 0 (mB (aMa A i), 0, 0, 0)), (0, fun _ => 0)) τ ∧ fm cpM cpK υ τ := hno
    rw [if_neg (by decide)] at hno
    obtain ⟨ρ, r1, r2, r3⟩ := hno
    have e1 : pu (fun _ => ((mB (aMa A i), 0, 0, 0) : nd)) 0 (mB (aMa A i), 0, 0, 0) = fun _ => (mB (aMa A i), 0, 0, 0) := funext fun j => by unfold pu; split <;> rfl
    rw [e1] at r2
    rw [show L_X12_nodeOf F (nI (mB (aMa A i))) (-2) 0 0 υ = some (nI 0, ρ) from r1, bd2_s]
    have f2 : fm lM lK σ ρ := f1.tr (r3.mo (by decide) (by decide))
    have hR2 : R0 A ρ := h.keep f2 (by decide) (by decide) (by decide)
    have r32 : vI ρ 90 32 = nI i := (r3.f (by decide) (by decide)).trans u32
    have h80 := x_80 (A := A) (F := F) (i := i) hF hi hG (fun σ11 => L_X12_lays_196 F σ11) 301 0 F ρ ((1, fun _ => (mB (aMa A i), 0, 0, 0)), (0, fun _ => 0)) (fun _ => 0) rfl (by omega) hR2 r2 (Nat.zero_le _) (Nat.zero_le _) (fun m hm => absurd hm (Nat.not_lt_zero m))
    have done : ∀ τ, fm hM cpK ρ τ → rCpl (aMa A i) (aG A) τ → R0 A τ ∧ rB A τ ∧ rCpl (aMa A i) (aG A) τ ∧ fm lM lK σ τ := by
      intro τ hf hc
      have f3 : fm lM lK σ τ := f2.tr (hf.mo (by decide) (by decide))
      have e32 : vI τ 90 32 = nI i := (hf.f (by decide) (by decide)).trans r32
      refine ⟨h.keep f3 (by decide) (by decide) (by decide), fun j hj e => ?_, hc, f3⟩
      have : i = j := nI_ij (by omega) (by omega) (e32.symm.trans e)
      rw [← this]
      exact hc
    unfold rCpl at done ⊢
    cases hq : cpl (aMa A i) (aG A) with
    | none =>
      unfold cpl at hq
      rw [hq] at h80
      obtain ⟨τ, t1, t2, t3⟩ := h80
      have f130 : fm [130] [] τ (uI τ 130 900 (vI τ 90 34)) := fm_r1
      obtain ⟨d1, d2, d3, d4⟩ := done (uI τ 130 900 (vI τ 90 34)) (t3.tr f130.h0) (by
        rw [show cpl (aMa A i) (aG A) = none from hq]
        exact (f130.f (by decide) (by decide)).trans t2.1)
      rw [show cpl (aMa A i) (aG A) = none from hq] at d3
      refine ⟨_, ?_, d1, d2, d3, d4⟩
      rw [show L_X12_lays_80 F (nI i) _ F 0 ρ = _ from t1]
      unfold L_X12_lays_196
      rw [t2.2, show (3 : Int32) * nI 300 = nI 900 by rw [show (3 : Int32) = nI 3 from rfl, nI_mul], inb_n (by omega) (by omega), grd_s, nI_clamp (by omega)]
      simp only [bnd_s]
      rw [if_neg (show ¬ vI (uI τ 130 900 (vI τ 90 34)) 90 35 = 0 by rw [(f130.f (by decide) (by decide)).trans t2.1]; decide)]
      rfl
    | some v =>
      have hq' := hq
      unfold cpl at hq'
      rw [hq'] at h80
      obtain ⟨τ, t1, t2, t3, t4, t5, t6⟩ := h80
      have hN := t2.1
      have f130 : fm [130] [] τ (uI τ 130 (3 * zN v.1) (nI (zE v.1))) := fm_r1
      obtain ⟨d1, d2, d3, d4⟩ := done (uI τ 130 (3 * zN v.1) (nI (zE v.1))) (t6.tr f130.h0) (by
        rw [hq]
        refine ⟨t2.f0 f130, fun m hm k hk => ?_, t4, vI_e⟩
        rw [vI_q (fun q => by have := q.2; omega)]
        exact t3 m hm k hk)
      rw [hq] at d3
      refine ⟨_, ?_, d1, d2, d3, d4⟩
      rw [show L_X12_lays_80 F (nI i) _ F 0 ρ = _ from t1]
      unfold L_X12_lays_196
      rw [t2.2.1, t2.2.2.1, show (3 : Int32) * nI (zN v.1) = nI (3 * zN v.1) by rw [show (3 : Int32) = nI 3 from rfl, nI_mul], inb_n (by omega) (by omega), grd_s, nI_clamp (by omega)]
      simp only [bnd_s]
      rw [if_pos (show vI (uI τ 130 (3 * zN v.1) (nI (zE v.1))) 90 35 = 0 from t2.2.2.2.1)]
      rfl
