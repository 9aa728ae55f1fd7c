/-! the reference goes wide -/
theorem el_len {V : Nat → Prop} {el : Nat → List (Nat × Nat)} (hO : bO V el) {p : Nat} (hp : V p) : (el p).length ≤ 6144 := by
  obtain ⟨h1, h2⟩ := hO.2 p hp
  have := nodup_len (n := 6144) (l := (el p).map (fun e => e.1)) (List.pairwise_map.mpr (h1.imp (fun {a b} q e => by omega))) (fun x hx => by
    obtain ⟨e, e1, e2⟩ := List.mem_map.mp hx
    rw [← e2]
    exact (h2 e e1).1)
  rw [List.length_map] at this
  exact this
theorem bA_fu {V : Nat → Prop} {el : Nat → List (Nat × Nat)} (hO : bO V el) : ∀ (n m k : Nat) (S : bS), 3000 < n + k → 3000 < m + k → S.1.Nodup → (∀ x, x ∈ S.1 → V x) → k ≤ S.1.length → bA el n k S = bA el m k S := by
  intro n
  induction n with
  | zero =>
    intro m k S hk _ hn hV hl
    have := nodup_len hn (fun x hx => hO.1 x (hV x hx))
    omega
  | succ n ih =>
    intro m k S hk hm hn hV hl
    cases m with
    | zero =>
      have := nodup_len hn (fun x hx => hO.1 x (hV x hx))
      omega
    | succ m =>
      rw [bA, bA]
      by_cases c : k < S.1.length
      · rw [if_pos c, if_pos c]
        have vV := hV _ (getD_mem c)
        obtain ⟨⟨l, e1⟩, e2, e3, e4⟩ := bE_ok (v := S.1.getD k 0) (el (S.1.getD k 0)) S
        refine ih m (k + 1) _ (by omega) (by omega) (e2 hn) (fun x hx => ?_) (by rw [e1, List.length_append]; omega)
        rcases e4 x hx with q | ⟨e, q1, q2⟩
        · exact hV x q
        · rw [← q2]; exact ((hO.2 _ vV).2 e q1).2
      · rw [if_neg c, if_neg c]
/-- what the reference's graph keeps to while points are met -/
def bJ (V : Nat → Prop) (el : Nat → List (Nat × Nat)) (J : bS → sS → Prop) : Prop := bO V el ∧ (∀ S τ υ, J S τ → fm wM wK τ υ → J S υ) ∧ (∀ S τ p, J S τ → p ∈ S.1 → rEd el p τ) ∧ ∀ S τ p e, J S τ → rBf S τ → p ∈ S.1 → e ∈ el p → ∃ τ1, L_X12_goesBy (nI p) (nI e.1) τ = some (nI e.2, τ1) ∧ rBf S τ1 ∧ ∀ υ, fm wM wK τ1 υ → J (bm e.2 (some (p, e.1 / 2048)) S) υ
theorem nI_n1' {k : Nat} (h : k < 2 ^ 31) : ¬ nI k = -1 := fun e => by
  have := nI_pos' h
  rw [e] at this
  exact absurd this (by decide)
theorem x_mE {V : Nat → Prop} {el : Nat → List (Nat × Nat)} {J : bS → sS → Prop} (hB : bJ V el J) {F p : Nat} (hF : 20 < F) : ∀ (rest pre : List (Nat × Nat)) (n : Nat) (S : bS) (τ : sS), el p = pre ++ rest → rest.length < n → J S τ → rBf S τ → (∀ x, x ∈ S.1 → V x) → p ∈ S.1 → ∃ υ, (∀ kx x1, L_X12_meetsAll_24 F x1 (nI p) kx n (hEd rest) τ = kx υ) ∧ J (bE p rest S) υ ∧ rBf (bE p rest S) υ ∧ ∀ x, x ∈ (bE p rest S).1 → V x := by
  intro rest
  induction rest with
  | nil =>
    intro pre n S τ _ hn hJ hR hV _
    cases n with
    | zero => exact absurd hn (by decide)
    | succ n => exact ⟨τ, fun kx x1 => rfl, hJ, hR, hV⟩
  | cons e r ih =>
    intro pre n S τ hel hn hJ hR hV hp
    cases n with
    | zero => exact absurd hn (by omega)
    | succ n =>
      obtain ⟨hO, hst, hed, hgo⟩ := id hB
      have pV := hV p hp
      have p3 := hO.1 p pV
      have em : e ∈ el p := by rw [hel]; simp
      obtain ⟨so, eb⟩ := hO.2 p pV
      obtain ⟨e6, eV⟩ := eb e em
      have e3 := hO.1 _ eV
      obtain ⟨τ1, g1, g2, g3⟩ := hgo S τ p e hJ hR hp em
      obtain ⟨τ2, m1, m2, m3⟩ := x_meets g2 e3 (some (p, e.1 / 2048))
      have J2 := g3 τ2 m3
      have hp2 : p ∈ (bm e.2 (some (p, e.1 / 2048)) S).1 := by
        obtain ⟨-, l, q⟩ := bm_in (x := e.2) (w := some (p, e.1 / 2048)) (S := S)
        rw [q]; exact List.mem_append.mpr (Or.inl hp)
      have ed := hed _ τ2 p J2 hp2 F (e.1 + 1) hF (by omega)
      rw [hel] at so
      have so1 := List.pairwise_append.mp so
      have so2 := List.pairwise_cons.mp so1.2.1
      have ed2 : fEd (e.1 + 1) (el p) = hEd r := by
        rw [hel, show pre ++ e :: r = (pre ++ [e]) ++ r by simp]
        rw [fEd_a (fun x hx => by
          rcases List.mem_append.mp hx with q | q
          · have := so1.2.2 x q e List.mem_cons_self; omega
          · rw [List.mem_singleton.mp q]; omega)]
        exact fEd_b (fun x hx => so2.1 x hx)
      rw [ed2] at ed
      obtain ⟨υ, r1, r2, r3, r4⟩ := ih (pre ++ [e]) n _ τ2 (by rw [hel]; simp) (by rw [List.length_cons] at hn; omega) J2 m2 (fun x hx => by
        rcases bm_m hx with q | q
        · exact hV x q
        · rw [q]; exact eV) hp2
      refine ⟨υ, fun kx x1 => ?_, r2, r3, r4⟩
      rw [L_X12_meetsAll_24]
      rw [show hEd (e :: r) = nI e.1 from rfl, if_neg (nI_n1' (by omega)), g1, bd2_s, if_neg (nI_n1' (by omega)), show nI e.1 / 2048 = nI (e.1 / 2048) from nI_dv (by omega) (by decide)]
      have m1' : L_X12_meets (nI e.2) (nI p) (nI (e.1 / 2048)) τ1 = some τ2 := m1
      rw [m1', bd_s, nI_1, ed, bd_s]
      exact r1 kx x1
theorem x_mA {V : Nat → Prop} {el : Nat → List (Nat × Nat)} {J : bS → sS → Prop} (hB : bJ V el J) {F : Nat} (hF : 6200 < F) : ∀ (n k : Nat) (S : bS) (τ : sS), 3000 < n + k → k ≤ S.1.length → J S τ → rBf S τ → (∀ x, x ∈ S.1 → V x) → ∃ υ, (∀ kx, L_X12_meetsAll_2 F kx n (nI k) τ = kx υ) ∧ J (bA el n k S) υ ∧ rBf (bA el n k S) υ ∧ ∀ x, x ∈ (bA el n k S).1 → V x := by
  intro n
  induction n with
  | zero =>
    intro k S τ hk hl hJ hR hV
    have := nodup_len hR.2.2.2.2.1 hR.2.2.2.2.2
    omega
  | succ n ih =>
    intro k S τ hk hl hJ hR hV
    have hlen := nodup_len hR.2.2.2.2.1 hR.2.2.2.2.2
    rw [bA]
    by_cases c : k < S.1.length
    · simp only [if_pos c]
      have pm := getD_mem c
      have p3 := hR.2.2.2.2.2 _ pm
      have e149 := hR.2.1 k c
      generalize S.1.getD k 0 = p at pm p3 e149
      have pV := hV p pm
      have ed := hB.2.2.1 S τ p hJ pm F 0 (by omega) (by omega)
      rw [fEd_b (fun _ _ => Nat.zero_le _)] at ed
      have ed : L_X12_edgeFrom F (nI p) 0 τ = some (hEd (el p)) := ed
      have ll := el_len hB.1 pV
      obtain ⟨υ1, r1, r2, r3, r4⟩ := x_mE hB (F := F) (p := p) (by omega) (el p) [] F S τ rfl (by omega) hJ hR hV pm
      obtain ⟨⟨m, b1⟩, -⟩ := bE_ok (v := p) (el p) S
      obtain ⟨υ, s1, s2, s3, s4⟩ := ih (k + 1) _ υ1 (by omega) (by rw [b1, List.length_append]; omega) r2 r3 r4
      refine ⟨υ, fun kx => ?_, s2, s3, s4⟩
      rw [L_X12_meetsAll_2, hR.1, if_neg (nI_ge c (by omega)), inb_n (by omega) (by omega), grd_s, bnd_s, nI_clamp (by omega), e149, ed, bd_s, r1]
      rw [nI_1]
      exact s1 kx
    · simp only [if_neg c]
      refine ⟨τ, fun kx => ?_, hJ, hR, hV⟩
      rw [L_X12_meetsAll_2, hR.1, if_pos (nI_le (by omega) (by omega))]
theorem x_meetsAll {V : Nat → Prop} {el : Nat → List (Nat × Nat)} {J : bS → sS → Prop} (hB : bJ V el J) {F : Nat} (hF : 6200 < F) {S : bS} {τ : sS} (hJ : J S τ) (hR : rBf S τ) (hV : ∀ x, x ∈ S.1 → V x) : ∃ υ, L_X12_meetsAll F τ = some υ ∧ J (bA el 3001 0 S) υ ∧ rBf (bA el 3001 0 S) υ ∧ ∀ x, x ∈ (bA el 3001 0 S).1 → V x := by
  obtain ⟨υ, r1, r2, r3, r4⟩ := x_mA hB hF F 0 S τ (by omega) (Nat.zero_le _) hJ hR hV
  rw [bA_fu hB.1 F 3001 0 S (by omega) (by omega) hR.2.2.2.2.1 hV (Nat.zero_le _)] at r2 r3 r4
  exact ⟨υ, r1 _, r2, r3, r4⟩
theorem x_mN {F : Nat} : ∀ (n k : Nat) (τ : sS), 3000 < n + k → k ≤ 3000 → ∃ υ, (∀ kx, L_X12_meetsNone_7 F kx n (nI k) τ = kx υ) ∧ (∀ p, k ≤ p → p < 3000 → vI υ 152 p = 0) ∧ (∀ p, p < k → vI υ 152 p = vI τ 152 p) ∧ fm [152] [] τ υ := by
  intro n
  induction n with
  | zero => intro k τ h1 h2; omega
  | succ n ih =>
    intro k τ h1 h2
    by_cases c : k < 3000
    · obtain ⟨υ, r1, r2, r3, r4⟩ := ih (k + 1) (uI τ 152 k 0) (by omega) (by omega)
      refine ⟨υ, fun kx => ?_, fun p q1 q2 => ?_, fun p q => ?_, (fm.uI (by first | exact Or.inl (by decide) | exact Or.inr ⟨rfl, by decide⟩)).tr r4⟩
      · rw [L_X12_meetsNone_7, if_neg (show ¬ (3000 : Int32) ≤ nI k from nI_ge (a := k) (b := 3000) c (by decide)), inb_n c (by omega), grd_s, bnd_s, nI_clamp (by omega), nI_1]
        exact r1 kx
      · by_cases e : p = k
        · rw [r3 p (by omega), e, vI_e]
        · exact r2 p (by omega) q2
      · rw [r3 p (by omega), vI_q (fun z => by have := z.2; omega)]
    · have e : k = 3000 := by omega
      refine ⟨τ, fun kx => ?_, fun p q1 q2 => by omega, fun _ _ => rfl, fm.rf⟩
      rw [L_X12_meetsNone_7, e]
      rfl
theorem x_meetsNone {F : Nat} (hF : 3001 < F) (τ : sS) : ∃ υ, L_X12_meetsNone F τ = some υ ∧ rBf ([], fun _ => none) υ ∧ fm wM wK τ υ := by
  obtain ⟨υ, r1, r2, r3, r4⟩ := x_mN (F := F) F 0 (uI τ 90 53 0) (by omega) (by omega)
  refine ⟨υ, r1 _, ⟨?_, fun i hi => absurd hi (Nat.not_lt_zero _), fun p hp => ?_, fun x hx => (nomatch hx), List.nodup_nil, fun x hx => (nomatch hx)⟩, (fm.uI (by first | exact Or.inl (by decide) | exact Or.inr ⟨rfl, by decide⟩)).tr (r4.mo (by decide) (by decide))⟩
  · rw [r4.f (by decide) (by decide)]
    rfl
  · rw [r2 p (Nat.zero_le _) hp, if_neg (fun q => nomatch q)]
