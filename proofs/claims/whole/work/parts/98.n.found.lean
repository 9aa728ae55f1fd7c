/-! the reference goes deep from all that was met -/
theorem sm_bd {f : Nat → Nat} {B : Nat} : ∀ (l : List Nat), (∀ x, x ∈ l → f x ≤ B) → sm f l ≤ l.length * B
  | [], _ => by rw [sm]; exact Nat.zero_le _
  | x :: l, h => by
    rw [sm, List.length_cons, Nat.succ_mul]
    have h1 := h x List.mem_cons_self
    have h2 := sm_bd l (fun y hy => h y (List.mem_cons_of_mem _ hy))
    omega
theorem rI.nn {el : Nat → List (Nat × Nat)} {Q : List Nat} {σ0 : sS} {ne : Nat} {cu : Nat → Nat} {τ : sS} (h : rI el Q σ0 [] ne cu τ) : fm deM deK σ0 τ ∧ ∃ od lo lp, rR el Q od lo cu lp [] [] ne τ ∧ TI (esc el) (fun _ => false) od lo cu (fun _ => false) lp [] [] ne ∧ ∀ k, 1 ≤ k → k ≤ ne → ∃ w, w < 3000 ∧ od w = k := by
  obtain ⟨hf, od, lo, lp, hs, hR, hT, hsu⟩ := h
  have hs0 : hs = [] := by
    cases hs with
    | nil => rfl
    | cons w l =>
      obtain ⟨p, p1, -⟩ := hT.2.2.2.2.1 w List.mem_cons_self
      exact nomatch p1
  rw [hs0] at hR hT
  exact ⟨hf, od, lo, lp, hR, hT, hsu⟩
def rest (τ : sS) : sS := uI (uI τ 90 62 0) 90 63 0
theorem rI.rest {el : Nat → List (Nat × Nat)} {Q : List Nat} {σ0 : sS} {ne : Nat} {cu : Nat → Nat} {τ : sS} (h : rI el Q σ0 [] ne cu τ) : rI el Q σ0 [] ne cu (rest τ) := by
  obtain ⟨hf, od, lo, lp, ⟨a1, a2, a3, a4, a5, a7, a9, a10, a11, a12, a13⟩, hT, hsu⟩ := h.nn
  exact ⟨hf.tr ((fm.uI (by decide)).tr (fm.uI (by decide))), od, lo, lp, [], ⟨a1, a2, a3, a4, ⟨trivial, rfl⟩, ⟨trivial, rfl⟩, a9, a10, a11, a12, trivial⟩, hT, hsu⟩
theorem x_turnsFrom {V : Nat → Prop} {el : Nat → List (Nat × Nat)} {Q : List Nat} {σ0 : sS} {F : Nat} (hO : bO V el) (hQ : ∀ x, x ∈ Q → V x) (hQn : Q.Nodup) (hcl : ∀ x, x ∈ Q → ∀ e, e ∈ el x → e.2 ∈ Q) (hS : ∀ τ, fm deM deK σ0 τ → rSte el Q τ) (hF : 40000000 < F) {ne t : Nat} {cu : Nat → Nat} {τ : sS} (h : rI el Q σ0 [] ne cu (rest τ)) (ht : t ∈ Q) (h0 : vI τ 154 t = -1) : ∃ υ, L_X12_turnsFrom F (nI t) τ = some υ ∧ (∃ ne' cu', rI el Q σ0 [] ne' cu' (rest υ)) ∧ rmo Q τ υ ∧ vI υ 154 t ≠ -1 ∧ fm deM deK σ0 υ := by
  obtain ⟨hf, od, lo, lp, hR, hT, hsu⟩ := h.nn
  have t3 := hR.2.2.2.2.2.2.2.2.1 t ht
  have c : od t = 0 := (hR.ne0 hT.1.2.2.1 ht).mp h0
  have t0 := hT.1.2.2.2.2.2.2.2 t c
  obtain ⟨υ1, x1, x2, x3⟩ := x_enters hR List.nodup_nil (Nat.le_refl _) ht c hT.1.1 (ne_lt (n := 3000) t3 c hsu) t0.1
  have T' := hT.root c
  have hq := nodup_len hQn (fun x hx => hO.1 x (hQ x hx))
  have hmu : rmu el Q cu [t] < F := by
    unfold rmu
    have h1 := sm_bd (f := fun u => (el u).length - cu u) (B := 6144) Q (fun x hx => by have := el_len hO (hQ x hx); omega)
    have h2 : Q.length * 6144 ≤ 3000 * 6144 := Nat.mul_le_mul_right _ hq
    simp only [List.length_cons, List.length_nil]
    omega
  obtain ⟨υ, r1, ⟨ne', cu', r2, -⟩, r3⟩ := x_tF (F := F) hO hQ hcl hS (by omega) F [t] (ne + 1) cu υ1 ⟨hf.tr x3, _, _, _, _, x2, T', od_sur t3 c hsu⟩ hmu
  have tv : vI υ1 154 t ≠ -1 := fun q => by
    have := (x2.ne0 T'.1.2.2.1 ht).mp q
    rw [pu_s] at this
    omega
  refine ⟨υ, ?_, ⟨ne', cu', r2.rest⟩, fun w hw q => r3 w hw (fun z => ?_), r3 t ht tv, r2.1⟩
  · unfold L_X12_turnsFrom
    rw [bnd_s, bnd_s]
    have x1 : L_X12_enters (nI t) (uI (uI τ 90 62 0) 90 63 0) = some υ1 := x1
    rw [x1, bd_s]
    exact r1 _
  · have z' := (x2.ne0 T'.1.2.2.1 hw).mp z
    have e : w ≠ t := fun e => by rw [e, pu_s] at z'; omega
    rw [pu_n e] at z'
    exact q ((hR.ne0 hT.1.2.2.1 hw).mpr z')
theorem rBf.c {S : bS} {τ υ : sS} (h : rBf S τ) (f : fm deM deK τ υ) : rBf S υ := by
  obtain ⟨a1, a2, a3, a4, a5, a6⟩ := h
  exact ⟨(f.f (by decide) (by decide)).trans a1, fun i hi => (f.r (by decide) (by decide)).trans (a2 i hi), fun p hp => (f.r (by decide) (by decide)).trans (a3 p hp), fun x hx => ⟨(f.r (by decide) (by decide)).trans (a4 x hx).1, (f.r (by decide) (by decide)).trans (a4 x hx).2⟩, a5, a6⟩
theorem x_t7 {S : bS} {F : Nat} : ∀ (n k : Nat) (τ : sS), S.1.length < n + k → k ≤ S.1.length → rBf S τ → ∃ υ, (∀ kx, L_X12_turnsAll_7 F kx n (nI k) τ = kx υ) ∧ (∀ i, k ≤ i → i < S.1.length → vI υ 154 (S.1.getD i 0) = -1 ∧ vI υ 159 (S.1.getD i 0) = 0) ∧ (∀ w, (∀ i, k ≤ i → i < S.1.length → S.1.getD i 0 ≠ w) → vI υ 154 w = vI τ 154 w ∧ vI υ 159 w = vI τ 159 w) ∧ fm [154, 159] [] τ υ := by
  intro n
  induction n with
  | zero => intro k τ h1 h2; omega
  | succ n ih =>
    intro k τ h1 h2 h
    have hlen := nodup_len h.2.2.2.2.1 h.2.2.2.2.2
    by_cases c : k < S.1.length
    · have pm := getD_mem c
      have p3 := h.2.2.2.2.2 _ pm
      have e149 := h.2.1 k c
      have f1 : fm [154, 159] [] τ (uI (uI τ 154 (S.1.getD k 0) (-1)) 159 (S.1.getD k 0) 0) := (fm.uI (by first | exact Or.inl (by decide) | exact Or.inr ⟨rfl, by decide⟩)).tr (fm.uI (by first | exact Or.inl (by decide) | exact Or.inr ⟨rfl, by decide⟩))
      obtain ⟨υ, r1, r2, r3, r4⟩ := ih (k + 1) (uI (uI τ 154 (S.1.getD k 0) (-1)) 159 (S.1.getD k 0) 0) (by omega) (by omega) (h.c (f1.mo (by decide) (by decide)))
      refine ⟨υ, fun kx => ?_, fun i i1 i2 => ?_, fun w hw => ?_, f1.tr r4⟩
      · rw [L_X12_turnsAll_7, h.1, if_neg (nI_ge c (by omega)), inb_n (by omega) (by omega), nI_clamp (by omega), e149, inb_n p3 (by omega), nI_clamp (show S.1.getD k 0 < 2 ^ 31 by omega)]
        simp only [grd_s, bnd_s]
        rw [show vI (uI τ 154 (S.1.getD k 0) (-1)) 149 k = nI (S.1.getD k 0) from e149, inb_n p3 (by omega), nI_clamp (show S.1.getD k 0 < 2 ^ 31 by omega), grd_s, nI_1]
        exact r1 kx
      · by_cases q : ∃ j, k + 1 ≤ j ∧ j < S.1.length ∧ S.1.getD j 0 = S.1.getD i 0
        · obtain ⟨j, j1, j2, j3⟩ := q
          rw [← j3]
          exact r2 j j1 j2
        · have e : i = k := Classical.byContradiction (fun z => q ⟨i, by omega, i2, rfl⟩)
          rw [e] at q ⊢
          obtain ⟨z1, z2⟩ := r3 (S.1.getD k 0) (fun j j1 j2 j3 => q ⟨j, j1, j2, j3⟩)
          rw [z1, z2]
          refine ⟨?_, vI_e⟩
          show vI (uI τ 154 (S.1.getD k 0) (-1)) 154 (S.1.getD k 0) = -1
          exact vI_e
      · obtain ⟨z1, z2⟩ := r3 w (fun j j1 j2 => hw j (by omega) j2)
        have q := hw k (Nat.le_refl _) c
        rw [z1, z2]
        refine ⟨?_, vI_q (fun z => q z.2.symm)⟩
        show vI (uI τ 154 (S.1.getD k 0) (-1)) 154 w = _
        exact vI_q (fun z => q z.2.symm)
    · refine ⟨τ, fun kx => ?_, fun i i1 i2 => by omega, fun w _ => ⟨rfl, rfl⟩, fm.rf⟩
      rw [L_X12_turnsAll_7, h.1, if_pos (nI_le (by omega) (by omega))]
theorem x_t47 {V : Nat → Prop} {el : Nat → List (Nat × Nat)} {S : bS} {σ0 : sS} {F : Nat} (hO : bO V el) (hQ : ∀ x, x ∈ S.1 → V x) (hcl : ∀ x, x ∈ S.1 → ∀ e, e ∈ el x → e.2 ∈ S.1) (hS : ∀ τ, fm deM deK σ0 τ → rSte el S.1 τ) (hF : 40000000 < F) (hB : rBf S σ0) : ∀ (n k ne : Nat) (cu : Nat → Nat) (τ : sS), S.1.length < n + k → k ≤ S.1.length → fm deM deK σ0 τ → rI el S.1 σ0 [] ne cu (rest τ) → ∃ υ, (∀ kx, L_X12_turnsAll_47 F kx n (nI k) τ = kx υ) ∧ (∀ i, k ≤ i → i < S.1.length → vI υ 154 (S.1.getD i 0) ≠ -1) ∧ rmo S.1 τ υ ∧ (∃ ne' cu', rI el S.1 σ0 [] ne' cu' (rest υ)) ∧ fm deM deK σ0 υ := by
  intro n
  induction n with
  | zero => intro k ne cu τ h1 h2; omega
  | succ n ih =>
    intro k ne cu τ h1 h2 hf h
    have hB' := hB.c hf
    have hlen := nodup_len hB.2.2.2.2.1 hB.2.2.2.2.2
    by_cases c : k < S.1.length
    · have pm := getD_mem c
      have p3 := hB.2.2.2.2.2 _ pm
      have e149 := hB'.2.1 k c
      have head : ∀ kx, L_X12_turnsAll_47 F kx (n + 1) (nI k) τ = if vI τ 154 (S.1.getD k 0) = -1 then (bd (L_X12_turnsFrom F (nI (S.1.getD k 0)) τ) (fun σ9 => L_X12_turnsAll_47 F kx n (nI (k + 1)) σ9)) else (L_X12_turnsAll_47 F kx n (nI (k + 1)) τ) := by
        intro kx
        rw [L_X12_turnsAll_47, hB'.1, if_neg (nI_ge c (by omega)), inb_n (by omega) (by omega), nI_clamp (by omega), e149, inb_n p3 (by omega), nI_clamp (show S.1.getD k 0 < 2 ^ 31 by omega)]
        simp only [grd_s]
        rw [nI_1]
      by_cases d : vI τ 154 (S.1.getD k 0) = -1
      · obtain ⟨υ1, x1, ⟨ne1, cu1, x2⟩, x3, x4, x5⟩ := x_turnsFrom hO hQ hB.2.2.2.2.1 hcl hS hF h pm d
        obtain ⟨υ, r1, r2, r3, r4, r5⟩ := ih (k + 1) ne1 cu1 υ1 (by omega) (by omega) x5 x2
        refine ⟨υ, fun kx => ?_, fun i i1 i2 => ?_, fun w hw q => r3 w hw (x3 w hw q), r4, r5⟩
        · rw [head kx, if_pos d, x1, bd_s]
          exact r1 kx
        · by_cases e : i = k
          · rw [e]; exact r3 _ pm x4
          · exact r2 i (by omega) i2
      · obtain ⟨υ, r1, r2, r3, r4, r5⟩ := ih (k + 1) ne cu τ (by omega) (by omega) hf h
        refine ⟨υ, fun kx => ?_, fun i i1 i2 => ?_, r3, r4, r5⟩
        · rw [head kx, if_neg d]
          exact r1 kx
        · by_cases e : i = k
          · rw [e]; exact r3 _ pm d
          · exact r2 i (by omega) i2
    · refine ⟨τ, fun kx => ?_, fun i i1 i2 => by omega, fun _ _ q => q, ⟨ne, cu, h⟩, hf⟩
      rw [L_X12_turnsAll_47, hB'.1, if_pos (nI_le (by omega) (by omega))]
/-- what turns is told -/
theorem x_turnsAll {V : Nat → Prop} {el : Nat → List (Nat × Nat)} {S : bS} {σ0 : sS} {F : Nat} (hO : bO V el) (hQ : ∀ x, x ∈ S.1 → V x) (hcl : ∀ x, x ∈ S.1 → ∀ e, e ∈ el x → e.2 ∈ S.1) (hS : ∀ τ, fm deM deK σ0 τ → rSte el S.1 τ) (hF : 40000000 < F) (hB : rBf S σ0) : ∃ υ, L_X12_turnsAll F σ0 = some υ ∧ (∀ v, v ∈ S.1 → (vI υ 160 v = 0 ↔ ¬ lpP (esc el) v)) ∧ fm deM deK σ0 υ := by
  have f0 : fm deM deK σ0 (uI σ0 90 61 0) := fm.uI (by decide)
  have hlen := nodup_len hB.2.2.2.2.1 hB.2.2.2.2.2
  obtain ⟨τ, r1, r2, r3, r4⟩ := x_t7 (S := S) (F := F) F 0 (uI σ0 90 61 0) (by omega) (Nat.zero_le _) (hB.c f0)
  have f1 : fm deM deK σ0 τ := f0.tr (r4.mo (by decide) (by decide))
  have h : rI el S.1 σ0 [] 0 (fun _ => 0) (rest τ) := by
    refine ⟨f1.tr ((fm.uI (by decide)).tr (fm.uI (by decide))), fun _ => 0, fun _ => 0, fun _ => false, [], ⟨fun v hv => ?_, fun v hv => (nomatch hv), fun v hv => ?_, fun v hv q => absurd rfl q, ⟨trivial, rfl⟩, ⟨trivial, rfl⟩, ?_, fun v hv => (nomatch hv), hB.2.2.2.2.2, by decide, trivial⟩, ⟨⟨fun v hv => (nomatch hv), fun v w h => absurd rfl h, fun _ => Nat.le_refl _, List.Pairwise.nil, List.Pairwise.nil, fun p hp => (nomatch hp), fun t u q => (nomatch q.m.1), fun v _ => ⟨rfl, rfl⟩⟩, fun v hv => (nomatch hv), fun v hv => (nomatch hv), fun v hv => (nomatch hv), fun v hv => (nomatch hv), fun v hv => absurd rfl hv, fun v hv => (nomatch hv), fun v hv => (nomatch hv)⟩, fun k q1 q2 => by omega⟩
    · obtain ⟨i, i1, i2⟩ := mem_getD hv
      rw [← i2]
      exact (r2 i (Nat.zero_le _) i1).1
    · rw [if_neg (fun q => nomatch q)]
      obtain ⟨i, i1, i2⟩ := mem_getD hv
      rw [← i2]
      exact (r2 i (Nat.zero_le _) i1).2
    · show vI τ 90 61 = nI 0
      rw [r4.f (by decide) (by decide)]
      rfl
  obtain ⟨υ, s1, s2, s3, ⟨ne', cu', s4⟩, s5⟩ := x_t47 hO hQ hcl hS hF hB F 0 0 _ τ (by omega) (Nat.zero_le _) f1 h
  refine ⟨υ, ?_, fun v hv => ?_, s5⟩
  · unfold L_X12_turnsAll
    rw [bnd_s]
    exact (r1 _).trans (s1 _)
  · obtain ⟨-, od, lo, lp, hR, hT, -⟩ := s4.nn
    obtain ⟨i, i1, i2⟩ := mem_getD hv
    have v0 : od v ≠ 0 := fun q => by
      have q1 : vI υ 154 v = -1 := (hR.ne0 hT.1.2.2.1 hv).mpr q
      have q2 := s2 i (Nat.zero_le _) i1
      rw [i2] at q2
      exact q2 q1
    have e160 : vI υ 160 v = if lp v = true then 1 else 0 := hR.2.2.2.1 v hv v0 (fun q => nomatch q)
    have F2 := (hT.2.2.2.2.2.1 v v0 (fun q => nomatch q)).2.1
    rw [e160, ← F2]
    cases lp v
    · exact ⟨fun _ q => (nomatch q), fun _ => rfl⟩
    · exact ⟨fun q => absurd q (by decide), fun q => absurd rfl q⟩
theorem x_f6 {S : bS} {F : Nat} {mk : Nat → Bool} {τ : sS} {p : Nat → Prop} (hB : rBf S τ) (hM : ∀ v, v ∈ S.1 → L_X12_isMarked (nI v) τ = some (if mk v = true then 1 else 0)) (hp : ∀ v, v ∈ S.1 → (vI τ 160 v = 0 ↔ ¬ p v)) (kx : Option (Int32 × sS)) : ∀ (n k : Nat), S.1.length < n + k → k ≤ S.1.length → (L_X12_found_6 F τ kx n (nI k) = kx ∧ ∀ i, k ≤ i → i < S.1.length → ¬ (mk (S.1.getD i 0) = true ∧ p (S.1.getD i 0))) ∨ ∃ i, k ≤ i ∧ i < S.1.length ∧ (mk (S.1.getD i 0) = true ∧ p (S.1.getD i 0)) ∧ (∀ j, k ≤ j → j < i → ¬ (mk (S.1.getD j 0) = true ∧ p (S.1.getD j 0))) ∧ L_X12_found_6 F τ kx n (nI k) = some (nI (S.1.getD i 0), τ) := by
  intro n
  induction n with
  | zero => intro k h1 h2; omega
  | succ n ih =>
    intro k h1 h2
    have hlen := nodup_len hB.2.2.2.2.1 hB.2.2.2.2.2
    by_cases c : k < S.1.length
    · have pm := getD_mem c
      have p3 := hB.2.2.2.2.2 _ pm
      have e149 := hB.2.1 k c
      have m1 := hM _ pm
      have q1 := hp _ pm
      have head : L_X12_found_6 F τ kx (n + 1) (nI k) = if (if mk (S.1.getD k 0) = true then (1 : Int32) else 0) = 0 then L_X12_found_6 F τ kx n (nI (k + 1)) else if vI τ 160 (S.1.getD k 0) = 0 then L_X12_found_6 F τ kx n (nI (k + 1)) else some (nI (S.1.getD k 0), τ) := by
        rw [L_X12_found_6, hB.1, if_neg (nI_ge c (by omega)), inb_n (by omega) (by omega), nI_clamp (by omega), e149, m1, bd_s, inb_n p3 (by omega), nI_clamp (show S.1.getD k 0 < 2 ^ 31 by omega)]
        simp only [grd_s]
        rw [nI_1]
      have skip : L_X12_found_6 F τ kx (n + 1) (nI k) = L_X12_found_6 F τ kx n (nI (k + 1)) → ¬ (mk (S.1.getD k 0) = true ∧ p (S.1.getD k 0)) → ((L_X12_found_6 F τ kx (n + 1) (nI k) = kx ∧ ∀ i, k ≤ i → i < S.1.length → ¬ (mk (S.1.getD i 0) = true ∧ p (S.1.getD i 0))) ∨ ∃ i, k ≤ i ∧ i < S.1.length ∧ (mk (S.1.getD i 0) = true ∧ p (S.1.getD i 0)) ∧ (∀ j, k ≤ j → j < i → ¬ (mk (S.1.getD j 0) = true ∧ p (S.1.getD j 0))) ∧ L_X12_found_6 F τ kx (n + 1) (nI k) = some (nI (S.1.getD i 0), τ)) := fun e hn => by
        rcases ih (k + 1) (by omega) (by omega) with ⟨z1, z2⟩ | ⟨i, z1, z2, z3, z4, z5⟩
        · exact Or.inl ⟨e.trans z1, fun i i1 i2 => by
            by_cases q : i = k
            · rw [q]; exact hn
            · exact z2 i (by omega) i2⟩
        · exact Or.inr ⟨i, by omega, z2, z3, fun j j1 j2 => by
            by_cases q : j = k
            · rw [q]; exact hn
            · exact z4 j (by omega) j2, e.trans z5⟩
      cases hm : mk (S.1.getD k 0) with
      | false =>
        rw [hm] at head
        rw [if_pos (show (if false = true then (1 : Int32) else 0) = 0 from rfl)] at head
        exact skip head (fun q => by rw [hm] at q; exact nomatch q.1)
      | true =>
        rw [hm] at head
        rw [if_neg (show ¬ (if true = true then (1 : Int32) else 0) = 0 by decide)] at head
        by_cases d : vI τ 160 (S.1.getD k 0) = 0
        · rw [if_pos d] at head
          exact skip head (fun q => q1.mp d q.2)
        · rw [if_neg d] at head
          exact Or.inr ⟨k, Nat.le_refl _, c, ⟨hm, Classical.byContradiction (fun z => d (q1.mpr z))⟩, fun j j1 j2 => by omega, head⟩
    · refine Or.inl ⟨?_, fun i i1 i2 => by omega⟩
      rw [L_X12_found_6, hB.1, if_pos (nI_le (by omega) (by omega))]
/-- the first of all that was met that is marked and turns -/
theorem x_found {V : Nat → Prop} {el : Nat → List (Nat × Nat)} {S : bS} {σ0 : sS} {F : Nat} {mk : Nat → Bool} (hO : bO V el) (hQ : ∀ x, x ∈ S.1 → V x) (hcl : ∀ x, x ∈ S.1 → ∀ e, e ∈ el x → e.2 ∈ S.1) (hS : ∀ τ, fm deM deK σ0 τ → rSte el S.1 τ) (hM : ∀ τ, fm deM deK σ0 τ → ∀ v, v ∈ S.1 → L_X12_isMarked (nI v) τ = some (if mk v = true then 1 else 0)) (hF : 40000000 < F) (hB : rBf S σ0) : ∃ υ r, L_X12_found F σ0 = some (r, υ) ∧ fm deM deK σ0 υ ∧ ((r = -1 ∧ ∀ i, i < S.1.length → ¬ (mk (S.1.getD i 0) = true ∧ lpP (esc el) (S.1.getD i 0))) ∨ ∃ i, i < S.1.length ∧ (mk (S.1.getD i 0) = true ∧ lpP (esc el) (S.1.getD i 0)) ∧ (∀ j, j < i → ¬ (mk (S.1.getD j 0) = true ∧ lpP (esc el) (S.1.getD j 0))) ∧ r = nI (S.1.getD i 0)) := by
  obtain ⟨υ, r1, r2, r3⟩ := x_turnsAll hO hQ hcl hS hF hB
  have hlen := nodup_len hB.2.2.2.2.1 hB.2.2.2.2.2
  rcases x_f6 (F := F) (p := lpP (esc el)) (hB.c r3) (hM υ r3) r2 (some (-1, υ)) F 0 (by omega) (Nat.zero_le _) with ⟨z1, z2⟩ | ⟨i, z1, z2, z3, z4, z5⟩
  · exact ⟨υ, -1, by unfold L_X12_found; rw [r1, bd_s]; exact z1, r3, Or.inl ⟨rfl, fun i hi => z2 i (Nat.zero_le _) hi⟩⟩
  · exact ⟨υ, _, by unfold L_X12_found; rw [r1, bd_s]; exact z5, r3, Or.inr ⟨i, z2, z3, fun j hj => z4 j (Nat.zero_le _) hj, rfl⟩⟩
