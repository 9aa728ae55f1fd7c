/-! the reference tells ways, goes round -/
def shM : List Nat := [149, 150, 151, 152, 154, 155, 156, 157, 158, 159, 160, 166, 167]
def shK : List Nat := [53, 61, 62, 63, 68, 69, 71]
theorem rBf.g {S : bS} {τ υ : sS} {M K : List Nat} (h : rBf S τ) (f : fm M K τ υ) (hM : ∀ r, r ∈ [149, 150, 151, 152, 90] → r ∉ M) (hK : 53 ∉ K) : rBf S υ := by
  obtain ⟨a1, a2, a3, a4, a5, a6⟩ := h
  exact ⟨(f.f hK (hM 90 (by decide))).trans a1, fun i hi => (f.r (hM 149 (by decide)) (by decide)).trans (a2 i hi), fun p hp => (f.r (hM 152 (by decide)) (by decide)).trans (a3 p hp), fun x hx => ⟨(f.r (hM 150 (by decide)) (by decide)).trans (a4 x hx).1, (f.r (hM 151 (by decide)) (by decide)).trans (a4 x hx).2⟩, a5, a6⟩
theorem nI_d1 {k : Nat} : nI (k + 1) + (-1) = nI k := by
  have e : nI (k + 1) = nI k + 1 := (nI_1 k).symm
  rw [e, Int32.add_assoc, show (1 : Int32) + (-1) = 0 from by decide, Int32.add_zero]
theorem x_w5 {S : bS} {τ : sS} {F x1 : Nat} {x2 : Int32} (hK : bK S) (hB : rBf S τ) (kx : Int32 → Option (Int32 × sS)) : ∀ (i n c : Nat), i < S.1.length → i < n → L_X12_way_5 F x1 x2 τ kx n (nI c) (nI (S.1.getD i 0)) = kx (nI (c + (wyO S (S.1.getD i 0)).length)) := by
  intro i
  induction i using Nat.strongRecOn with
  | _ i ih =>
    intro n c hi hn
    obtain ⟨n', rfl⟩ : ∃ n', n = n' + 1 := ⟨n - 1, by omega⟩
    have m := getD_mem hi
    have p3 := hK.2.1 _ m
    obtain ⟨b1, -⟩ := hB.2.2.2.1 _ m
    cases hq : S.2 (S.1.getD i 0) with
    | none =>
      rw [hq] at b1
      rw [wyO_n hq, L_X12_way_5, inb_n p3 (by omega), nI_clamp (by omega), b1, grd_s]
      exact if_pos rfl
    | some w =>
      rw [hq] at b1
      obtain ⟨e1, e2, e3, e4⟩ := wyO_s hK m hq
      obtain ⟨-, j, j1, j2⟩ := hK.2.2 i w hi hq
      have b1 : vI τ 150 (S.1.getD i 0) = nI w.1 := b1
      rw [L_X12_way_5, inb_n p3 (by omega), nI_clamp (by omega), b1, grd_s, if_neg (nI_n1' (by omega)), grd_s, bnd_s, nI_1, ← j2, ih j j1 n' (c + 1) (by omega) (by omega), j2, e1, List.length_append]
      congr 2
      simp only [List.length_cons, List.length_nil]
      omega
theorem inl_16 {x1 k : Nat} (hx : x1 = 166 ∨ x1 = 167) (hk : k < 1000) : inl 2 x1 (nI k) = true := by
  rcases hx with rfl | rfl
  · show (decide ((2 : Nat) = 2) && inb (nI k) 1000) = true
    rw [inb_n hk (by omega)]; rfl
  · show (decide ((2 : Nat) = 2) && inb (nI k) 1001) = true
    rw [inb_n (by omega) (by omega)]; rfl
theorem x_w37 {S : bS} {F x1 : Nat} {x3 : Int32} (hK : bK S) (hx : x1 = 166 ∨ x1 = 167) (kx : sS → Option (Int32 × sS)) : ∀ (i n : Nat) (τ : sS), i < S.1.length → i < n → rBf S τ → (wyO S (S.1.getD i 0)).length ≤ 1000 → ∃ υ, L_X12_way_37 F x1 x3 kx n (nI (wyO S (S.1.getD i 0)).length) (nI (S.1.getD i 0)) τ = kx υ ∧ (∀ j, j < (wyO S (S.1.getD i 0)).length → vI υ x1 j = nI ((wyO S (S.1.getD i 0)).getD j 0)) ∧ (∀ j, (wyO S (S.1.getD i 0)).length ≤ j → vI υ x1 j = vI τ x1 j) ∧ fm [x1] [] τ υ := by
  intro i
  induction i using Nat.strongRecOn with
  | _ i ih =>
    intro n τ hi hn hB hl
    obtain ⟨n', rfl⟩ : ∃ n', n = n' + 1 := ⟨n - 1, by omega⟩
    have m := getD_mem hi
    have p3 := hK.2.1 _ m
    obtain ⟨b1, b2⟩ := hB.2.2.2.1 _ m
    cases hq : S.2 (S.1.getD i 0) with
    | none =>
      rw [hq] at b1
      rw [wyO_n hq]
      refine ⟨τ, ?_, fun j hj => (nomatch hj), fun j _ => rfl, fm.rf⟩
      rw [L_X12_way_37, inb_n p3 (by omega), nI_clamp (by omega), b1, grd_s]
      exact if_pos rfl
    | some w =>
      rw [hq] at b1 b2
      obtain ⟨e1, e2, e3, e4⟩ := wyO_s hK m hq
      obtain ⟨-, j, j1, j2⟩ := hK.2.2 i w hi hq
      have b1 : vI τ 150 (S.1.getD i 0) = nI w.1 := b1
      have b2 : vI τ 151 (S.1.getD i 0) = nI w.2 := b2
      have el : (wyO S (S.1.getD i 0)).length = (wyO S w.1).length + 1 := by
        rw [e1, List.length_append]; rfl
      have f1 : fm [x1] [] τ (uI τ x1 (wyO S w.1).length (nI w.2)) := fm.uI (Or.inl (List.mem_singleton.mpr rfl))
      have hB1 := hB.g f1 (fun r hr q => by
        rw [List.mem_singleton.mp q] at hr
        rcases hx with e | e <;> (rw [e] at hr; exact absurd hr (by decide))) (fun q => nomatch q)
      obtain ⟨υ, r1, r2, r3, r4⟩ := ih j j1 n' (uI τ x1 (wyO S w.1).length (nI w.2)) (by omega) (by omega) hB1 (by rw [j2]; omega)
      rw [j2] at r1 r2 r3
      refine ⟨υ, ?_, fun k hk => ?_, fun k hk => ?_, f1.tr r4⟩
      · have e150 : vI (uI τ x1 (wyO S w.1).length (nI w.2)) 150 (S.1.getD i 0) = nI w.1 := by
          rw [vI_q (fun q => by rcases hx with e | e <;> (rw [e] at q; exact absurd q.1 (by decide)))]; exact b1
        rw [L_X12_way_37, inb_n p3 (by omega), nI_clamp (show S.1.getD i 0 < 2 ^ 31 by omega), b1, grd_s, if_neg (nI_n1' (by omega)), grd_s, el, nI_d1, inl_16 hx (by omega), grd_s, bnd_s, nI_clamp (show (wyO S w.1).length < 2 ^ 31 by omega), b2, grd_s, bnd_s, e150]
        exact r1
      · rw [e1]
        by_cases c : k < (wyO S w.1).length
        · rw [r2 k c, getD_app c]
        · have ek : k = (wyO S w.1).length := by omega
          rw [ek, r3 _ (Nat.le_refl _), vI_e]
          congr 1
          rw [List.getD_eq_getElem?_getD, List.getElem?_append_right (Nat.le_refl _), Nat.sub_self]
          rfl
      · rw [r3 k (by omega)]
        exact vI_q (fun q => by omega)
theorem x_way {S : bS} {τ : sS} {F x1 x : Nat} (hF : 3001 < F) (hK : bK S) (hB : rBf S τ) (hx1 : x1 = 166 ∨ x1 = 167) (hx : x ∈ S.1) (hl : (wyO S x).length ≤ 1000) : ∃ υ, L_X12_way F x1 (nI x) τ = some (nI (wyO S x).length, υ) ∧ (∀ j, j < (wyO S x).length → vI υ x1 j = nI ((wyO S x).getD j 0)) ∧ fm [x1] [] τ υ := by
  obtain ⟨i, i1, i2⟩ := mem_getD hx
  have := hK.len
  rw [← i2] at hl ⊢
  obtain ⟨υ, r1, r2, r3, r4⟩ := x_w37 (F := F) (x3 := nI (wyO S (S.1.getD i 0)).length) hK hx1 (fun σ2 => some (nI (wyO S (S.1.getD i 0)).length, σ2)) i F τ i1 (by omega) hB hl
  refine ⟨υ, ?_, r2, r4⟩
  unfold L_X12_way
  have h5 := x_w5 (F := F) (x1 := x1) (x2 := nI (S.1.getD i 0)) hK hB (fun yq1 => L_X12_way_37 F x1 yq1 (fun σ2 => some ((yq1, σ2))) F yq1 (nI (S.1.getD i 0)) τ) i F 0 i1 (by omega)
  rw [Nat.zero_add] at h5
  exact h5.trans r1
/-! going round from a point -/
def bHE (h v : Nat) : List (Nat × Nat) → bS → Option Nat × bS
  | [], S => (none, S)
  | e :: l, S => if e.2 = h then (some (e.1 / 2048), S) else bHE h v l (bm e.2 (some (v, e.1 / 2048)) S)
def bHA (el : Nat → List (Nat × Nat)) (h : Nat) : Nat → Nat → bS → Option (Nat × Nat) × bS
  | 0, _, S => (none, S)
  | n + 1, k, S => if k < S.1.length then (match (bHE h (S.1.getD k 0) (el (S.1.getD k 0)) S).1 with
      | some s => (some (S.1.getD k 0, s), (bHE h (S.1.getD k 0) (el (S.1.getD k 0)) S).2)
      | none => bHA el h n (k + 1) (bHE h (S.1.getD k 0) (el (S.1.getD k 0)) S).2) else (none, S)
def bH0 (h : Nat) : bS := bm h none ([], fun _ => none)
/-- the letters of the round -/
def rndW (r : Option (Nat × Nat) × bS) : List Nat := match r.1 with
  | none => []
  | some w => wyO r.2 w.1 ++ [w.2]
def rndO (el : Nat → List (Nat × Nat)) (h : Nat) : List Nat := rndW (bHA el h 3001 0 (bH0 h))
/-- where nothing comes back, all is met as ever -/
theorem bHE_n {h v : Nat} : ∀ (l : List (Nat × Nat)) (S : bS), ((bHE h v l S).1 = none → (bHE h v l S).2 = bE v l S ∧ ∀ e, e ∈ l → e.2 ≠ h) ∧ bX S (bHE h v l S).2 ∧ (bX (bHE h v l S).2 (bE v l S))
  | [], S => ⟨fun _ => ⟨rfl, fun e he => nomatch he⟩, bX.rf, bX.rf⟩
  | e :: l, S => by
    rw [bHE, bE]
    by_cases c : e.2 = h
    · rw [if_pos c]
      exact ⟨fun q => (nomatch q), bX.rf, bX_bm.tr (bX_bE l _)⟩
    · rw [if_neg c]
      obtain ⟨h1, h2, h3⟩ := bHE_n l (bm e.2 (some (v, e.1 / 2048)) S)
      refine ⟨fun q => ?_, bX_bm.tr h2, h3⟩
      obtain ⟨q1, q2⟩ := h1 q
      refine ⟨q1, fun e' he => ?_⟩
      rcases List.mem_cons.mp he with z | z
      · rw [z]; exact c
      · exact q2 e' z
theorem bHE_V {V : Nat → Prop} {h v : Nat} : ∀ (l : List (Nat × Nat)) (S : bS), bK S → (∀ x, x ∈ S.1 → V x) → v ∈ S.1 → (∀ e, e ∈ l → V e.2 ∧ e.2 < 3000 ∧ e.1 < 6144) → bK (bHE h v l S).2 ∧ (∀ x, x ∈ (bHE h v l S).2.1 → V x) ∧ ∀ s, (bHE h v l S).1 = some s → s < 3
  | [], S, hK, hV, _, _ => ⟨hK, hV, fun s q => nomatch q⟩
  | e :: l, S, hK, hV, hv, hl => by
    rw [bHE]
    have h1 := hl e List.mem_cons_self
    by_cases c : e.2 = h
    · rw [if_pos c]
      exact ⟨hK, hV, fun s q => by rw [← Option.some.inj q]; omega⟩
    · rw [if_neg c]
      refine bHE_V l _ (bK_bm hK h1.2.1 (fun q hq => ?_)) (fun x hx => ?_) (bX_bm.m hv) (fun e' he => hl e' (List.mem_cons_of_mem _ he))
      · rw [← Option.some.inj hq]
        exact ⟨hv, by show e.1 / 2048 < 3; omega⟩
      · rcases bm_m hx with q | q
        · exact hV x q
        · rw [q]; exact h1.1
theorem bHA_ok {V : Nat → Prop} {el : Nat → List (Nat × Nat)} {h : Nat} (hO : bO V el) : ∀ (n k : Nat) (S : bS), bK S → (∀ x, x ∈ S.1 → V x) → bK (bHA el h n k S).2 ∧ (∀ x, x ∈ (bHA el h n k S).2.1 → V x) ∧ ∀ w, (bHA el h n k S).1 = some w → w.1 ∈ (bHA el h n k S).2.1 ∧ w.2 < 3
  | 0, _, S, hK, hV => ⟨hK, hV, fun w q => nomatch q⟩
  | n + 1, k, S, hK, hV => by
    rw [bHA]
    by_cases c : k < S.1.length
    · rw [if_pos c]
      have pm := getD_mem c
      have pV := hV _ pm
      obtain ⟨b1, b2, b3⟩ := bHE_V (V := V) (h := h) (el (S.1.getD k 0)) S hK hV pm (fun e he => ⟨((hO.2 _ pV).2 e he).2, hO.1 _ ((hO.2 _ pV).2 e he).2, ((hO.2 _ pV).2 e he).1⟩)
      cases hq : (bHE h (S.1.getD k 0) (el (S.1.getD k 0)) S).1 with
      | none => exact bHA_ok hO n (k + 1) _ b1 b2
      | some s =>
        refine ⟨b1, b2, fun w q => ?_⟩
        have q := Option.some.inj q
        rw [← q]
        exact ⟨(bHE_n _ _).2.1.m pm, b3 s hq⟩
    · rw [if_neg c]
      exact ⟨hK, hV, fun w q => nomatch q⟩
theorem bHA_cl {V : Nat → Prop} {el : Nat → List (Nat × Nat)} {h : Nat} (hO : bO V el) : ∀ (n k : Nat) (S : bS), 3000 < n + k → bK S → (∀ x, x ∈ S.1 → V x) → k ≤ S.1.length → (∀ i, i < k → ∀ e, e ∈ el (S.1.getD i 0) → e.2 ∈ S.1 ∧ e.2 ≠ h) → (bHA el h n k S).1 = none → (∀ x, x ∈ S.1 → x ∈ (bHA el h n k S).2.1) ∧ ∀ x, x ∈ (bHA el h n k S).2.1 → ∀ e, e ∈ el x → e.2 ∈ (bHA el h n k S).2.1 ∧ e.2 ≠ h
  | 0, k, S, h1, hK, _, h2, _, _ => by have := hK.len; omega
  | n + 1, k, S, h1, hK, hV, h2, h3, hq => by
    rw [bHA] at hq ⊢
    by_cases c : k < S.1.length
    · rw [if_pos c] at hq ⊢
      have pm := getD_mem c
      have pV := hV _ pm
      obtain ⟨b1, b2, b3⟩ := bHE_V (V := V) (h := h) (el (S.1.getD k 0)) S hK hV pm (fun e he => ⟨((hO.2 _ pV).2 e he).2, hO.1 _ ((hO.2 _ pV).2 e he).2, ((hO.2 _ pV).2 e he).1⟩)
      obtain ⟨n1, n2, -⟩ := bHE_n (h := h) (v := S.1.getD k 0) (el (S.1.getD k 0)) S
      cases hz : (bHE h (S.1.getD k 0) (el (S.1.getD k 0)) S).1 with
      | some s => rw [hz] at hq; exact nomatch hq
      | none =>
        rw [hz] at hq
        obtain ⟨m1, m2⟩ := n1 hz
        obtain ⟨m, e⟩ := n2.1
        have i3 := (bE_ok (v := S.1.getD k 0) (el (S.1.getD k 0)) S).2.2.1
        rw [← m1] at i3
        have hh : ∀ i, i < k + 1 → ∀ e', e' ∈ el ((bHE h (S.1.getD k 0) (el (S.1.getD k 0)) S).2.1.getD i 0) → e'.2 ∈ (bHE h (S.1.getD k 0) (el (S.1.getD k 0)) S).2.1 ∧ e'.2 ≠ h := by
          intro i hi e' he
          by_cases ek : i = k
          · rw [ek, e, getD_app c] at he
            exact ⟨i3 e' he, m2 e' he⟩
          · have : i < k := by omega
            rw [e, getD_app (by omega)] at he
            exact ⟨n2.m (h3 i this e' he).1, (h3 i this e' he).2⟩
        obtain ⟨r1, r2⟩ := bHA_cl hO n (k + 1) _ (by omega) b1 b2 (by rw [e, List.length_append]; omega) hh hq
        exact ⟨fun x hx => r1 x (n2.m hx), r2⟩
    · rw [if_neg c]
      refine ⟨fun x hx => hx, fun x hx e he => ?_⟩
      have hx : x ∈ S.1 := hx
      obtain ⟨i, i1, i2⟩ := mem_getD hx
      rw [← i2] at he
      exact h3 i (by omega) e he
theorem bH0_ok {V : Nat → Prop} {h : Nat} (h3 : h < 3000) (hV : V h) : bK (bH0 h) ∧ (∀ x, x ∈ (bH0 h).1 → V x) ∧ h ∈ (bH0 h).1 := by
  refine ⟨bK_bm ⟨List.nodup_nil, fun x hx => (nomatch hx), fun i w hi => (nomatch hi)⟩ h3 (fun q hq => nomatch hq), fun x hx => ?_, bm_in.1⟩
  rcases bm_m hx with q | q
  · exact nomatch q
  · rw [q]; exact hV
/-- one that comes to itself is come back to -/
theorem bHA_lp {V : Nat → Prop} {el : Nat → List (Nat × Nat)} {h : Nat} (hO : bO V el) (hV : V h) (hl : lpP (esc el) h) : ∃ w, (bHA el h 3001 0 (bH0 h)).1 = some w := by
  cases hq : (bHA el h 3001 0 (bH0 h)).1 with
  | some w => exact ⟨w, rfl⟩
  | none =>
    obtain ⟨k1, k2, k3⟩ := bH0_ok (hO.1 h hV) hV
    obtain ⟨r1, r2⟩ := bHA_cl hO 3001 0 (bH0 h) (by omega) k1 k2 (Nat.zero_le _) (fun i hi => absurd hi (Nat.not_lt_zero i)) hq
    obtain ⟨u, u1, k, u2⟩ := hl
    have key : ∀ (k u : Nat), u ∈ (bHA el h 3001 0 (bH0 h)).2.1 → u ≠ h → ¬ rchN (esc el) k u h := by
      intro k
      induction k with
      | zero => intro u _ hu q; exact hu q
      | succ k ih =>
        rintro u hu - ⟨t, t1, t2⟩
        obtain ⟨e, e1, e2⟩ := esc_mem.mp t1
        obtain ⟨q1, q2⟩ := r2 u hu e e1
        rw [e2] at q1 q2
        exact ih t q1 q2 t2
    obtain ⟨e, e1, e2⟩ := esc_mem.mp u1
    obtain ⟨q1, q2⟩ := r2 h (r1 h k3) e e1
    rw [e2] at q1 q2
    exact absurd u2 (key k u q1 q2)
def rnM : List Nat := [149, 150, 151, 152, 154, 155, 156, 157, 158, 159, 160, 167]
def rnK : List Nat := [53, 61, 62, 63, 69]
def rRd (l : List Nat) (τ : sS) : Prop := vI τ 90 69 = nI l.length ∧ ∀ j, j < l.length → vI τ 167 j = nI (l.getD j 0)
theorem x_36 {V : Nat → Prop} {el : Nat → List (Nat × Nat)} {Q : List Nat} {σ0 : sS} {F h p : Nat} (hO : bO V el) (hS : ∀ τ, fm shM shK σ0 τ → rSte el Q τ) (h10 : ∀ x, V x → x < 1000) (hF : 3001 < F) (hpQ : p ∈ Q) (hh : h < 3000) : ∀ (rest pre : List (Nat × Nat)) (n : Nat) (S : bS) (τ : sS), el p = pre ++ rest → rest.length < n → fm shM shK σ0 τ → rBf S τ → bK S → (∀ x, x ∈ S.1 → V x) → p ∈ S.1 → match (bHE h p rest S).1 with
    | none => ∃ υ, (∀ kx x2, L_X12_showsRound_36 F (nI h) x2 (nI p) kx n (hEd rest) τ = kx υ) ∧ rBf (bHE h p rest S).2 υ ∧ fm rnM rnK τ υ
    | some s => ∃ υ, (∀ kx x2, L_X12_showsRound_36 F (nI h) x2 (nI p) kx n (hEd rest) τ = some υ) ∧ rRd (wyO (bHE h p rest S).2 p ++ [s]) υ ∧ fm rnM rnK τ υ := by
  intro rest
  induction rest with
  | nil =>
    intro pre n S τ _ hn hf hR hK hV _
    cases n with
    | zero => exact absurd hn (by decide)
    | succ n => exact ⟨τ, fun kx x1 => rfl, hR, fm.rf⟩
  | cons e r ih =>
    intro pre n S τ hel hn hf hR hK hV hp
    cases n with
    | zero => exact absurd hn (by omega)
    | succ n =>
      have pV := hV p hp
      have p3 := hO.1 p pV
      have em : e ∈ el p := by rw [hel]; simp
      obtain ⟨so, eb⟩ := hO.2 p pV
      obtain ⟨e6, eV⟩ := eb e em
      have e3 := hO.1 _ eV
      have g1 := (hS τ hf p hpQ).2 e em
      rw [bHE]
      have head : ∀ kx x2, L_X12_showsRound_36 F (nI h) x2 (nI p) kx (n + 1) (hEd (e :: r)) τ = if nI e.2 = nI h then (bd2 (L_X12_way F 167 (nI p) τ) (fun rq20 σ21 => bnd (uI σ21 90 69 rq20) (fun σ22 => grd (inb (vI σ22 90 69) 1001) (bnd (uI σ22 167 (vI σ22 90 69).toNatClampNeg (nI (e.1 / 2048))) (fun σ24 => bnd (uI σ24 90 69 ((vI σ24 90 69) + 1)) (fun σ25 => some σ25)))))) else (bd (L_X12_meets (nI e.2) (nI p) (nI (e.1 / 2048)) τ) (fun σ16 => bd (L_X12_edgeFrom F (nI p) (nI (e.1 + 1)) σ16) (fun rq18 => L_X12_showsRound_36 F (nI h) x2 (nI p) kx n rq18 σ16))) := by
        intro kx x2
        rw [L_X12_showsRound_36, show hEd (e :: r) = nI e.1 from rfl, if_neg (nI_n1' (by omega)), g1, bd2_s, show nI e.1 / 2048 = nI (e.1 / 2048) from nI_dv (by omega) (by decide), nI_1]
      by_cases c : e.2 = h
      · rw [if_pos c]
        have hlen : (wyO S p).length ≤ 1000 := by
          have := wyO_le hK hp
          have := nodup_len hK.1 (fun x hx => h10 x (hV x hx))
          omega
        obtain ⟨υ1, w1, w2, w3⟩ := x_way hF hK hR (Or.inr rfl) hp hlen
        show ∃ υ, (∀ kx x2, L_X12_showsRound_36 F (nI h) x2 (nI p) kx (n + 1) (hEd (e :: r)) τ = some υ) ∧ rRd (wyO S p ++ [e.1 / 2048]) υ ∧ fm rnM rnK τ υ
        refine ⟨uI (uI (uI υ1 90 69 (nI (wyO S p).length)) 167 (wyO S p).length (nI (e.1 / 2048))) 90 69 (nI ((wyO S p).length + 1)), fun kx x2 => ?_, ⟨?_, fun j hj => ?_⟩, ?_⟩
        · rw [head, if_pos (by rw [c]), w1, bd2_s, bnd_s]
          have v1 : vI (uI υ1 90 69 (nI (wyO S p).length)) 90 69 = nI (wyO S p).length := vI_e
          rw [v1, inb_n (by omega) (by omega), grd_s, bnd_s, nI_clamp (by omega)]
          have v2 : vI (uI (uI υ1 90 69 (nI (wyO S p).length)) 167 (wyO S p).length (nI (e.1 / 2048))) 90 69 = nI (wyO S p).length := by
            rw [vI_q (fun q => absurd q.1 (by decide))]; exact v1
          rw [v2, nI_1, bnd_s]
        · rw [vI_e, List.length_append]; rfl
        · rw [List.length_append] at hj
          simp only [List.length_cons, List.length_nil] at hj
          rw [vI_q (fun q => absurd q.1 (by decide))]
          by_cases z : j < (wyO S p).length
          · rw [vI_q (fun q => by omega), vI_q (fun q => absurd q.1 (by decide)), w2 j z, getD_app z]
          · have ej : j = (wyO S p).length := by omega
            rw [ej, vI_e]
            congr 1
            rw [List.getD_eq_getElem?_getD, List.getElem?_append_right (Nat.le_refl _), Nat.sub_self]
            rfl
        · exact (w3.mo (by decide) (fun _ q => nomatch q)).tr (((fm.uI (Or.inr ⟨rfl, by decide⟩)).tr (fm.uI (Or.inl (by decide)))).tr (fm.uI (Or.inr ⟨rfl, by decide⟩)))
      · rw [if_neg c]
        obtain ⟨τ2, m1, m2, m3⟩ := x_meets hR e3 (some (p, e.1 / 2048))
        have f2 : fm rnM rnK τ τ2 := m3.mo (by decide) (by decide)
        have hf2 := hf.tr (f2.mo (by decide) (by decide))
        have ed := (hS τ2 hf2 p hpQ).1 F (e.1 + 1) (by omega) (by omega)
        rw [hel] at so
        have so1 := List.pairwise_append.mp so
        have so2 := List.pairwise_cons.mp so1.2.1
        have ed2 : fEd (e.1 + 1) (el p) = hEd r := by
          rw [hel, show pre ++ e :: r = (pre ++ [e]) ++ r by simp]
          rw [fEd_a (fun x hx => by
            rcases List.mem_append.mp hx with q | q
            · have := so1.2.2 x q e List.mem_cons_self; omega
            · rw [List.mem_singleton.mp q]; omega)]
          exact fEd_b (fun x hx => so2.1 x hx)
        rw [ed2] at ed
        have m1' : L_X12_meets (nI e.2) (nI p) (nI (e.1 / 2048)) τ = some τ2 := m1
        have step : ∀ kx x2, L_X12_showsRound_36 F (nI h) x2 (nI p) kx (n + 1) (hEd (e :: r)) τ = L_X12_showsRound_36 F (nI h) x2 (nI p) kx n (hEd r) τ2 := by
          intro kx x2
          rw [head, if_neg (fun q => c (nI_ij (by omega) (by omega) q)), m1', bd_s, ed, bd_s]
        have I := ih (pre ++ [e]) n _ τ2 (by rw [hel]; simp) (by rw [List.length_cons] at hn; omega) hf2 m2 (bK_bm hK e3 (fun q hq => by
          rw [← Option.some.inj hq]
          exact ⟨hp, by show e.1 / 2048 < 3; omega⟩)) (fun x hx => by
          rcases bm_m hx with q | q
          · exact hV x q
          · rw [q]; exact eV) (bX_bm.m hp)
        revert I
        cases (bHE h p r (bm e.2 (some (p, e.1 / 2048)) S)).1 with
        | none =>
          rintro ⟨υ, r1, r2, r3⟩
          exact ⟨υ, fun kx x2 => (step kx x2).trans (r1 kx x2), r2, f2.tr r3⟩
        | some s =>
          rintro ⟨υ, r1, r2, r3⟩
          exact ⟨υ, fun kx x2 => (step kx x2).trans (r1 kx x2), r2, f2.tr r3⟩
theorem x_13 {V : Nat → Prop} {el : Nat → List (Nat × Nat)} {Q : List Nat} {σ0 : sS} {F h : Nat} (hO : bO V el) (hS : ∀ τ, fm shM shK σ0 τ → rSte el Q τ) (hcl : ∀ x, x ∈ Q → ∀ e, e ∈ el x → e.2 ∈ Q) (h10 : ∀ x, V x → x < 1000) (hF : 6200 < F) (hh : h < 3000) : ∀ (n m k : Nat) (S : bS) (τ : sS) (w : Nat × Nat), n ≤ m → fm shM shK σ0 τ → rBf S τ → bK S → (∀ x, x ∈ S.1 → V x ∧ x ∈ Q) → (bHA el h n k S).1 = some w → ∃ υ, L_X12_showsRound_13 F (nI h) (fun σ5 => some σ5) m (nI k) τ = some υ ∧ rRd (rndW (bHA el h n k S)) υ ∧ fm rnM rnK τ υ := by
  intro n
  induction n with
  | zero => intro m k S τ w _ _ _ _ _ hw; exact nomatch hw
  | succ n ih =>
    intro m k S τ w hm hf hR hK hV hw
    obtain ⟨m', rfl⟩ : ∃ m', m = m' + 1 := ⟨m - 1, by omega⟩
    rw [bHA] at hw ⊢
    have hlen := hK.len
    by_cases c : k < S.1.length
    · rw [if_pos c] at hw ⊢
      have pm := getD_mem c
      have e149 := hR.2.1 k c
      generalize S.1.getD k 0 = p at pm e149 hw ⊢
      obtain ⟨pV, pQ⟩ := hV p pm
      have ed := (hS τ hf p pQ).1 F 0 (by omega) (by omega)
      rw [fEd_b (fun _ _ => Nat.zero_le _)] at ed
      have ed : L_X12_edgeFrom F (nI p) 0 τ = some (hEd (el p)) := ed
      have ll := el_len hO pV
      have head : L_X12_showsRound_13 F (nI h) (fun σ5 => some σ5) (m' + 1) (nI k) τ = L_X12_showsRound_36 F (nI h) (nI k) (nI p) (fun σ10 => L_X12_showsRound_13 F (nI h) (fun σ5 => some σ5) m' (nI (k + 1)) σ10) F (hEd (el p)) τ := by
        rw [L_X12_showsRound_13, hR.1, if_neg (nI_ge c (by omega)), inb_n (by omega) (by omega), grd_s, bnd_s, nI_clamp (by omega), e149, ed, bd_s, nI_1]
      have I := x_36 (F := F) hO hS h10 (by omega) pQ hh (el p) [] F S τ rfl (by omega) hf hR hK (fun x hx => (hV x hx).1) pm
      obtain ⟨b1, b2, b3⟩ := bHE_V (V := fun x => V x ∧ x ∈ Q) (h := h) (el p) S hK hV pm (fun e he => ⟨⟨((hO.2 _ pV).2 e he).2, hcl p pQ e he⟩, hO.1 _ ((hO.2 _ pV).2 e he).2, ((hO.2 _ pV).2 e he).1⟩)
      revert I hw
      cases hz : (bHE h p (el p) S).1 with
      | some s =>
        rintro - ⟨υ, r1, r2, r3⟩
        exact ⟨υ, head.trans (r1 _ _), r2, r3⟩
      | none =>
        rintro hw ⟨υ1, r1, r2, r3⟩
        obtain ⟨υ, s1, s2, s3⟩ := ih m' (k + 1) _ υ1 w (by omega) (hf.tr (r3.mo (by decide) (by decide))) r2 b1 b2 hw
        exact ⟨υ, (head.trans (r1 _ _)).trans s1, s2, r3.tr s3⟩
    · rw [if_neg c] at hw; exact nomatch hw
theorem x_showsRound {V : Nat → Prop} {el : Nat → List (Nat × Nat)} {Q : List Nat} {σ0 : sS} {F h : Nat} (hO : bO V el) (hS : ∀ τ, fm shM shK σ0 τ → rSte el Q τ) (hQ : ∀ x, x ∈ Q → V x) (hcl : ∀ x, x ∈ Q → ∀ e, e ∈ el x → e.2 ∈ Q) (h10 : ∀ x, V x → x < 1000) (hF : 6200 < F) (hh : h ∈ Q) (hl : lpP (esc el) h) {τ : sS} (hf : fm shM shK σ0 τ) : ∃ υ, L_X12_showsRound F (nI h) τ = some υ ∧ rRd (rndO el h) υ ∧ fm rnM rnK τ υ := by
  have h3 := hO.1 h (hQ h hh)
  obtain ⟨υ1, a1, a2, a3⟩ := x_meetsNone (F := F) (by omega) τ
  obtain ⟨υ2, b1, b2, b3⟩ := x_meets a2 h3 none
  have b1 : L_X12_meets (nI h) (-1) (-1) υ1 = some υ2 := b1
  have f2 : fm rnM rnK τ υ2 := (a3.tr b3).mo (by decide) (by decide)
  obtain ⟨k1, k2, k3⟩ := bH0_ok (V := fun x => V x ∧ x ∈ Q) h3 ⟨hQ h hh, hh⟩
  obtain ⟨w, hw⟩ := bHA_lp hO (hQ h hh) hl
  obtain ⟨υ, r1, r2, r3⟩ := x_13 hO hS hcl h10 hF h3 3001 F 0 (bH0 h) υ2 w (by omega) (hf.tr (f2.mo (by decide) (by decide))) b2 k1 k2 hw
  refine ⟨υ, ?_, r2, f2.tr r3⟩
  unfold L_X12_showsRound
  rw [a1, bd_s, b1, bd_s]
  exact r1
/-! what is shown -/
def shP (el : Nat → List (Nat × Nat)) (mk : Nat → Bool) (x : Nat) : Prop := mk x = true ∧ lpP (esc el) x
noncomputable def fstP (p : Nat → Prop) : List Nat → Option Nat
  | [] => none
  | x :: l => @ite _ (p x) (Classical.propDecidable _) (some x) (fstP p l)
theorem fstP_n {p : Nat → Prop} : ∀ {l : List Nat}, (∀ x, x ∈ l → ¬ p x) → fstP p l = none
  | [], _ => rfl
  | x :: l, h => by
    rw [fstP, if_neg (h x List.mem_cons_self)]
    exact fstP_n (fun y hy => h y (List.mem_cons_of_mem _ hy))
theorem fstP_s {p : Nat → Prop} {x : Nat} (hx : p x) : ∀ {a b : List Nat}, (∀ y, y ∈ a → ¬ p y) → fstP p (a ++ x :: b) = some x
  | [], b, _ => by
    show fstP p (x :: b) = some x
    rw [fstP, if_pos hx]
  | y :: a, b, h => by
    show fstP p (y :: (a ++ x :: b)) = some x
    rw [fstP, if_neg (h y List.mem_cons_self)]
    exact fstP_s hx (fun z hz => h z (List.mem_cons_of_mem _ hz))
noncomputable def shS (el : Nat → List (Nat × Nat)) (mk : Nat → Bool) (S : bS) : Option (List Nat × List Nat) := match fstP (shP el mk) S.1 with
  | none => none
  | some x => some (wyO S x, rndO el x)
def rShw (o : Option (List Nat × List Nat)) (τ : sS) : Prop := match o with
  | none => vI τ 90 71 = 0
  | some w => vI τ 90 71 = 1 ∧ w.1.length ≤ 1000 ∧ w.2.length ≤ 1001 ∧ vI τ 90 68 = nI w.1.length ∧ vI τ 90 69 = nI w.2.length ∧ (∀ j, j < w.1.length → vI τ 166 j = nI (w.1.getD j 0)) ∧ ∀ j, j < w.2.length → vI τ 167 j = nI (w.2.getD j 0)
theorem rndO_le {V : Nat → Prop} {el : Nat → List (Nat × Nat)} {h : Nat} (hO : bO V el) (h10 : ∀ x, V x → x < 1000) (hV : V h) : (rndO el h).length ≤ 1000 := by
  obtain ⟨k1, k2, k3⟩ := bH0_ok (hO.1 h hV) hV
  obtain ⟨b1, b2, b3⟩ := bHA_ok (h := h) hO 3001 0 (bH0 h) k1 k2
  have hl := nodup_len b1.1 (fun x hx => h10 x (b2 x hx))
  unfold rndO rndW
  cases hq : (bHA el h 3001 0 (bH0 h)).1 with
  | none => exact Nat.zero_le _
  | some w =>
    have := wyO_le b1 (b3 w hq).1
    show (wyO (bHA el h 3001 0 (bH0 h)).2 w.1 ++ [w.2]).length ≤ 1000
    rw [List.length_append]
    simp only [List.length_cons, List.length_nil]
    omega
theorem x_shows {V : Nat → Prop} {el : Nat → List (Nat × Nat)} {S : bS} {σ0 : sS} {F : Nat} {mk : Nat → Bool} (hO : bO V el) (hQ : ∀ x, x ∈ S.1 → V x) (hcl : ∀ x, x ∈ S.1 → ∀ e, e ∈ el x → e.2 ∈ S.1) (hS : ∀ τ, fm shM shK σ0 τ → rSte el S.1 τ) (hM : ∀ τ, fm shM shK σ0 τ → ∀ v, v ∈ S.1 → L_X12_isMarked (nI v) τ = some (if mk v = true then 1 else 0)) (h10 : ∀ x, V x → x < 1000) (hF : 40000000 < F) (hB : rBf S σ0) (hK : bK S) : ∃ υ, L_X12_shows F σ0 = some (if (shS el mk S).isSome = true then 1 else 0, υ) ∧ rShw (shS el mk S) υ ∧ fm shM shK σ0 υ := by
  have mo : ∀ {τ υ : sS}, fm deM deK τ υ → fm shM shK τ υ := fun f => f.mo (by decide) (by decide)
  obtain ⟨υ1, r, a1, a2, a3⟩ := x_found hO hQ hcl (fun τ f => hS τ (mo f)) (fun τ f => hM τ (mo f)) hF hB
  unfold shS
  rcases a3 with ⟨e, a3⟩ | ⟨i, i1, i2, i3, e⟩
  · rw [fstP_n (p := shP el mk) (l := S.1) (fun x hx => by
      obtain ⟨i, i1, i2⟩ := mem_getD hx
      rw [← i2]; exact a3 i i1)]
    refine ⟨uI υ1 90 71 0, ?_, vI_e, (mo a2).tr (fm.uI (Or.inr ⟨rfl, by decide⟩))⟩
    unfold L_X12_shows
    rw [a1, e, bd2_s, if_pos rfl, bnd_s, vI_e, if_pos rfl]
    rfl
  · have pm := getD_mem i1
    have sp : S.1 = S.1.take i ++ S.1.getD i 0 :: S.1.drop (i + 1) := by
      have h1 : S.1.drop i = S.1.getD i 0 :: S.1.drop (i + 1) := by
        rw [List.drop_eq_getElem_cons i1, List.getD_eq_getElem?_getD, List.getElem?_eq_getElem i1]
        rfl
      rw [← h1, List.take_append_drop]
    have hs : fstP (shP el mk) S.1 = some (S.1.getD i 0) := by
      rw [sp]
      refine (fstP_s (a := S.1.take i) (b := S.1.drop (i + 1)) i2 (fun y hy => ?_)).trans ?_
      · obtain ⟨j, j1, j2⟩ := List.getElem_of_mem hy
        rw [List.length_take] at j1
        rw [List.getElem_take] at j2
        have : S.1.getD j 0 = y := by
          rw [List.getD_eq_getElem?_getD, List.getElem?_eq_getElem (by omega)]; exact j2
        rw [← this]
        exact i3 j (by omega)
      · rw [← sp]
    rw [hs]
    generalize S.1.getD i 0 = h at pm i2 e
    have h3 := hO.1 h (hQ h pm)
    have f1 : fm shM shK σ0 (uI υ1 90 71 1) := (mo a2).tr (fm.uI (Or.inr ⟨rfl, by decide⟩))
    have hB1 : rBf S (uI υ1 90 71 1) := (hB.c a2).g (M := []) (K := [71]) (fm.uI (Or.inr ⟨rfl, by decide⟩)) (fun _ _ q => nomatch q) (by decide)
    have hl0 := wyO_le hK pm
    have hl1 := nodup_len hK.1 (fun x hx => h10 x (hQ x hx))
    obtain ⟨υ2, w1, w2, w3⟩ := x_way (F := F) (x1 := 166) (by omega) hK hB1 (Or.inl rfl) pm (by omega)
    have f2 : fm shM shK (uI υ1 90 71 1) (uI υ2 90 68 (nI (wyO S h).length)) := (w3.mo (by decide) (fun _ q => nomatch q)).tr (fm.uI (Or.inr ⟨rfl, by decide⟩))
    obtain ⟨υ, s1, s2, s3⟩ := x_showsRound (F := F) hO hS hQ hcl h10 (by omega) pm i2.2 (f1.tr f2)
    refine ⟨υ, ?_, ⟨?_, by show (wyO S h).length ≤ 1000; omega, ?_, ?_, s2.1, fun j hj => ?_, s2.2⟩, (f1.tr f2).tr (s3.mo (by decide) (by decide))⟩
    · unfold L_X12_shows
      rw [a1, e, bd2_s, if_neg (nI_n1' (by omega)), bnd_s, vI_e, if_neg (by decide), w1, bd2_s, bnd_s, s1, bd_s]
      rfl
    · rw [s3.f (by decide) (by decide), vI_q (fun q => absurd q.2 (by decide)), w3.f (fun q => nomatch q) (by decide), vI_e]
    · have := rndO_le hO h10 (hQ h pm)
      show (rndO el h).length ≤ 1001
      omega
    · rw [s3.f (by decide) (by decide), vI_e]
    · rw [s3.r (by decide) (by decide), vI_q (fun q => absurd q.1 (by decide))]
      exact w2 j hj
