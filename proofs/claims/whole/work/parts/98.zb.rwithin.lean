/-! within: the reference -/
def thM : List Nat := [149, 150, 151, 152, 154, 155, 156, 157, 158, 159, 160, 143, 144, 145, 146]
def thK : List Nat := [53, 61, 62, 63, 47, 48]
theorem x_jE {M M' : aM} {v : zS × (Nat → Nat)} {g a p c F : Nat} {σ0 : sS} (hM : mOk g M) (hq : cpl M' g = some v) (hO : cO M' g v) (h3 : sM3 v.2 (zN v.1 * g)) (hg1 : 1 ≤ g) (hg : g ≤ 3) (ha : a < 3) (hF : 20 < F) (h0 : rG2 M M' g a σ0) (hV : cV M v c) : ∀ (rest pre : List (Nat × Nat)) (n : Nat) (z : List Nat × bS) (τ : sS), elB (bC M v g) g c = pre ++ rest → rest.length < n → fm thM thK σ0 τ → jK z → r3 z.1 τ → rBf z.2 τ → p < z.1.length → z.1.getD p 0 = c → match jE p rest z with
    | none => ∃ υ, (∀ kx x1, L_X12_meetsAll_24 F x1 (nI p) kx n (hEd rest) τ = some υ) ∧ vI υ 90 48 = 0 ∧ fm thM thK σ0 υ
    | some y => ∃ υ, (∀ kx x1, L_X12_meetsAll_24 F x1 (nI p) kx n (hEd rest) τ = kx υ) ∧ r3 y.1 υ ∧ rBf y.2 υ ∧ fm thM thK σ0 υ := by
  intro rest
  induction rest with
  | nil =>
    intro pre n z τ _ hn hf hK hr hR hp hc
    cases n with
    | zero => exact absurd hn (by decide)
    | succ n => exact ⟨τ, fun kx x1 => rfl, hr, hR, hf⟩
  | cons e r ih =>
    intro pre n z τ hel hn hf hK hr hR hp hc
    cases n with
    | zero => exact absurd hn (by omega)
    | succ n =>
      have hl := hK.2.1
      have hG : rG2 M M' g a τ := h0.f hf (by decide) (by decide)
      have em : e ∈ elB (bC M v g) g c := by rw [hel]; simp
      obtain ⟨-, x2, -⟩ := x_G2 hM hq hO h3 hg1 hg ha hG hr hl hp (by rw [hc]; exact hV)
      rw [hc] at x2
      obtain ⟨y1, y2, -⟩ := x2 e em
      have so := elB_so (b := bC M v g) (g := g) (p := c) (fun s hs => (bC_o (M' := M) h3 hV hs).1)
      have e6 : e.1 < 6144 := by
        obtain ⟨s, t, k, w1, w2, w3, w4⟩ := elB_mem.mp em
        have := blk_b (bC_o (M' := M) h3 hV w1).1 (blk_mem.mpr ⟨t, k, w2, w3, w4⟩)
        omega
      rw [jE]
      cases ht : tm e.2 z.1 with
      | none =>
        obtain ⟨υ, u1, u2, u3⟩ := y2 ht
        refine ⟨υ, fun kx x1 => ?_, u2, hf.tr (u3.mo (fun _ q => nomatch q) (by decide))⟩
        rw [L_X12_meetsAll_24, show hEd (e :: r) = nI e.1 from rfl, if_neg (nI_n1' (by omega)), u1, bd2_s, if_pos rfl]
      | some Q =>
        obtain ⟨τ1, u1, u2, u3⟩ := y1 Q ht
        obtain ⟨⟨m1, t1⟩, t2, t3, t4, t5⟩ := tm_ok ht hK.1 hK.2.1
        have iL := (idx_lt t2).1
        have hR1 : rBf z.2 τ1 := hR.g u3 (by decide) (by decide)
        obtain ⟨τ2, v1, v2, v3⟩ := x_meets hR1 (x := idx e.2 Q) (by omega) (some (p, e.1 / 2048))
        have v1' : L_X12_meets (nI (idx e.2 Q)) (nI p) (nI (e.1 / 2048)) τ1 = some τ2 := v1
        have hf2 : fm thM thK σ0 τ2 := (hf.tr (u3.mo (by decide) (by decide))).tr (v3.mo (by decide) (by decide))
        have hr2 : r3 Q τ2 := u2.f v3 (by decide) (by decide)
        have hK2 := hK.s (w := some (p, e.1 / 2048)) ht
        have hp2 : p < Q.length := by rw [t1, List.length_append]; omega
        have hc2 : Q.getD p 0 = c := by rw [t1, getD_app hp]; exact hc
        obtain ⟨ed0, -, -⟩ := x_G2 hM hq hO h3 hg1 hg ha (h0.f hf2 (by decide) (by decide)) hr2 t4 hp2 (by rw [hc2]; exact hV)
        have ed := ed0 F (e.1 + 1) hF (by omega)
        have ed : L_X12_edgeFrom F (nI p) (nI (e.1 + 1)) τ2 = some (fEd (e.1 + 1) (elB (bC M v g) g (Q.getD p 0))) := ed
        rw [hc2] at ed
        rw [hel] at so
        have so1 := List.pairwise_append.mp so
        have so2 := List.pairwise_cons.mp so1.2.1
        have ed2 : fEd (e.1 + 1) (elB (bC M v g) g c) = hEd r := by
          rw [hel, show pre ++ e :: r = (pre ++ [e]) ++ r by simp]
          rw [fEd_a (fun x hx => by
            rcases List.mem_append.mp hx with q | q
            · have := so1.2.2 x q e List.mem_cons_self; omega
            · rw [List.mem_singleton.mp q]; omega)]
          exact fEd_b (fun x hx => so2.1 x hx)
        rw [ed2] at ed
        have step : ∀ kx x1, L_X12_meetsAll_24 F x1 (nI p) kx (n + 1) (hEd (e :: r)) τ = L_X12_meetsAll_24 F x1 (nI p) kx n (hEd r) τ2 := by
          intro kx x1
          rw [L_X12_meetsAll_24, show hEd (e :: r) = nI e.1 from rfl, if_neg (nI_n1' (by omega)), u1, bd2_s, if_neg (nI_n1' (by omega)), show nI e.1 / 2048 = nI (e.1 / 2048) from nI_dv (by omega) (by decide), v1', bd_s, nI_1, ed, bd_s]
        have I := ih (pre ++ [e]) n (Q, bm (idx e.2 Q) (some (p, e.1 / 2048)) z.2) τ2 (by rw [hel]; simp) (by rw [List.length_cons] at hn; omega) hf2 hK2 hr2 v2 hp2 hc2
        revert I
        show (match jE p r (Q, bm (idx e.2 Q) (some (p, e.1 / 2048)) z.2) with
          | none => _
          | some y => _) → (match jE p r (Q, bm (idx e.2 Q) (some (p, e.1 / 2048)) z.2) with
          | none => _
          | some y => _)
        cases jE p r (Q, bm (idx e.2 Q) (some (p, e.1 / 2048)) z.2) with
        | none => exact fun ⟨υ, i1, i2, i3⟩ => ⟨υ, fun kx x1 => (step kx x1).trans (i1 kx x1), i2, i3⟩
        | some y => exact fun ⟨υ, i1, i2, i3, i4⟩ => ⟨υ, fun kx x1 => (step kx x1).trans (i1 kx x1), i2, i3, i4⟩
theorem x_jA {M M' : aM} {v : zS × (Nat → Nat)} {g a F : Nat} {σ0 : sS} (hM : mOk g M) (hq : cpl M' g = some v) (hO : cO M' g v) (h3 : sM3 v.2 (zN v.1 * g)) (hg1 : 1 ≤ g) (hg : g ≤ 3) (ha : a < 3) (hF : 6200 < F) (h0 : rG2 M M' g a σ0) : ∀ (n m k : Nat) (z : List Nat × bS) (τ : sS), n ≤ m → 1000 < n + k → k ≤ z.1.length → fm thM thK σ0 τ → jK z → r3 z.1 τ → rBf z.2 τ → (∀ c, c ∈ z.1 → cV M v c) → match jA (elB (bC M v g) g) n k z with
    | none => ∃ υ, (∀ kx, (∀ σ, kx σ = some σ) → L_X12_meetsAll_2 F kx m (nI k) τ = some υ) ∧ vI υ 90 48 = 0 ∧ fm thM thK σ0 υ
    | some y => ∃ υ, (∀ kx, L_X12_meetsAll_2 F kx m (nI k) τ = kx υ) ∧ r3 y.1 υ ∧ rBf y.2 υ ∧ fm thM thK σ0 υ := by
  intro n
  induction n with
  | zero => intro m k z τ _ h1 h2 _ hK; have := hK.2.1; omega
  | succ n ih =>
    intro m k z τ hm h1 h2 hf hK hr hR hV
    obtain ⟨m', rfl⟩ : ∃ m', m = m' + 1 := ⟨m - 1, by omega⟩
    have hl := hK.2.1
    have hlen : z.2.1.length = z.1.length := by rw [hK.2.2, List.length_range]
    rw [jA]
    by_cases c : k < z.1.length
    · rw [if_pos c]
      have cm := getD_mem c
      have ek : z.2.1.getD k 0 = k := by
        rw [hK.2.2, List.getD_eq_getElem?_getD, List.getElem?_range c]; rfl
      have e149 := hR.2.1 k (by omega)
      rw [ek] at e149
      obtain ⟨ed0, -, -⟩ := x_G2 hM hq hO h3 hg1 hg ha (h0.f hf (by decide) (by decide)) hr hl c (hV _ cm)
      have ed := ed0 F 0 (by omega) (by omega)
      have ed : L_X12_edgeFrom F (nI k) 0 τ = some (fEd 0 (elB (bC M v g) g (z.1.getD k 0))) := ed
      rw [fEd_b (fun _ _ => Nat.zero_le _)] at ed
      have ll : (elB (bC M v g) g (z.1.getD k 0)).length ≤ 6144 := by
        have so := elB_so (b := bC M v g) (g := g) (p := z.1.getD k 0) (fun s hs => (bC_o (M' := M) h3 (hV _ cm) hs).1)
        have e6 : ∀ e, e ∈ elB (bC M v g) g (z.1.getD k 0) → e.1 < 6144 := fun e he => by
          obtain ⟨s, t, k, w1, w2, w3, w4⟩ := elB_mem.mp he
          have := blk_b (bC_o (M' := M) h3 (hV _ cm) w1).1 (blk_mem.mpr ⟨t, k, w2, w3, w4⟩)
          omega
        have nd : ((elB (bC M v g) g (z.1.getD k 0)).map (fun e => e.1)).Nodup := List.pairwise_map.mpr (so.imp (fun {a b} h => Nat.ne_of_lt h))
        have := nodup_len nd (fun x hx => by
          obtain ⟨e, e1, e2⟩ := List.mem_map.mp hx
          rw [← e2]; exact e6 e e1)
        rw [List.length_map] at this
        exact this
      have head : ∀ kx, L_X12_meetsAll_2 F kx (m' + 1) (nI k) τ = L_X12_meetsAll_24 F (nI k) (nI k) (fun σ6 => L_X12_meetsAll_2 F kx m' (nI (k + 1)) σ6) F (hEd (elB (bC M v g) g (z.1.getD k 0))) τ := by
        intro kx
        rw [L_X12_meetsAll_2, hR.1, if_neg (nI_ge (by omega) (by omega)), inb_n (by omega) (by omega), grd_s, bnd_s, nI_clamp (by omega), e149, ed, bd_s, nI_1]
      have I := x_jE (p := k) (F := F) hM hq hO h3 hg1 hg ha (by omega) h0 (hV _ cm) (elB (bC M v g) g (z.1.getD k 0)) [] F z τ rfl (by omega) hf hK hr hR c rfl
      revert I
      cases hj : jE k (elB (bC M v g) g (z.1.getD k 0)) z with
      | none =>
        rintro ⟨υ, i1, i2, i3⟩
        exact ⟨υ, fun kx _ => (head kx).trans (i1 _ _), i2, i3⟩
      | some u =>
        rintro ⟨υ1, i1, i2, i3, i4⟩
        obtain ⟨e1, ⟨m2, e2⟩, e3, e4, -⟩ := jE_ok _ _ _ hK hj
        have I2 := ih m' (k + 1) u υ1 (by omega) (by omega) (by rw [e2, List.length_append]; omega) i4 e1 i2 i3 (fun d hd => by
          rcases e4 d hd with q | ⟨e, q1, q2⟩
          · exact hV d q
          · obtain ⟨s, t, j, w1, w2, w3, w4⟩ := elB_mem.mp q1
            rw [← q2, w4]
            exact (bC_V hM hO (hV _ cm) w1 w2 w3).1)
        revert I2
        show (match jA (elB (bC M v g) g) n (k + 1) u with
          | none => _
          | some y => _) → (match jA (elB (bC M v g) g) n (k + 1) u with
          | none => _
          | some y => _)
        cases jA (elB (bC M v g) g) n (k + 1) u with
        | none => exact fun ⟨υ, j1, j2, j3⟩ => ⟨υ, fun kx hk => ((head kx).trans (i1 _ _)).trans (j1 kx hk), j2, j3⟩
        | some y => exact fun ⟨υ, j1, j2, j3, j4⟩ => ⟨υ, fun kx => ((head kx).trans (i1 _ _)).trans (j1 kx), j2, j3, j4⟩
    · rw [if_neg c]
      refine ⟨τ, fun kx => ?_, hr, hR, hf⟩
      rw [L_X12_meetsAll_2, hR.1, if_pos (nI_le (by omega) (by omega))]
theorem x_63 {F : Nat} {x1 : Int32} (kx : sS → Option (Int32 × sS)) : ∀ (m k f : Nat) (σ : sS), k + m = 2400 → m < f → ∃ τ, L_X12_within_63 F x1 kx f (nI k) σ = kx τ ∧ (∀ j, k ≤ j → j < 2400 → vI τ 146 j = -1) ∧ (∀ j, j < k → vI τ 146 j = vI σ 146 j) ∧ fm [146] [] σ τ := by
  intro m
  induction m with
  | zero =>
    intro k f σ hk hf
    obtain ⟨f', rfl⟩ : ∃ f', f = f' + 1 := ⟨f - 1, by omega⟩
    refine ⟨σ, ?_, fun j a b => by omega, fun _ _ => rfl, fm.rf⟩
    rw [L_X12_within_63, if_pos (show (2400 : Int32) ≤ nI k from nI_le (a := 2400) (by omega) (by omega))]
  | succ m ih =>
    intro k f σ hk hf
    obtain ⟨f', rfl⟩ : ∃ f', f = f' + 1 := ⟨f - 1, by omega⟩
    obtain ⟨τ, t1, t2, t3, t4⟩ := ih (k + 1) f' (uI σ 146 k (-1)) (by omega) (by omega)
    refine ⟨τ, ?_, fun j a b => ?_, fun j hj => ?_, (fm.uI (Or.inl (by decide))).tr t4⟩
    · rw [L_X12_within_63, if_neg (show ¬ (2400 : Int32) ≤ nI k from nI_ge (b := 2400) (by omega) (by decide)), inb_n (by omega) (by omega), grd_s, bnd_s, nI_clamp (by omega), nI_1]
      exact t1
    · by_cases e : j = k
      · rw [t3 j (by omega), e, vI_e]
      · exact t2 j (by omega) b
    · rw [t3 j (by omega)]
      exact vI_q (fun q => by omega)
theorem bI_l {p : Nat → Bool} : ∀ (k i : Nat) (S : bS), bI p (k + 1) i S = if p (i + k) = true then bm (i + k) none (bI p k i S) else bI p k i S
  | 0, i, S => rfl
  | k + 1, i, S => by
    rw [bI, bI_l k (i + 1) _, show i + 1 + k = i + (k + 1) by omega]
    rfl
theorem bI_p {p p' : Nat → Bool} : ∀ (k i : Nat) (S : bS), (∀ x, i ≤ x → x < i + k → p x = p' x) → bI p k i S = bI p' k i S
  | 0, i, S, _ => rfl
  | k + 1, i, S, h => by
    rw [bI, bI, h i (by omega) (by omega), bI_p k (i + 1) _ (fun x a b => h x (by omega) (by omega))]
def jI (M : aM) (i : Nat) : List Nat × bS := (fl6 (mB M) i, bI (fun _ => true) (fl6 (mB M) i).length 0 bS0)
theorem jI_K {M : aM} {i : Nat} (hi : i ≤ 4) : jK (jI M i) := by
  have hl := fl6_l (X := mB M) (i := i)
  refine ⟨nd_map (fun a b e => by omega) _ (nd_fl _ List.nodup_range), by show (fl6 (mB M) i).length ≤ 1000; omega, ?_⟩
  show (bI (fun _ => true) (fl6 (mB M) i).length 0 bS0).1 = List.range (fl6 (mB M) i).length
  rw [bI_r (n := (fl6 (mB M) i).length) (fun _ _ => rfl) _ 0 bS0 (by omega) rfl, Nat.zero_add]
theorem x_89 {M : aM} {a F : Nat} (ha : a < 3) (hB : mB M < 16) (kx : sS → Option (Int32 × sS)) : ∀ (k i n : Nat) (τ : sS), i + k = 4 → k < n → vI τ 115 a = nI (mB M) → r3 (jI M i).1 τ → rBf (jI M i).2 τ → ∃ υ, L_X12_within_89 F (nI a) kx n (nI i) τ = kx υ ∧ r3 (jI M 4).1 υ ∧ rBf (jI M 4).2 υ ∧ fm thM thK τ υ := by
  intro k
  induction k with
  | zero =>
    intro i n τ hi hn h hr hR
    obtain ⟨n', rfl⟩ : ∃ n', n = n' + 1 := ⟨n - 1, by omega⟩
    have e4 : i = 4 := by omega
    rw [e4] at hr hR
    refine ⟨τ, ?_, hr, hR, fm.rf⟩
    rw [L_X12_within_89, if_pos (by rw [e4]; decide)]
  | succ k ih =>
    intro i n τ hi hn h hr hR
    obtain ⟨n', rfl⟩ : ∃ n', n = n' + 1 := ⟨n - 1, by omega⟩
    have head : L_X12_within_89 F (nI a) kx (n' + 1) (nI i) τ = if (mB M).testBit i = true then (bd2 (L_X12_three (nI i) 0 0 τ) (fun rq26 σ27 => bd (L_X12_meets rq26 (-1) (-1) σ27) (fun σ29 => L_X12_within_89 F (nI a) kx n' (nI (i + 1)) σ29))) else (L_X12_within_89 F (nI a) kx n' (nI (i + 1)) τ) := by
      rw [L_X12_within_89, if_neg (show ¬ (4 : Int32) ≤ nI i from nI_ge (b := 4) (by omega) (by decide)), inb_n (by omega) (by omega), grd_s, nI_clamp (by omega), h, b_bit _ hB i (by omega), nI_1]
      by_cases d : (mB M).testBit i = true
      · rw [if_pos d, if_pos d, if_pos rfl]
      · rw [if_neg d, if_neg d, if_neg (by decide)]
    have hl := fl6_l (X := mB M) (i := i)
    by_cases d : (mB M).testBit i = true
    · have hn6 : (i * 300 + 0) * 2 + 0 ∉ fl6 (mB M) i := fun q => by
        obtain ⟨t, t1, t2⟩ := fl6_m q
        omega
      have e6 : fl6 (mB M) (i + 1) = fl6 (mB M) i ++ [(i * 300 + 0) * 2 + 0] := by
        rw [fl6_s, if_pos d, show (i * 300 + 0) * 2 + 0 = i * 600 by omega]
      have et : tm ((i * 300 + 0) * 2 + 0) (fl6 (mB M) i) = some (fl6 (mB M) (i + 1)) := by
        unfold tm
        rw [if_neg hn6, if_neg (by omega), e6]
      obtain ⟨T1, -, -⟩ := x_three (t := i) (n := 0) (m := 0) hr (by show (fl6 (mB M) i).length ≤ 1000; omega) (by omega) (by omega) (by omega)
      obtain ⟨υ1, u1, u2, u3⟩ := T1 _ et
      have ei : idx ((i * 300 + 0) * 2 + 0) (fl6 (mB M) (i + 1)) = (fl6 (mB M) i).length := by rw [e6, idx_n hn6]
      rw [ei] at u1
      obtain ⟨υ2, v1, v2, v3⟩ := x_meets (hR.g u3 (by decide) (by decide)) (x := (fl6 (mB M) i).length) (by omega) none
      have v1 : L_X12_meets (nI (fl6 (mB M) i).length) (-1) (-1) υ1 = some υ2 := v1
      have eS : bm (fl6 (mB M) i).length none (jI M i).2 = (jI M (i + 1)).2 := by
        show _ = bI (fun _ => true) (fl6 (mB M) (i + 1)).length 0 bS0
        rw [e6, List.length_append]
        show _ = bI (fun _ => true) ((fl6 (mB M) i).length + 1) 0 bS0
        rw [bI_l, if_pos rfl, Nat.zero_add]
        rfl
      rw [eS] at v2
      obtain ⟨υ, r1, r2, r3', r4⟩ := ih (i + 1) n' υ2 (by omega) (by omega) ((v3.r (by decide) (by decide)).trans ((u3.r (by decide) (by decide)).trans h)) (u2.f v3 (by decide) (by decide)) v2
      refine ⟨υ, ?_, r2, r3', ((u3.mo (by decide) (by decide)).tr (v3.mo (by decide) (by decide))).tr r4⟩
      have u1 : L_X12_three (nI i) 0 0 τ = some (nI (fl6 (mB M) i).length, υ1) := u1
      rw [head, if_pos d, u1, bd2_s, v1, bd_s]
      exact r1
    · have e6 : fl6 (mB M) (i + 1) = fl6 (mB M) i := by rw [fl6_s, if_neg d, List.append_nil]
      have eJ : jI M (i + 1) = jI M i := by unfold jI; rw [e6]
      obtain ⟨υ, r1, r2, r3', r4⟩ := ih (i + 1) n' τ (by omega) (by omega) h (by rw [eJ]; exact hr) (by rw [eJ]; exact hR)
      refine ⟨υ, ?_, r2, r3', r4⟩
      rw [head, if_neg d]
      exact r1
theorem jI_4 {M : aM} (hB : mB M < 16) : jI M 4 = j0 M := by
  have e : fl6 (mB M) 4 = (sts (mB M)).map (fun t => t * 600) := rfl
  unfold jI j0
  rw [e]
  congr 1
  rw [List.length_map]
  exact bI_p _ _ _ (fun x _ hx => (decide_eq_true (by omega)).symm)
theorem RI.th {A : aS} {σ : sS} {x : Int32} (h : RI A σ) : RI (aThr A x) (uI σ 90 70 x) := by
  have f : fm [] [70] σ (uI σ 90 70 x) := fm.uI (Or.inr ⟨rfl, by decide⟩)
  obtain ⟨⟨⟨t1, t2, t3⟩, ⟨a1, a2, a3, a4⟩, ⟨m1, m2, m3, m4, m5⟩, hs⟩, hB⟩ := h
  have k : ∀ {i : Nat}, i ≠ 70 → vI (uI σ 90 70 x) 90 i = vI σ 90 i := fun hi => vI_q (fun q => hi q.2)
  have r : ∀ {a j : Nat}, a ≠ 90 → vI (uI σ 90 70 x) a j = vI σ a j := fun h => vI_q (fun q => h q.1)
  refine ⟨⟨⟨t1, (k (by decide)).trans t2, fun j hj => (r (by decide)).trans (t3 j hj)⟩, ⟨(k (by decide)).trans a1, (k (by decide)).trans a2, (k (by decide)).trans a3, vI_e⟩, ⟨m1, m2, (k (by decide)).trans m3, (k (by decide)).trans m4, fun a ha => ?_⟩, ?_⟩, hB.f f (fun _ _ q => nomatch q) (fun q => nomatch q) (by decide) rfl⟩
  · obtain ⟨n0, n1, n2, n3, n4⟩ := m5 a ha
    exact ⟨n0, (r (by decide)).trans n1, (r (by decide)).trans n2, (r (by decide)).trans n3, fun s f hs hf => (r (by decide)).trans (n4 s f hs hf)⟩
  · unfold rS at hs ⊢
    show match aSh A with
      | none => vI (uI σ 90 70 x) 90 71 = 0
      | some w => _
    cases hq : aSh A with
    | none => rw [hq] at hs; exact (k (by decide)).trans hs
    | some w =>
      rw [hq] at hs
      obtain ⟨s1, s2, s3, s4, s5, s6, s7⟩ := hs
      exact ⟨(k (by decide)).trans s1, s2, s3, (k (by decide)).trans s4, (k (by decide)).trans s5, fun j hj => (r (by decide)).trans (s6 j hj), fun j hj => (r (by decide)).trans (s7 j hj)⟩
theorem x_within {A : aS} {σ : sS} {F : Nat} (hF : 40000000 < F) (h : RI A σ) (hI : aI A) (a b : Int32) : xRI (sp_within A a b) (L_X12_within F a b σ) := by
  have h := h.z 0
  have h3 := h.1.c.1
  have hg := h.1.2.2.1.2.1
  unfold L_X12_within sp_within
  simp only [bnd_s]
  rw [x_isAuto h.1, bd_s]
  generalize uI σ 90 0 0 = ρ at h ⊢
  by_cases ha : aOk (aC A) a = true
  · obtain ⟨i, hi, rfl⟩ := aOk_t ha (by omega)
    rw [if_pos ha, if_neg i1n0, x_isAuto h.1, bd_s]
    by_cases hb : aOk (aC A) b = true
    · obtain ⟨k, hk, rfl⟩ := aOk_t hb (by omega)
      rw [if_pos hb, if_neg i1n0, if_pos ⟨ha, hb⟩, nI_clamp (show i < 2 ^ 31 by omega), nI_clamp (show k < 2 ^ 31 by omega)]
      have hG1 : 1 ≤ aG A := by
        rcases hI with q | q
        · omega
        · exact q
      rcases x_std (F := F) (by omega) h hI hk with ⟨hq, τ, t1, t2, -⟩ | ⟨v, τ, hq, t1, t2, t3, t4, -⟩
      · rw [hq, t1, bd2_s, if_pos rfl]
        exact xRI.r t2 3
      · rw [hq, t1, bd2_s, if_neg i1n0]
        have hmi := t2.1.2.2.1.2.2.2.2 i hi
        have hmk := t2.1.2.2.1.2.2.2.2 k hk
        have c3 := cpl_3 hmk.1 hg hq
        have p4 : 2 ^ mN (aMa A i) ≤ 2 ^ 4 := Nat.pow_le_pow_right (by decide) hmi.1.2.1
        have hB4 := hmi.1.2.2.1
        have f0 : fm [] [37, 38, 47, 48] τ (uI (uI (uI (uI τ 90 37 2) 90 38 (nI i)) 90 47 0) 90 48 1) := (((fm.uI (Or.inr ⟨rfl, by decide⟩)).tr (fm.uI (Or.inr ⟨rfl, by decide⟩))).tr (fm.uI (Or.inr ⟨rfl, by decide⟩))).tr (fm.uI (Or.inr ⟨rfl, by decide⟩))
        have w37 : vI (uI (uI (uI (uI τ 90 37 2) 90 38 (nI i)) 90 47 0) 90 48 1) 90 37 = 2 := by
          rw [vI_q (fun q => absurd q.2 (by decide)), vI_q (fun q => absurd q.2 (by decide)), vI_q (fun q => absurd q.2 (by decide)), vI_e]
        have w38 : vI (uI (uI (uI (uI τ 90 37 2) 90 38 (nI i)) 90 47 0) 90 48 1) 90 38 = nI i := by
          rw [vI_q (fun q => absurd q.2 (by decide)), vI_q (fun q => absurd q.2 (by decide)), vI_e]
        have w47 : vI (uI (uI (uI (uI τ 90 37 2) 90 38 (nI i)) 90 47 0) 90 48 1) 90 47 = 0 := by
          rw [vI_q (fun q => absurd q.2 (by decide)), vI_e]
        have w48 : vI (uI (uI (uI (uI τ 90 37 2) 90 38 (nI i)) 90 47 0) 90 48 1) 90 48 = 1 := vI_e
        generalize uI (uI (uI (uI τ 90 37 2) 90 38 (nI i)) 90 47 0) 90 48 1 = τ1 at f0 w37 w38 w47 w48 ⊢
        have g0 : rG2 (aMa A i) (aMa A k) (aG A) i τ1 := by
          refine ⟨w37, w38, ?_, ?_, fun s f hs hf => ?_, (rCpl.s t3 hq).f f0 (fun _ _ q => nomatch q) (fun q => nomatch q) (by decide)⟩
          · exact (f0.f (by decide) (fun q => nomatch q)).trans t2.1.2.2.1.2.2.2.1
          · exact (f0.r (fun q => nomatch q) (by decide)).trans hmi.2.2.2.1
          · exact (f0.r (fun q => nomatch q) (by decide)).trans (hmi.2.2.2.2 s f hs hf)
        obtain ⟨τ2, e1, e2, -, e4⟩ := x_63 (F := F) (x1 := nI i) (fun σ19 => bd (L_X12_meetsNone F σ19) (fun σ21 => L_X12_within_89 F (nI i) (fun σ22 => bd (L_X12_meetsAll F σ22) (fun σ24 => if (vI σ24 90 48) = 0 then (bd2 (L_X12_refused 3 σ24) (fun rq38 σ39 => some ((rq38, σ39)))) else (bnd (uI σ24 90 70 (vI σ24 90 47)) (fun σ26 => bd2 (L_X12_shows F σ26) (fun rq28 σ29 => if rq28 = 0 then (bd2 (L_X12_good 1 σ29) (fun rq32 σ33 => some ((rq32, σ33)))) else (bd2 (L_X12_good 0 σ29) (fun rq35 σ36 => some ((rq35, σ36))))))))) F 0 σ21)) 2400 0 F τ1 (by omega) (by omega)
        have e1 : L_X12_within_63 F (nI i) (fun σ19 => bd (L_X12_meetsNone F σ19) (fun σ21 => L_X12_within_89 F (nI i) (fun σ22 => bd (L_X12_meetsAll F σ22) (fun σ24 => if (vI σ24 90 48) = 0 then (bd2 (L_X12_refused 3 σ24) (fun rq38 σ39 => some ((rq38, σ39)))) else (bnd (uI σ24 90 70 (vI σ24 90 47)) (fun σ26 => bd2 (L_X12_shows F σ26) (fun rq28 σ29 => if rq28 = 0 then (bd2 (L_X12_good 1 σ29) (fun rq32 σ33 => some ((rq32, σ33)))) else (bd2 (L_X12_good 0 σ29) (fun rq35 σ36 => some ((rq35, σ36))))))))) F 0 σ21)) F 0 τ1 = _ := e1
        simp only [bnd_s] at e1
        rw [e1]
        obtain ⟨υ1, n1, n2, n3⟩ := x_meetsNone (F := F) (by omega) τ2
        rw [n1, bd_s]
        have f1 : fm thM thK τ1 υ1 := (e4.mo (by decide) (fun _ q => nomatch q)).tr (n3.mo (by decide) (by decide))
        have hr0 : r3 (jI (aMa A i) 0).1 υ1 := by
          refine ⟨?_, ?_, fun j hj => (nomatch hj), fun c hc => ?_⟩
          · exact (n3.f (by decide) (by decide)).trans ((e4.f (fun q => nomatch q) (by decide)).trans w47)
          · exact (n3.f (by decide) (by decide)).trans ((e4.f (fun q => nomatch q) (by decide)).trans w48)
          · rw [n3.r (by decide) (by decide), e2 c (Nat.zero_le _) hc, if_neg (fun q => nomatch q)]
        have h115 : vI υ1 115 i = nI (mB (aMa A i)) := (f1.r (by decide) (by decide)).trans ((f0.r (fun q => nomatch q) (by decide)).trans hmi.2.2.1)
        obtain ⟨υ2, a1, a2, a3, a4⟩ := x_89 (M := aMa A i) (a := i) (F := F) (by omega) (by omega) (fun σ22 => bd (L_X12_meetsAll F σ22) (fun σ24 => if (vI σ24 90 48) = 0 then (bd2 (L_X12_refused 3 σ24) (fun rq38 σ39 => some ((rq38, σ39)))) else (bd2 (L_X12_shows F (uI σ24 90 70 (vI σ24 90 47))) (fun rq28 σ29 => if rq28 = 0 then (bd2 (L_X12_good 1 σ29) (fun rq32 σ33 => some ((rq32, σ33)))) else (bd2 (L_X12_good 0 σ29) (fun rq35 σ36 => some ((rq35, σ36)))))))) 4 0 F υ1 (by omega) (by omega) h115 hr0 n2
        have a1 : L_X12_within_89 F (nI i) (fun σ22 => bd (L_X12_meetsAll F σ22) (fun σ24 => if (vI σ24 90 48) = 0 then (bd2 (L_X12_refused 3 σ24) (fun rq38 σ39 => some ((rq38, σ39)))) else (bd2 (L_X12_shows F (uI σ24 90 70 (vI σ24 90 47))) (fun rq28 σ29 => if rq28 = 0 then (bd2 (L_X12_good 1 σ29) (fun rq32 σ33 => some ((rq32, σ33)))) else (bd2 (L_X12_good 0 σ29) (fun rq35 σ36 => some ((rq35, σ36)))))))) F 0 υ1 = _ := a1
        rw [a1]
        rw [jI_4 (by omega)] at a2 a3
        obtain ⟨jk1, jk2⟩ := j0_ok (M := aMa A i) (by omega)
        have hV0 : ∀ c, c ∈ (j0 (aMa A i)).1 → cV (aMa A i) v c := fun c hc => by
          obtain ⟨t, t1, t2, t3⟩ := jk2 c hc
          have := tb_lt hB4 t2
          have hN := t4.1.1
          rw [t3]
          exact ⟨by unfold cdS; omega, by unfold cdN; omega⟩
        have I := x_jA (F := F) hmi.1 hq t4 c3 hG1 hg (by omega) (by omega) g0 3001 F 0 (j0 (aMa A i)) υ2 (by omega) (by omega) (Nat.zero_le _) (f1.tr a4) jk1 a2 a3 hV0
        have RA : ∀ {υ : sS}, fm thM thK τ1 υ → RI A υ := fun {υ} f => by
          have f2 : fm thM (37 :: 38 :: thK) τ υ := (f0.mo (fun _ q => nomatch q) (by decide)).tr (f.mo (fun _ q => q) (by decide))
          exact ⟨t2.1.keep f2 (by decide) (by decide) (by decide), t2.2.f f2 (by decide) (by decide) (by decide) rfl⟩
        show xRI (match thr (aMa A i) v (aG A) with
          | none => aRef A 3
          | some z => _) _
        have et : thr (aMa A i) v (aG A) = jA (elB (bC (aMa A i) v (aG A)) (aG A)) 3001 0 (j0 (aMa A i)) := rfl
        revert I
        cases hz : jA (elB (bC (aMa A i) v (aG A)) (aG A)) 3001 0 (j0 (aMa A i)) with
        | none =>
          rintro ⟨υ, r1, r2, r3'⟩
          have em : L_X12_meetsAll F υ2 = some υ := r1 (fun σ1 => some σ1) (fun _ => rfl)
          rw [et, hz, em, bd_s, if_pos r2]
          exact xRI.r (RA r3') 3
        | some z =>
          rintro ⟨υ, r1, r2, r3', r4⟩
          have em : L_X12_meetsAll F υ2 = some υ := r1 (fun σ1 => some σ1)
          have hz2 : thr (aMa A i) v (aG A) = some z := et.trans hz
          rw [hz2, em, bd_s, if_neg (by rw [r2.2.1]; decide), r2.1]
          obtain ⟨q1, q2, q3, q4, q5, q6⟩ := thr_ok hmi.1 t4 c3 hg hz2
          have f5 : fm [] [70] υ (uI υ 90 70 (nI z.1.length)) := fm.uI (Or.inr ⟨rfl, by decide⟩)
          have R5 := (RA r4).th (x := nI z.1.length)
          have hr5 : r3 z.1 (uI υ 90 70 (nI z.1.length)) := r2.f f5 (fun _ _ q => nomatch q) (by decide)
          have hB5 : rBf z.2 (uI υ 90 70 (nI z.1.length)) := r3'.g f5 (fun _ _ q => nomatch q) (by decide)
          have g5 : rG2 (aMa A i) (aMa A k) (aG A) i (uI υ 90 70 (nI z.1.length)) := (g0.f r4 (by decide) (by decide)).f f5 (fun _ _ q => nomatch q) (by decide)
          generalize uI υ 90 70 (nI z.1.length) = υ5 at R5 hr5 hB5 g5
          have hT := G2_ok hmi.1 t4 c3 hg hz2
          obtain ⟨T1, T2, T3⟩ := gT_ok hT
          rw [← q6] at T1 T2 T3
          have st : ∀ ω, fm shM shK υ5 ω → ∀ p, p ∈ z.2.1 → (rEd (elB (bT (aMa A i) v (aG A) z.1) (aG A)) p ω ∧ ∀ e, e ∈ elB (bT (aMa A i) v (aG A) z.1) (aG A) p → L_X12_goesBy (nI p) (nI e.1) ω = some (nI e.2, ω)) ∧ L_X12_isMarked (nI p) ω = some (if GM (G2 (aMa A i) v (aG A) z.1) p = true then 1 else 0) := by
            intro ω f p hp
            have hp : p < z.1.length := by
              rw [q1.2.2] at hp; exact List.mem_range.mp hp
            obtain ⟨x1, x2, x3⟩ := x_G2 hmi.1 hq t4 c3 hG1 hg (by omega) (g5.f f (by decide) (by decide)) (hr5.f f (by decide) (by decide)) q1.2.1 hp (q2 _ (getD_mem hp))
            refine ⟨⟨fun F' c hF' hc => ?_, fun e he => ?_⟩, x3⟩
            · have := x1 F' c hF' hc
              rw [elB_T]
              have e7 : ∀ l : List (Nat × Nat), fEd c (l.map (rno z.1)) = fEd c l := by
                intro l
                induction l with
                | nil => rfl
                | cons e l ih => rw [List.map_cons, fEd, fEd, ih]; rfl
              rw [e7]; exact this
            · rw [elB_T] at he
              obtain ⟨e', e1', e2'⟩ := List.mem_map.mp he
              have := (x2 e' e1').2.2 (q3 _ (getD_mem hp) e' e1')
              rw [← e2']
              exact this
          obtain ⟨ω, s1, s2, s3⟩ := x_shows (F := F) (S := z.2) (V := gV (G2 (aMa A i) v (aG A) z.1)) (el := elB (bT (aMa A i) v (aG A) z.1) (aG A)) (mk := GM (G2 (aMa A i) v (aG A) z.1)) hT.2.2.1 T2 T3 (fun ω f p hp => (st ω f p hp).1) (fun ω f p hp => (st ω f p hp).2) (fun x hx => Nat.lt_of_lt_of_le hx.1 hT.2.1) hF hB5 T1
          rw [s1, bd2_s]
          have eg : gSh (G2 (aMa A i) v (aG A) z.1) (elB (bT (aMa A i) v (aG A) z.1) (aG A)) = shS (elB (bT (aMa A i) v (aG A) z.1) (aG A)) (GM (G2 (aMa A i) v (aG A) z.1)) z.2 := by
            unfold gSh
            rw [← q6]
          show xRI (shA (aThr A (nI z.1.length)) (gSh (G2 (aMa A i) v (aG A) z.1) (elB (bT (aMa A i) v (aG A) z.1) (aG A)))) _
          rw [eg]
          exact shA_x rfl (R5.sh s3 s2)
    · rw [if_neg hb, if_pos rfl, if_neg (fun q => hb q.2)]
      exact xRI.r h 1
  · rw [if_neg ha, if_pos rfl, if_neg (fun q => ha q.1)]
    exact xRI.r h 1
