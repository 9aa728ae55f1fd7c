/-! the complement: the component lays it -/
def cSt (c k : Nat) (S : Nat → Nat) (σ : sS) : Prop := vU σ (c + 6) = nI k ∧ ∀ j, j < k → vI σ (c + 6) j = nI (S j)
def L3 (c : Nat) : List Nat := [c, c + 3, 26, c + 9, 15, 16, c + 6]
theorem L23 {c : Nat} : ∀ x, x ∈ L2 c → x ∈ L3 c := by
  intro x hx
  unfold L2 at hx
  unfold L3
  simp only [List.mem_cons, List.not_mem_nil, or_false] at hx ⊢
  omega
theorem L3_n {c b : Nat} (h0 : b ≠ c) (h3 : b ≠ c + 3) (h6 : b ≠ 26) (h9 : b ≠ c + 9) (h15 : b ≠ 15) (h16 : b ≠ 16) (h : b ≠ c + 6) : b ∉ L3 c := by
  unfold L3
  simp only [List.mem_cons, List.not_mem_nil, or_false]
  omega
theorem cAu.l3 {c G : Nat} {M : aM} {σ τ : sS} (hc : 33 ≤ c ∧ c ≤ 35) (h : cAu c G M σ) (f : fz (L3 c) σ τ) : cAu c G M τ := h.z f (L3_n (by omega) (by omega) (by omega) (by omega) (by omega) (by omega) (by omega)) (L3_n (by omega) (by omega) (by omega) (by omega) (by omega) (by omega) (by omega))
/-- a start is pushed -/
theorem cZ.st {B : Nat × Nat} {c k : Nat} {x : Int32} {S : Nat → Nat} {z : zS} {σ : sS} (hc : 33 ≤ c ∧ c ≤ 35) (h : cZ B c z σ) (hS : cSt c k S σ) (hk : k ≤ 900) : cZ B c z (rqu σ (c + 6) x) ∧ psh (c + 6) k x σ (rqu σ (c + 6) x) := by
  obtain ⟨a1, a2, a3, ⟨a4, a5⟩, ⟨i1, i2, i3⟩, a6, a7, a8, a9⟩ := h
  obtain ⟨q1, q2, q3, q4⟩ := c9 hc
  have hC : vC σ (c + 6) ≤ 270000 := by
    have := a9.1 _ q3
    unfold lim at this
    split at this <;> omega
  have hp := rqu_p (x := x) hS.1 (by omega) hC
  obtain ⟨p1, p2, p3, p4, p5, p6, p7, p8, p9⟩ := id hp
  have r : ∀ {b j : Nat}, b ≠ c + 6 → vI (rqu σ (c + 6) x) b j = vI σ b j := fun hb => p3 _ _ hb
  have e26 : ∀ {j : Nat}, vI (rqu σ (c + 6) x) 26 j = vI σ 26 j := fun {j} => p3 26 j (by omega)
  refine ⟨⟨(r (by omega)).trans a1, (r (by omega)).trans a2, fun m hm => (r (by omega)).trans (a3 m hm), ⟨by rw [p5 _ (by omega)]; exact a4, by rw [p5 _ (by omega)]; exact a5⟩, ⟨fun s hs => by rw [e26]; exact i1 s hs, fun m hm => ?_, fun s s' h1 h2 e hne => ?_⟩, (p4 _ (by omega)).trans a6, fun j hj => (r (by omega)).trans (a7 j hj), a8, (a9.rx q3 (Or.inl (by omega))).c p9⟩, hp⟩
  · obtain ⟨k, k1, k2, k3⟩ := i2 m hm
    exact ⟨k, k1, e26.trans k2, fun k' hk' => by rw [e26]; exact k3 k' hk'⟩
  · rw [e26, e26] at e
    rw [e26] at hne
    exact i3 s s' h1 h2 e hne
theorem psh.st {c k e : Nat} {S : Nat → Nat} {σ τ : sS} (h : cSt c k S σ) (p : psh (c + 6) k (nI e) σ τ) : cSt c (k + 1) (pu S k e) τ := by
  refine ⟨p.1, fun j hj => ?_⟩
  rw [p.2.1]
  by_cases q : j = k
  · rw [if_pos q, q, pu_s]
  · rw [if_neg q, pu_n q]
    exact h.2 j (by omega)
theorem cSt.z {c k : Nat} {S : Nat → Nat} {σ τ : sS} {L : List Nat} (h : cSt c k S σ) (f : fz L σ τ) (hL : c + 6 ∉ L) : cSt c k S τ := ⟨(f.2.1 _ hL).trans h.1, fun j hj => (f.1 _ _ hL).trans (h.2 j hj)⟩
theorem y_i1 {B : Nat × Nat} {c s G n k : Nat} {M : aM} {x0 x : nd} {S : Nat → Nat} {σ : sS} {z : zS} (hc : 33 ≤ c ∧ c ≤ 35) (hs : s < 3) (hA : cAu c G M σ) (h : cZ B c z σ) (hO : zO x0 z) (hn : n < zN z) (hx : zX z n = x) (hS : sub M x) (hSt : cSt c k S σ) (hk : k ≤ 900) (hE : okE (suc M x s) z) : gCo B c x0 (L3 c) σ (goL (suc M x s) z) (p_i1 σ c (nI n) (nI s) (mN M)) ∧ cSt c (k + 1) (pu S k (zE z)) (p_i1 σ c (nI n) (nI s) (mN M)) := by
  have hN := hO.2.1
  have hxo : ndO x := by rw [← hx]; exact hO.2.2.2.1 n hn
  obtain ⟨z1, p1⟩ := h.st (x := nI (zE z)) hc hSt hk
  have f1 : fz (L3 c) σ (rqu σ (c + 6) (nI (zE z))) := fz.p (by unfold L3; simp) (by omega)
  have hA1 := hA.l3 hc f1
  have hg := y_gf hc hs hA1 z1 hO hxo hS hE
  have e0 : p_i1 σ c (nI n) (nI s) (mN M) = p_gf (rqu σ (c + 6) (nI (zE z))) c (nI (kyN x)) (nI s) (mN M) := by
    unfold p_i1
    rw [h.2.2.2.2.2.1, rg_nI (by omega), z1.2.2.1 n hn, hx]
  rw [e0]
  exact ⟨⟨f1.tr (hg.1.mo L23), hg.2⟩, (p1.st hSt).z hg.1 (L2_n (by omega) (by omega) (by omega) (by omega) (by omega) (by omega))⟩
theorem suc_sub {G : Nat} {M : aM} {x : nd} {c : Nat} (h : mOk G M) : ∀ y, y ∈ suc M x c → sub M y := by
  intro y hy
  have ht := aft_lt h x.1 c
  unfold suc at hy
  split at hy
  · rcases List.mem_cons.mp hy with rfl | hy
    · exact ⟨ht, Nat.two_pow_pos _⟩
    · obtain ⟨g, hg, hy⟩ := List.mem_flatMap.mp hy
      obtain ⟨P, hP, rfl⟩ := List.mem_map.mp hy
      exact ⟨ht, Nat.two_pow_pos _⟩
  · obtain ⟨Q, hQ, rfl⟩ := List.mem_map.mp hy
    refine ⟨ht, Nat.lt_of_le_of_lt Nat.and_le_right ?_⟩
    split
    · exact ht
    · exact aft_lt h _ _
theorem zAll_go {p : nd → Prop} {z y : zS} {x : nd} (h : ∀ n, n < zN z → p (zX z n)) (hx : p x) (hg : go1 z x = some y) : ∀ n, n < zN y → p (zX y n) := by
  unfold go1 at hg
  split at hg
  · injection hg with hg
    rw [← hg]
    exact h
  · split at hg
    · exact nomatch hg
    · injection hg with hg
      rw [← hg]
      intro n hn
      have hn : n < zN z + 1 := hn
      show p (pu (zX z) (zN z) x n)
      by_cases e : n = zN z
      · rw [e, pu_s]; exact hx
      · rw [pu_n e]; exact h n (by omega)
theorem zAll_goL {p : nd → Prop} : ∀ (l : List nd) (z y : zS), (∀ n, n < zN z → p (zX z n)) → (∀ x, x ∈ l → p x) → goL l z = some y → ∀ n, n < zN y → p (zX y n)
  | [], z, y, h, _, hg => by
    injection hg with hg
    rw [← hg]
    exact h
  | x :: l, z, y, h, hl, hg => by
    rw [goL] at hg
    cases h1 : go1 z x with
    | none => rw [h1] at hg; exact nomatch hg
    | some w =>
      rw [h1] at hg
      exact zAll_goL l w y (zAll_go h (hl x List.mem_cons_self) h1) (fun y hy => hl y (List.mem_cons_of_mem _ hy)) hg
theorem y_in2 {B : Nat × Nat} {c n G : Nat} {M : aM} {x0 x : nd} (hc : 33 ≤ c ∧ c ≤ 35) (hG : G ≤ 3) (hS : sub M x) : ∀ (m s i : Nat) (σ : sS) (z : zS) (S : Nat → Nat), s + m = G → cAu c G M σ → cZ B c z σ → zO x0 z → (∀ j, j < zN z → sub M (zX z j)) → n < zN z → zX z n = x → cSt c i S σ → i + m ≤ 900 → zE z ≤ 300 * i → fz (L3 c) σ (p_in c (nI n) (mN M) m s σ) ∧ match lyC M x m s i (z, S) with
    | some v => p_ie c (nI n) (mN M) m s σ = false ∧ cZ B c v.1 (p_in c (nI n) (mN M) m s σ) ∧ zO x0 v.1 ∧ (∀ j, j < zN v.1 → sub M (zX v.1 j)) ∧ cSt c (i + m) v.2 (p_in c (nI n) (mN M) m s σ) ∧ zE v.1 ≤ 300 * (i + m)
    | none => p_ie c (nI n) (mN M) m s σ = true ∧ cFu B c (p_in c (nI n) (mN M) m s σ) := by
  intro m
  induction m with
  | zero =>
    intro s i σ z S _ hA h hO hb _ _ hSt _ hE
    exact ⟨fz.rf, rfl, h, hO, hb, hSt, hE⟩
  | succ m ih =>
    intro s i σ z S hs hA h hO hb hn hx hSt hi hE
    have hxo : ndO x := by rw [← hx]; exact hO.2.2.2.1 n hn
    obtain ⟨ok, okn⟩ := okE_nd (e0 := zE z) (by omega) (suc M x s) [] z hO.2.1 (suc_nd hA.1 hxo) (fun y hy => nomatch hy) rfl (suc_O hA.1 hxo)
    obtain ⟨⟨f1, g1⟩, st1⟩ := y_i1 hc (by omega) hA h hO hn hx hS hSt (by omega) ok
    rw [p_in, p_ie, lyC]
    show _ ∧ match (match goL (suc M x s) z with | none => none | some y => lyC M x m (s + 1) (i + 1) (y, pu S i (zE z))) with
      | some v => _
      | none => _
    cases hgo : goL (suc M x s) z with
    | none =>
      rw [hgo] at g1
      rw [if_pos g1.1, if_pos g1.1]
      exact ⟨f1, rfl, g1⟩
    | some y =>
      rw [hgo] at g1
      obtain ⟨g1, g2⟩ := g1
      obtain ⟨yN, yE⟩ := okn y hgo
      obtain ⟨x1, x2, x3⟩ := goL_X _ _ _ hgo
      rw [if_neg (by rw [g1.1]; decide), if_neg (by rw [g1.1]; decide)]
      obtain ⟨f2, r⟩ := ih (s + 1) (i + 1) _ y (pu S i (zE z)) (by omega) (hA.l3 hc f1) g1 g2 (zAll_goL _ _ _ hb (suc_sub hA.1) hgo) (by omega) ((x2 n hn).trans hx) st1 (by omega) (by omega)
      rw [show i + 1 + m = i + (m + 1) by omega] at r
      exact ⟨f1.tr f2, r⟩
theorem y_out {B : Nat × Nat} {c G : Nat} {M : aM} {x0 : nd} (hc : 33 ≤ c ∧ c ≤ 35) (hG : G ≤ 3) : ∀ (f n : Nat) (σ : sS) (z : zS) (S : Nat → Nat), n + f = 300 → cAu c G M σ → cZ B c z σ → zO x0 z → (∀ j, j < zN z → sub M (zX z j)) → n ≤ zN z → cSt c (n * G) S σ → zE z ≤ 300 * (n * G) → fz (L3 c) σ (p_out c (mN M) G f n σ) ∧ match lyN M G (f + 1) n (z, S) with
    | some v => cZ B c v.1 (p_out c (mN M) G f n σ) ∧ cSt c (zN v.1 * G + 1) v.2 (p_out c (mN M) G f n σ)
    | none => cFu B c (p_out c (mN M) G f n σ) := by
  intro f
  induction f with
  | zero =>
    intro n σ z S hn hA h hO hb hnz hSt hE
    have hN := hO.2.1
    have en : n = zN z := by omega
    have hk : n * G ≤ 300 * 3 := Nat.mul_le_mul (by omega) hG
    obtain ⟨z1, p1⟩ := h.st (x := nI (zE z)) hc hSt (by omega)
    have f1 : fz (L3 c) σ (rqu σ (c + 6) (nI (zE z))) := fz.p (by unfold L3; simp) (by omega)
    have e0 : p_out c (mN M) G 0 n σ = rqu σ (c + 6) (nI (zE z)) := by
      unfold p_out p_fin
      rw [h.2.2.2.2.2.1]
    rw [e0, lyN]
    show _ ∧ match (if n < zN z then _ else some (z, pu S (n * G) (zE z))) with
      | some v => _
      | none => _
    rw [if_neg (by omega)]
    exact ⟨f1, z1, by show cSt c (zN z * G + 1) _ _; rw [← en]; exact p1.st hSt⟩
  | succ f ih =>
    intro n σ z S hn hA h hO hb hnz hSt hE
    have hN := hO.2.1
    rw [lyN]
    show _ ∧ match (if n < zN z then (match lyC M (zX z n) G 0 (n * G) (z, S) with | none => none | some v => lyN M G (f + 1) (n + 1) v) else some (z, pu S (n * G) (zE z))) with
      | some v => _
      | none => _
    by_cases hlt : n < zN z
    · have eG : (n + 1) * G = n * G + G := Nat.succ_mul n G
      have hk : n * G ≤ 299 * G := Nat.mul_le_mul_right _ (by omega)
      obtain ⟨f1, r⟩ := y_in2 (n := n) (x := zX z n) hc hG (hb n hlt) G 0 (n * G) σ z S (by omega) hA h hO hb hlt rfl hSt (by omega) hE
      rw [p_out, h.2.1, if_neg (nI_ge hlt (by omega)), if_pos hlt]
      cases hly : lyC M (zX z n) G 0 (n * G) (z, S) with
      | none =>
        rw [hly] at r
        rw [if_pos r.1]
        exact ⟨f1, r.2⟩
      | some v =>
        rw [hly] at r
        obtain ⟨r1, r2, r3, r4, r5, r6⟩ := r
        obtain ⟨v1, -⟩ := lyC_X _ _ _ _ _ hly
        have v1 : zN z ≤ zN v.1 := v1
        rw [if_neg (by rw [r1]; decide)]
        obtain ⟨f2, q⟩ := ih (n + 1) _ v.1 v.2 (by omega) (hA.l3 hc f1) r2 r3 r4 (by omega) (by rw [eG]; exact r5) (by rw [eG]; exact r6)
        exact ⟨f1.tr f2, q⟩
    · have en : n = zN z := by omega
      have hk : n * G ≤ 300 * 3 := Nat.mul_le_mul (by omega) hG
      obtain ⟨z1, p1⟩ := h.st (x := nI (zE z)) hc hSt (by omega)
      have f1 : fz (L3 c) σ (rqu σ (c + 6) (nI (zE z))) := fz.p (by unfold L3; simp) (by omega)
      have e0 : p_out c (mN M) G (f + 1) n σ = rqu σ (c + 6) (nI (zE z)) := by
        rw [p_out, h.2.1, if_pos (nI_le (by omega) (by omega))]
        unfold p_fin
        rw [h.2.2.2.2.2.1]
      rw [e0, if_neg hlt]
      exact ⟨f1, z1, by show cSt c (zN z * G + 1) _ _; rw [← en]; exact p1.st hSt⟩
theorem y_a0 {B : Nat × Nat} {c : Nat} {x0 : nd} {σ : sS} (hc : 33 ≤ c ∧ c ≤ 35) (hR : Rm B σ) (h6 : vI σ c 6 = 1) : cZ B c ((0, fun _ => x0), (0, fun _ => 0)) (p_a0 σ c) ∧ fz (L3 c) σ (p_a0 σ c) ∧ cSt c 0 (fun _ => 0) (p_a0 σ c) := by
  obtain ⟨q1, q2, q3, q4⟩ := c9 hc
  have h26 : 26 ∈ grR := by decide
  have r1 := hR.rx (m := 1024) h26 (Or.inl (by decide))
  have r2 : Rm B (rz σ 26 1024) := r1.c rfl
  have r3 := r2.rx (m := 300) q4 (Or.inl (by decide))
  have hC26 : 1024 ≤ vC (rz σ 26 1024) 26 := by
    show 1024 ≤ vC (rx σ 26 1024) 26
    rw [rx_C]
    by_cases q : vC σ 26 < 1024
    · exact (gw_up q (by decide)).2.2.1
    · have := (rw_cap_le (m := 1024) (show vC σ 26 ≤ 270000 by have := hR.1 26 h26; have : lim 26 = 6000 := rfl; omega)).2
      omega
  have hC3 : 300 ≤ vC (rx (rz σ 26 1024) (c + 3) 300) (c + 3) := by
    rw [rx_C]
    by_cases q : vC (rz σ 26 1024) (c + 3) < 300
    · exact (gw_up q (by decide)).2.2.1
    · have := (rw_cap_le (m := 300) (show vC (rz σ 26 1024) (c + 3) ≤ 270000 by have := r2.1 _ q4; unfold lim at this; split at this <;> omega)).2
      omega
  have eI : ∀ b j, vI (p_a0 σ c) b j = if b = c ∧ j = 7 then 0 else if b = 26 ∧ j < 1024 then 0 else vI σ b j := by
    intro b j
    unfold p_a0
    rw [vI_u]
    by_cases e1 : b = c ∧ j = 7
    · rw [if_pos e1, if_pos e1]
    · rw [if_neg e1, if_neg e1]
      show vI (rx (rz σ 26 1024) (c + 3) 300) b j = _
      rw [rx_I]
      show (if b = 26 ∧ j < 1024 then 0 else vI (rx σ 26 1024) b j) = _
      rw [rx_I]
  have eU : ∀ b, vU (p_a0 σ c) b = if b = c + 9 then 0 else if b = c + 6 then 0 else if b = 26 then 0 else vU σ b := by
    intro b
    show (if b = c + 9 then 0 else if b = c + 6 then 0 else vU (rx (rz σ 26 1024) (c + 3) 300) b) = _
    rw [rx_U]
    show (if b = c + 9 then 0 else if b = c + 6 then 0 else if b = 26 then 0 else vU (rx σ 26 1024) b) = _
    rw [rx_U]
  have e26 : ∀ s, s < 1024 → vI (p_a0 σ c) 26 s = 0 := fun s hs => by rw [eI, if_neg (fun q => by have := q.1; omega), if_pos ⟨rfl, hs⟩]
  refine ⟨⟨?_, ?_, fun n hn => absurd hn (Nat.not_lt_zero n), ⟨hC3, ?_⟩, ⟨fun s hs => Or.inl (e26 s hs), fun n hn => absurd hn (Nat.not_lt_zero n), fun s s' h1 _ _ hne => absurd (e26 s h1) hne⟩, ?_, fun j hj => absurd hj (Nat.not_lt_zero j), Nat.zero_le _, r3.c rfl⟩, ⟨fun b j hb => ?_, fun b hb => ?_, fun b hb => ?_, ?_, ?_⟩, ?_, fun j hj => absurd hj (Nat.not_lt_zero j)⟩
  · rw [eI, if_neg (fun q => by have := q.2; omega), if_neg (fun q => by have := q.1; omega)]
    exact h6
  · rw [eI, if_pos ⟨rfl, rfl⟩]
    rfl
  · show 1024 ≤ vC (rx (rz σ 26 1024) (c + 3) 300) 26
    rw [rx_Cn (by omega)]
    exact hC26
  · rw [eU, if_pos rfl]
    rfl
  · rw [eI, if_neg (fun q => hb (by unfold L3; simp [q.1])), if_neg (fun q => hb (by unfold L3; simp [q.1]))]
  · rw [eU, if_neg (fun q => hb (by unfold L3; simp [q])), if_neg (fun q => hb (by unfold L3; simp [q])), if_neg (fun q => hb (by unfold L3; simp [q]))]
  · show vC (rx (rz σ 26 1024) (c + 3) 300) b = _
    have n3 : b ≠ c + 3 := fun q => by rcases hb with m | m; exact m (by unfold L3; simp [q]); omega
    have n26 : b ≠ 26 := fun q => by rcases hb with m | m; exact m (by unfold L3; simp [q]); omega
    rw [rx_Cn n3, rz_C n26]
  · show (rx (rz σ 26 1024) (c + 3) 300).2.1 = _
    rw [rx_2.2.1]
    show (rx σ 26 1024).2.1 = _
    rw [rx_2.2.1]
  · show (rx (rz σ 26 1024) (c + 3) 300).2.2.1 = _
    rw [rx_2.2.2.1]
    show (rx σ 26 1024).2.2.1 = _
    rw [rx_2.2.2.1]
  · rw [eU, if_neg (by omega), if_pos rfl]
    rfl
/-- the component holds the complement of M -/
def cCpl (c : Nat) (M : aM) (G : Nat) (σ : sS) : Prop := match cpl M G with
  | some v => vI σ c 6 = 1 ∧ vI σ c 7 = nI (zN v.1) ∧ (∀ n, n < zN v.1 → vI σ (c + 3) n = nI (kyN (zX v.1 n))) ∧ (∀ j, j < zE v.1 → vI σ (c + 9) j = nI (zT v.1 j)) ∧ ∀ j, j < zN v.1 * G + 1 → vI σ (c + 6) j = nI (v.2 j)
  | none => vI σ c 6 = 2
theorem y_all {B : Nat × Nat} {c G : Nat} {M : aM} {σ : sS} (hc : 33 ≤ c ∧ c ≤ 35) (hG : G ≤ 3) (hA : cAu c G M σ) (hR : Rm B σ) (h6 : vI σ c 6 = 1) : fz (L3 c) σ (p_all σ c (mN M) G) ∧ cCpl c M G (p_all σ c (mN M) G) ∧ Rm B (p_all σ c (mN M) G) := by
  obtain ⟨z0, f0, s0⟩ := y_a0 (x0 := (mB M, 0, 0, 0)) hc hR h6
  have hA0 := hA.l3 hc f0
  have hx : ndO (mB M, 0, 0, 0) := ⟨hA.1.b.1, (by decide : 0 < 16), Or.inl ⟨rfl, rfl, rfl⟩⟩
  have hm := y_meetN hc z0 (Nat.zero_le _) (fun n hn => absurd hn (Nat.not_lt_zero n)) hx rfl
  have hm : if 0 = 300 then _ else p_ma (p_a0 σ c) c (nI (kyN (mB M, 0, 0, 0))) = nI 0 ∧ cZ B c ((1, pu (fun _ => (mB M, 0, 0, 0)) 0 (mB M, 0, 0, 0)), (0, fun _ => 0)) (p_mt (p_a0 σ c) c (nI (kyN (mB M, 0, 0, 0)))) ∧ fz (L1 c) (p_a0 σ c) (p_mt (p_a0 σ c) c (nI (kyN (mB M, 0, 0, 0)))) := hm
  rw [if_neg (by decide)] at hm
  obtain ⟨-, m2, m3⟩ := hm
  have e1 : pu (fun _ => ((mB M, 0, 0, 0) : nd)) 0 (mB M, 0, 0, 0) = fun _ => (mB M, 0, 0, 0) := funext fun j => by unfold pu; split <;> rfl
  have ek : kyN (mB M, 0, 0, 0) = mB M := if_pos rfl
  rw [e1, ek] at m2
  rw [ek] at m3
  have ea : p_a1 σ c = p_mt (p_a0 σ c) c (nI (mB M)) := by
    unfold p_a1
    rw [hA0.2.2.2.1]
  have f1 := f0.tr ((m3.mo L12).mo L23)
  have z1 : zO (mB M, 0, 0, 0) ((1, fun _ => (mB M, 0, 0, 0)), (0, fun _ => 0)) := ⟨Nat.le_refl _, (by decide : 1 ≤ 300), rfl, fun n _ => hx, fun j hj => absurd hj (Nat.not_lt_zero j), fun a b ha hb _ => by have ha : a < 1 := ha; have hb : b < 1 := hb; omega⟩
  have s1 : cSt c (0 * G) (fun _ => 0) (p_mt (p_a0 σ c) c (nI (mB M))) := by
    rw [Nat.zero_mul]
    exact s0.z m3 (by unfold L1; simp; omega)
  obtain ⟨f2, r⟩ := y_out (B := B) hc hG 300 0 _ _ (fun _ => 0) rfl (hA.l3 hc f1) m2 z1 (fun j _ => ⟨hA.1.2.2.1, Nat.two_pow_pos _⟩) (Nat.zero_le _) s1 (Nat.zero_le _)
  unfold p_all cCpl
  rw [ea]
  refine ⟨f1.tr f2, ?_⟩
  unfold cpl
  cases hl : lyN M G 301 0 (((1, fun _ => (mB M, 0, 0, 0)), (0, fun _ => 0)), fun _ => 0) with
  | none =>
    rw [show lyN M G (300 + 1) 0 (((1, fun _ => (mB M, 0, 0, 0)), (0, fun _ => 0)), fun _ => 0) = none from hl] at r
    exact ⟨r.1, r.2⟩
  | some v =>
    rw [show lyN M G (300 + 1) 0 (((1, fun _ => (mB M, 0, 0, 0)), (0, fun _ => 0)), fun _ => 0) = some v from hl] at r
    obtain ⟨r1, r2⟩ := r
    exact ⟨⟨r1.1, r1.2.1, r1.2.2.1, r1.2.2.2.2.2.2.1, r2.2⟩, r1.2.2.2.2.2.2.2.2⟩
