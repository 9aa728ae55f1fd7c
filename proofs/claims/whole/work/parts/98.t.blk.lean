/-! graphs by blocks: of a vertex and a letter some states, each with as many goals -/
abbrev gB : Type := Nat → Nat → (List Nat × Nat × (Nat → Nat → Nat))
def blk (s : Nat) (b : List Nat × Nat × (Nat → Nat → Nat)) : List (Nat × Nat) := b.1.flatMap (fun t => (List.range b.2.1).map (fun k => (2048 * s + 512 * t + k, b.2.2 t k)))
def ell (f : Nat → List (Nat × Nat)) : Nat → Nat → List (Nat × Nat)
  | 0, _ => []
  | k + 1, s => f s ++ ell f k (s + 1)
def elB (b : gB) (g p : Nat) : List (Nat × Nat) := ell (fun s => blk s (b p s)) g 0
def gsB (b : gB) (v s : Nat) : List Nat := (b v s).1.flatMap (fun t => (List.range (b v s).2.1).map ((b v s).2.2 t))
/-- states below 4, one behind another; at most 512 goals -/
def bkO (b : List Nat × Nat × (Nat → Nat → Nat)) : Prop := (∀ t, t ∈ b.1 → t < 4) ∧ b.1.Pairwise (fun a c => a < c) ∧ b.2.1 ≤ 512
theorem blk_mem {s : Nat} {b : List Nat × Nat × (Nat → Nat → Nat)} {e : Nat × Nat} : e ∈ blk s b ↔ ∃ t k, t ∈ b.1 ∧ k < b.2.1 ∧ e = (2048 * s + 512 * t + k, b.2.2 t k) := by
  unfold blk
  rw [List.mem_flatMap]
  constructor
  · rintro ⟨t, h1, h2⟩
    obtain ⟨k, k1, k2⟩ := List.mem_map.mp h2
    exact ⟨t, k, h1, List.mem_range.mp k1, k2.symm⟩
  · rintro ⟨t, k, h1, h2, h3⟩
    exact ⟨t, h1, List.mem_map.mpr ⟨k, List.mem_range.mpr h2, h3.symm⟩⟩
theorem blk_b {s : Nat} {b : List Nat × Nat × (Nat → Nat → Nat)} (h : bkO b) {e : Nat × Nat} (he : e ∈ blk s b) : 2048 * s ≤ e.1 ∧ e.1 < 2048 * (s + 1) := by
  obtain ⟨t, k, h1, h2, h3⟩ := blk_mem.mp he
  have := h.1 t h1
  have := h.2.2
  rw [h3]
  exact ⟨by show _ ≤ 2048 * s + 512 * t + k; omega, by show 2048 * s + 512 * t + k < _; omega⟩
theorem rng_so {f : Nat → Nat × Nat} (hf : ∀ a b, a < b → (f a).1 < (f b).1) : ∀ n, ((List.range n).map f).Pairwise (fun a b => a.1 < b.1)
  | 0 => List.Pairwise.nil
  | n + 1 => by
    rw [List.range_succ, List.map_append, List.pairwise_append]
    refine ⟨rng_so hf n, List.pairwise_singleton _ _, fun a ha b hb => ?_⟩
    obtain ⟨i, i1, i2⟩ := List.mem_map.mp ha
    have hb : b ∈ [f n] := hb
    rw [List.mem_singleton.mp hb, ← i2]
    exact hf i n (List.mem_range.mp i1)
theorem fm_so {f : Nat → List (Nat × Nat)} {A : Nat} (h1 : ∀ t, (f t).Pairwise (fun a b => a.1 < b.1)) (h2 : ∀ t e, e ∈ f t → A + 512 * t ≤ e.1 ∧ e.1 < A + 512 * (t + 1)) : ∀ (l : List Nat), l.Pairwise (fun a c => a < c) → (l.flatMap f).Pairwise (fun a b => a.1 < b.1)
  | [], _ => List.Pairwise.nil
  | t :: l, h => by
    rw [List.flatMap_cons, List.pairwise_append]
    obtain ⟨p1, p2⟩ := List.pairwise_cons.mp h
    refine ⟨h1 t, fm_so h1 h2 l p2, fun a ha b hb => ?_⟩
    obtain ⟨u, u1, u2⟩ := List.mem_flatMap.mp hb
    have := p1 u u1
    have := (h2 t a ha).2
    have := (h2 u b u2).1
    omega
theorem blk_so {s : Nat} {b : List Nat × Nat × (Nat → Nat → Nat)} (h : bkO b) : (blk s b).Pairwise (fun a b => a.1 < b.1) := by
  refine fm_so (A := 2048 * s) (fun t => rng_so (fun a c hac => by show 2048 * s + 512 * t + a < 2048 * s + 512 * t + c; omega) _) (fun t e he => ?_) _ h.2.1
  obtain ⟨k, k1, k2⟩ := List.mem_map.mp he
  have := List.mem_range.mp k1
  have := h.2.2
  rw [← k2]
  exact ⟨by show _ ≤ 2048 * s + 512 * t + k; omega, by show 2048 * s + 512 * t + k < _; omega⟩
theorem ell_mem {f : Nat → List (Nat × Nat)} {e : Nat × Nat} : ∀ {k s : Nat}, e ∈ ell f k s ↔ ∃ s', s ≤ s' ∧ s' < s + k ∧ e ∈ f s'
  | 0, s => ⟨fun q => (nomatch q), fun ⟨s', h1, h2, _⟩ => by omega⟩
  | k + 1, s => by
    rw [ell, List.mem_append, ell_mem]
    constructor
    · rintro (q | ⟨s', h1, h2, h3⟩)
      · exact ⟨s, by omega, by omega, q⟩
      · exact ⟨s', by omega, by omega, h3⟩
    · rintro ⟨s', h1, h2, h3⟩
      by_cases e : s' = s
      · rw [e] at h3; exact Or.inl h3
      · exact Or.inr ⟨s', by omega, by omega, h3⟩
theorem ell_so {f : Nat → List (Nat × Nat)} : ∀ {k s : Nat}, (∀ s', s ≤ s' → s' < s + k → (f s').Pairwise (fun a b => a.1 < b.1) ∧ ∀ e, e ∈ f s' → 2048 * s' ≤ e.1 ∧ e.1 < 2048 * (s' + 1)) → (ell f k s).Pairwise (fun a b => a.1 < b.1)
  | 0, s, _ => List.Pairwise.nil
  | k + 1, s, h => by
    rw [ell, List.pairwise_append]
    refine ⟨(h s (by omega) (by omega)).1, ell_so (fun s' a b => h s' (by omega) (by omega)), fun a ha b hb => ?_⟩
    obtain ⟨s', h1, h2, h3⟩ := ell_mem.mp hb
    have := ((h s (by omega) (by omega)).2 a ha).2
    have := ((h s' (by omega) (by omega)).2 b h3).1
    omega
theorem ell_k {f : Nat → List (Nat × Nat)} {G : gG} {v : Nat} : ∀ {k s : Nat}, (∀ s', s ≤ s' → s' < s + k → (f s').map e2k = (GS G v s').map (fun t => (s', t))) → (ell f k s).map e2k = gll G v k s
  | 0, s, _ => rfl
  | k + 1, s, h => by
    rw [ell, gll, List.map_append, h s (by omega) (by omega), ell_k (fun s' a b => h s' (by omega) (by omega))]
theorem blk_k {b : gB} {v s : Nat} (h : bkO (b v s)) : (blk s (b v s)).map e2k = (gsB b v s).map (fun t => (s, t)) := by
  unfold blk gsB
  rw [List.map_flatMap, List.map_flatMap]
  have key : ∀ l : List Nat, (∀ t, t ∈ l → t < 4) → l.flatMap (fun a => ((List.range (b v s).2.1).map (fun k => (2048 * s + 512 * a + k, (b v s).2.2 a k))).map e2k) = l.flatMap (fun a => ((List.range (b v s).2.1).map ((b v s).2.2 a)).map (fun t => (s, t))) := by
    intro l
    induction l with
    | nil => intro _; rfl
    | cons t l ih =>
      intro hl
      rw [List.flatMap_cons, List.flatMap_cons, ih (fun u hu => hl u (List.mem_cons_of_mem _ hu))]
      congr 1
      rw [List.map_map, List.map_map]
      refine List.map_congr_left (fun k hk => ?_)
      have h1 := hl t List.mem_cons_self
      have h2 := List.mem_range.mp hk
      have h3 := h.2.2
      show e2k (2048 * s + 512 * t + k, (b v s).2.2 t k) = (s, (b v s).2.2 t k)
      unfold e2k
      rw [show (2048 * s + 512 * t + k) / 2048 = s by omega]
  exact key _ h.1
theorem elB_mem {b : gB} {g p : Nat} {e : Nat × Nat} : e ∈ elB b g p ↔ ∃ s t k, s < g ∧ t ∈ (b p s).1 ∧ k < (b p s).2.1 ∧ e = (2048 * s + 512 * t + k, (b p s).2.2 t k) := by
  unfold elB
  rw [ell_mem]
  constructor
  · rintro ⟨s, h1, h2, h3⟩
    obtain ⟨t, k, q⟩ := blk_mem.mp h3
    exact ⟨s, t, k, by omega, q⟩
  · rintro ⟨s, t, k, h1, q⟩
    exact ⟨s, Nat.zero_le _, by omega, blk_mem.mpr ⟨t, k, q⟩⟩
theorem elB_so {b : gB} {g p : Nat} (h : ∀ s, s < g → bkO (b p s)) : (elB b g p).Pairwise (fun a b => a.1 < b.1) := ell_so (fun s' h1 h2 => ⟨blk_so (h s' (by omega)), fun e he => blk_b (h s' (by omega)) he⟩)
theorem elB_k {b : gB} {G : gG} {g v : Nat} (h : ∀ s, s < g → bkO (b v s)) (hG : ∀ s, s < g → GS G v s = gsB b v s) (hg : GL G = g) : (elB b g v).map e2k = glt G v := by
  unfold glt
  rw [hg]
  refine ell_k (fun s' h1 h2 => ?_)
  rw [hG s' (by omega)]
  exact blk_k (h s' (by omega))
/-! the first edge from a cursor on -/
theorem fEd_sk {c d : Nat} (hcd : c ≤ d) : ∀ {l : List (Nat × Nat)}, (∀ e, e ∈ l → ¬ (c ≤ e.1 ∧ e.1 < d)) → fEd c l = fEd d l
  | [], _ => rfl
  | x :: l, h => by
    have h1 := h x List.mem_cons_self
    rw [fEd, fEd, fEd_sk hcd (fun e he => h e (List.mem_cons_of_mem _ he))]
    by_cases a : c ≤ x.1
    · rw [if_pos a, if_pos (by omega)]
    · rw [if_neg a, if_neg (by omega)]
theorem fEd_at {c : Nat} : ∀ {l : List (Nat × Nat)}, l.Pairwise (fun a b => a.1 < b.1) → (∃ e, e ∈ l ∧ e.1 = c) → fEd c l = nI c
  | [], _, ⟨e, he, _⟩ => nomatch he
  | x :: l, hs, ⟨e, he, h⟩ => by
    obtain ⟨p1, p2⟩ := List.pairwise_cons.mp hs
    rw [fEd]
    by_cases a : c ≤ x.1
    · rw [if_pos a]
      rcases List.mem_cons.mp he with q | q
      · rw [← q, h]
      · have := p1 e q; omega
    · rw [if_neg a]
      rcases List.mem_cons.mp he with q | q
      · rw [q] at h; omega
      · exact fEd_at p2 ⟨e, q, h⟩
theorem fEd_no {c : Nat} : ∀ {l : List (Nat × Nat)}, (∀ e, e ∈ l → e.1 < c) → fEd c l = -1
  | [], _ => rfl
  | x :: l, h => by
    have := h x List.mem_cons_self
    rw [fEd, if_neg (by omega), fEd_no (fun e he => h e (List.mem_cons_of_mem _ he))]
theorem x_ef {τ : sS} {p g F : Nat} {l : List (Nat × Nat)} (hg : vI τ 90 19 = nI g) (hg3 : g ≤ 3) (hl : ∀ e, e ∈ l → e.1 < 2048 * g) (hs : l.Pairwise (fun a b => a.1 < b.1)) (hE : ∀ c, c < 2048 * g → ∃ r, L_X12_hasEdge (nI p) (nI (c / 2048)) (nI (c % 2048 / 512)) (nI (c % 512)) τ = some r ∧ ((r = 1 ∧ ∃ e, e ∈ l ∧ e.1 = c) ∨ (r = 0 ∧ ∀ e, e ∈ l → ¬ (c ≤ e.1 ∧ e.1 < c - c % 512 + 512)) ∨ (r = -1 ∧ ∀ e, e ∈ l → ¬ (c ≤ e.1 ∧ e.1 < c - c % 2048 + 2048)))) : ∀ (n c : Nat), c ≤ 6144 → 12 < n + c / 512 → L_X12_edgeFrom_7 F (nI p) 6144 τ (some (-1 : Int32)) n (nI c) = some (fEd c l) := by
  intro n
  induction n with
  | zero => intro c hc hn; omega
  | succ n ih =>
    intro c hc hn
    rw [L_X12_edgeFrom_7]
    by_cases c6 : c = 6144
    · rw [if_pos (show (6144 : Int32) ≤ nI c by rw [c6]; decide), fEd_no (fun e he => by have := hl e he; omega)]
    · rw [if_neg (show ¬ (6144 : Int32) ≤ nI c from nI_ge (a := c) (b := 6144) (by omega) (by omega))]
      have d1 : nI c / 2048 = nI (c / 2048) := nI_dv (a := c) (b := 2048) (by omega) (by decide)
      have d2 : nI c - nI c / 2048 * 2048 = nI (c % 2048) := nI_rem (a := c) (b := 2048) (by omega) (by decide)
      have d3 : nI c - nI c / 512 * 512 = nI (c % 512) := nI_rem (a := c) (b := 512) (by omega) (by decide)
      have d4 : nI (c % 2048) / 512 = nI (c % 2048 / 512) := nI_dv (a := c % 2048) (b := 512) (by omega) (by decide)
      simp only [bnd_s]
      rw [d2, d3, d4, d1, hg]
      by_cases cg : c / 2048 < g
      · rw [if_pos (nI_lt cg (by omega))]
        obtain ⟨r, r1, r2⟩ := hE c (by omega)
        rw [r1, bd_s]
        rcases r2 with ⟨e, q⟩ | ⟨e, q⟩ | ⟨e, q⟩
        · rw [e, if_pos rfl, fEd_at hs q]
        · rw [e, if_neg (by decide), if_pos rfl]
          have e5 : nI c - nI (c % 512) + 512 = nI (c - c % 512 + 512) := by
            rw [nI_sb (Nat.mod_le _ _), show (512 : Int32) = nI 512 from rfl, nI_add]
          rw [e5, ih _ (by omega) (by omega), ← fEd_sk (by omega) q]
        · rw [e, if_neg (by decide), if_neg (by decide)]
          have e5 : nI c - nI (c % 2048) + 2048 = nI (c - c % 2048 + 2048) := by
            rw [nI_sb (Nat.mod_le _ _), show (2048 : Int32) = nI 2048 from rfl, nI_add]
          rw [e5, ih _ (by omega) (by omega), ← fEd_sk (by omega) q]
      · rw [if_neg (nI_nlt (by omega) (by omega)), fEd_no (fun e he => by have := hl e he; omega)]
theorem x_efb {τ : sS} {p g : Nat} {b : gB} (hg : vI τ 90 19 = nI g) (hg3 : g ≤ 3) (hb : ∀ s, s < g → bkO (b p s)) (hH : ∀ s t k, s < g → t < 4 → k < 512 → ∃ r, L_X12_hasEdge (nI p) (nI s) (nI t) (nI k) τ = some r ∧ ((r = 1 ∧ t ∈ (b p s).1 ∧ k < (b p s).2.1) ∨ (r = 0 ∧ ¬ (t ∈ (b p s).1 ∧ k < (b p s).2.1)) ∨ (r = -1 ∧ ¬ (t ∈ (b p s).1 ∧ k < (b p s).2.1) ∧ ∀ u, u ∈ (b p s).1 → ¬ t < u))) : rEd (elB b g) p τ := by
  intro F c hF hc
  unfold L_X12_edgeFrom
  refine x_ef hg hg3 (fun e he => ?_) (elB_so hb) (fun c hc => ?_) F c hc (by omega)
  · obtain ⟨s, t, k, h1, h2, h3, h4⟩ := elB_mem.mp he
    have := blk_b (hb s h1) (blk_mem.mpr ⟨t, k, h2, h3, h4⟩)
    omega
  · obtain ⟨r, r1, r2⟩ := hH (c / 2048) (c % 2048 / 512) (c % 512) (by omega) (by omega) (by omega)
    have hbo := hb (c / 2048) (by omega)
    refine ⟨r, r1, ?_⟩
    have at_e : ∀ e, e ∈ elB b g p → ∃ s t k, s < g ∧ t ∈ (b p s).1 ∧ k < (b p s).2.1 ∧ e.1 = 2048 * s + 512 * t + k ∧ t < 4 ∧ k < 512 := fun e he => by
      obtain ⟨s, t, k, h1, h2, h3, h4⟩ := elB_mem.mp he
      have h5 := (hb s h1).1 t h2
      have h6 := (hb s h1).2.2
      exact ⟨s, t, k, h1, h2, h3, by rw [h4], h5, by omega⟩
    rcases r2 with ⟨e, q1, q2⟩ | ⟨e, q⟩ | ⟨e, q1, q2⟩
    · exact Or.inl ⟨e, _, elB_mem.mpr ⟨c / 2048, c % 2048 / 512, c % 512, by omega, q1, q2, rfl⟩, by show 2048 * (c / 2048) + 512 * (c % 2048 / 512) + c % 512 = c; omega⟩
    · refine Or.inr (Or.inl ⟨e, fun e' he hc' => ?_⟩)
      obtain ⟨s, t, k, h1, h2, h3, h4, h5, h6⟩ := at_e e' he
      have es : s = c / 2048 := by omega
      have et : t = c % 2048 / 512 := by omega
      have hk : c % 512 ≤ k := by omega
      rw [es, et] at h2
      rw [es] at h3
      exact q ⟨h2, by omega⟩
    · refine Or.inr (Or.inr ⟨e, fun e' he hc' => ?_⟩)
      obtain ⟨s, t, k, h1, h2, h3, h4, h5, h6⟩ := at_e e' he
      have es : s = c / 2048 := by omega
      rw [es] at h2 h3
      by_cases et : t = c % 2048 / 512
      · rw [et] at h2
        exact q1 ⟨h2, by omega⟩
      · exact q2 t h2 (by omega)
/-- an edge's cursor, taken apart -/
theorem cur_d {s t k : Nat} (hs : s < 3) (ht : t < 4) (hk : k < 512) : nI (2048 * s + 512 * t + k) / 2048 = nI s ∧ (nI (2048 * s + 512 * t + k) - nI (2048 * s + 512 * t + k) / 2048 * 2048) / 512 = nI t ∧ nI (2048 * s + 512 * t + k) - nI (2048 * s + 512 * t + k) / 512 * 512 = nI k := by
  refine ⟨?_, ?_, ?_⟩
  · refine (nI_dv (b := 2048) (by omega) (by decide)).trans ?_
    congr 1
    omega
  · rw [show nI (2048 * s + 512 * t + k) - nI (2048 * s + 512 * t + k) / 2048 * 2048 = nI ((2048 * s + 512 * t + k) % 2048) from nI_rem (b := 2048) (by omega) (by decide)]
    refine (nI_dv (b := 512) (by omega) (by decide)).trans ?_
    congr 1
    omega
  · refine (nI_rem (b := 512) (by omega) (by decide)).trans ?_
    congr 1
    omega
/-! the list of a block, place by place -/
theorem fmr_len {n : Nat} {f : Nat → Nat → Nat} : ∀ (T : List Nat), (T.flatMap (fun t => (List.range n).map (f t))).length = T.length * n
  | [] => by simp
  | t :: T => by
    rw [List.flatMap_cons, List.length_append, fmr_len T, List.length_map, List.length_range, List.length_cons, Nat.succ_mul]
    omega
theorem rng_at {n i : Nat} {f : Nat → Nat} (h : i < n) : ((List.range n).map f).getD i 0 = f i := by
  rw [List.getD_eq_getElem?_getD, List.getElem?_map, List.getElem?_range h]
  rfl
theorem fmr_at {n : Nat} {f : Nat → Nat → Nat} : ∀ (T : List Nat) (i : Nat), i < T.length * n → (T.flatMap (fun t => (List.range n).map (f t))).getD i 0 = f (T.getD (i / n) 0) (i % n)
  | [], i, h => by rw [List.length_nil, Nat.zero_mul] at h; exact absurd h (Nat.not_lt_zero _)
  | t :: T, i, h => by
    have n0 : 0 < n := by
      cases n with
      | zero => rw [Nat.mul_zero] at h; exact absurd h (Nat.not_lt_zero _)
      | succ n => exact Nat.succ_pos n
    rw [List.flatMap_cons]
    have hl : ((List.range n).map (f t)).length = n := by rw [List.length_map, List.length_range]
    by_cases c : i < n
    · rw [getD_app (by rw [hl]; exact c), rng_at c, Nat.div_eq_of_lt c, Nat.mod_eq_of_lt c]
      rfl
    · rw [getD_r (by rw [hl]; omega), hl]
      rw [List.length_cons, Nat.succ_mul] at h
      rw [fmr_at T (i - n) (by omega)]
      obtain ⟨j, rfl⟩ : ∃ j, i = j + n := ⟨i - n, by omega⟩
      rw [Nat.add_sub_cancel, Nat.add_div_right _ n0, Nat.add_mod_right]
      rfl
