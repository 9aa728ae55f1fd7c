/-! rounds: the reference goes round -/
theorem rchN_i {sc1 sc2 : Nat → List Nat} {V : Nat → Prop} {φ : Nat → Nat} (hV : ∀ x, V x → ∀ t, t ∈ sc1 x → V t) (h1 : ∀ x, V x → ∀ t, t ∈ sc1 x → φ t ∈ sc2 (φ x)) : ∀ (k x y : Nat), V x → rchN sc1 k x y → V y ∧ rchN sc2 k (φ x) (φ y) := by
  intro k
  induction k with
  | zero => intro x y hx h; have h : x = y := h; rw [← h]; exact ⟨hx, rfl⟩
  | succ k ih =>
    rintro x y hx ⟨u, u1, u2⟩
    obtain ⟨i1, i2⟩ := ih u y (hV x hx u u1) u2
    exact ⟨i1, φ u, h1 x hx u u1, i2⟩
theorem rchN_j {sc1 sc2 : Nat → List Nat} {V : Nat → Prop} {φ : Nat → Nat} (hV : ∀ x, V x → ∀ t, t ∈ sc1 x → V t) (h2 : ∀ x, V x → ∀ t', t' ∈ sc2 (φ x) → ∃ t, t ∈ sc1 x ∧ φ t = t') : ∀ (k x y' : Nat), V x → rchN sc2 k (φ x) y' → ∃ y, V y ∧ φ y = y' ∧ rchN sc1 k x y := by
  intro k
  induction k with
  | zero => intro x y' hx h; exact ⟨x, hx, h, rfl⟩
  | succ k ih =>
    rintro x y' hx ⟨u', u1, u2⟩
    obtain ⟨u, v1, v2⟩ := h2 x hx u' u1
    rw [← v2] at u2
    obtain ⟨y, y1, y2, y3⟩ := ih u y' (hV x hx u v1) u2
    exact ⟨y, y1, y2, u, v1, y3⟩
theorem lp_iso {sc1 sc2 : Nat → List Nat} {V : Nat → Prop} {φ : Nat → Nat} (hV : ∀ x, V x → ∀ t, t ∈ sc1 x → V t) (h1 : ∀ x, V x → ∀ t, t ∈ sc1 x → φ t ∈ sc2 (φ x)) (h2 : ∀ x, V x → ∀ t', t' ∈ sc2 (φ x) → ∃ t, t ∈ sc1 x ∧ φ t = t') (hi : ∀ x y, V x → V y → φ x = φ y → x = y) {x : Nat} (hx : V x) : lpP sc1 x ↔ lpP sc2 (φ x) := by
  constructor
  · rintro ⟨u, u1, k, u2⟩
    exact ⟨φ u, h1 x hx u u1, k, (rchN_i hV h1 k u x (hV x hx u u1) u2).2⟩
  · rintro ⟨u', u1, k, u2⟩
    obtain ⟨u, v1, v2⟩ := h2 x hx u' u1
    rw [← v2] at u2
    obtain ⟨y, y1, y2, y3⟩ := rchN_j hV h2 k u (φ x) (hV x hx u v1) u2
    rw [hi y x y1 hx y2] at y3
    exact ⟨u, v1, k, y3⟩
theorem gd_iso {sc1 sc2 : Nat → List Nat} {V : Nat → Prop} {φ : Nat → Nat} {mk1 mk2 : Nat → Bool} (hV : ∀ x, V x → ∀ t, t ∈ sc1 x → V t) (h1 : ∀ x, V x → ∀ t, t ∈ sc1 x → φ t ∈ sc2 (φ x)) (h2 : ∀ x, V x → ∀ t', t' ∈ sc2 (φ x) → ∃ t, t ∈ sc1 x ∧ φ t = t') (hi : ∀ x y, V x → V y → φ x = φ y → x = y) (hm : ∀ x, V x → mk2 (φ x) = mk1 x) {x : Nat} (hx : V x) : gdP sc1 mk1 x ↔ gdP sc2 mk2 (φ x) := by
  constructor
  · rintro ⟨w, ⟨k, w1⟩, w2, w3⟩
    obtain ⟨i1, i2⟩ := rchN_i hV h1 k x w hx w1
    exact ⟨φ w, ⟨k, i2⟩, by rw [hm w i1]; exact w2, (lp_iso hV h1 h2 hi i1).mp w3⟩
  · rintro ⟨w', ⟨k, w1⟩, w2, w3⟩
    obtain ⟨w, y1, y2, y3⟩ := rchN_j hV h2 k x w' hx w1
    rw [← y2] at w2 w3
    exact ⟨w, ⟨k, y3⟩, by rw [← hm w y1]; exact w2, (lp_iso hV h1 h2 hi y1).mpr w3⟩
/-- the reference's graph of points of a round -/
def bR (b : gB) (rd : List Nat) : gB := fun p s => if s = rd.getD (p % 10) 0 then ((b (p / 10) s).1, (b (p / 10) s).2.1, fun t k => 10 * (b (p / 10) s).2.2 t k + (p % 10 + 1) % rd.length) else ([], 0, fun _ _ => 0)
def rvV (G : gG) (rd : List Nat) (p : Nat) : Prop := p / 10 < GN G ∧ p % 10 < rd.length
theorem bR_o {b : gB} {rd : List Nat} {p s : Nat} (h : bkO (b (p / 10) s)) : bkO (bR b rd p s) := by
  unfold bR
  by_cases c : s = rd.getD (p % 10) 0
  · rw [if_pos c]; exact ⟨h.1, h.2.1, h.2.2⟩
  · rw [if_neg c]; exact ⟨fun t ht => (nomatch ht), List.Pairwise.nil, by show 0 ≤ 512; decide⟩
theorem bR_mem {G : gG} {b : gB} {rd : List Nat} {p t' : Nat} (hS : ∀ v s, v < GN G → s < GL G → GS G v s = gsB b v s) (hrd : ∀ s, s ∈ rd → s < GL G) (hp : rvV G rd p) : t' ∈ esc (elB (bR b rd) (GL G)) p ↔ ∃ u, u ∈ GS G (p / 10) (rd.getD (p % 10) 0) ∧ t' = 10 * u + (p % 10 + 1) % rd.length := by
  have hs := hrd _ (getD_mem hp.2)
  rw [esc_mem, hS _ _ hp.1 hs]
  constructor
  · rintro ⟨e, e1, e2⟩
    obtain ⟨s, t, k, h1, h2, h3, h4⟩ := elB_mem.mp e1
    by_cases c : s = rd.getD (p % 10) 0
    · have eb : bR b rd p s = ((b (p / 10) s).1, (b (p / 10) s).2.1, fun t k => 10 * (b (p / 10) s).2.2 t k + (p % 10 + 1) % rd.length) := if_pos c
      rw [eb] at h2 h3 h4
      refine ⟨(b (p / 10) s).2.2 t k, ?_, ?_⟩
      · rw [← c]; exact gsB_m.mpr ⟨t, k, h2, h3, rfl⟩
      · rw [← e2, h4]
    · have eb : bR b rd p s = ([], 0, fun _ _ => 0) := if_neg c
      rw [eb] at h2
      exact nomatch h2
  · rintro ⟨u, u1, u2⟩
    obtain ⟨t, k, q1, q2, q3⟩ := gsB_m.mp u1
    have eb : bR b rd p (rd.getD (p % 10) 0) = ((b (p / 10) (rd.getD (p % 10) 0)).1, (b (p / 10) (rd.getD (p % 10) 0)).2.1, fun t k => 10 * (b (p / 10) (rd.getD (p % 10) 0)).2.2 t k + (p % 10 + 1) % rd.length) := if_pos rfl
    refine ⟨_, elB_mem.mpr ⟨rd.getD (p % 10) 0, t, k, hs, by rw [eb]; exact q1, by rw [eb]; exact q2, rfl⟩, ?_⟩
    rw [eb, u2, q3]
theorem bR_bO {G : gG} {b : gB} {rd : List Nat} (hG : gOk G) (hN : GN G ≤ 300) (hm : rd.length ≤ 10) (hS : ∀ v s, v < GN G → s < GL G → GS G v s = gsB b v s) (hb : ∀ v s, v < GN G → s < GL G → bkO (b v s)) (hrd : ∀ s, s ∈ rd → s < GL G) : bO (rvV G rd) (elB (bR b rd) (GL G)) := by
  refine ⟨fun p hp => by have := hp.1; omega, fun p hp => ⟨elB_so (fun s hs => bR_o (hb _ s hp.1 hs)), fun e he => ⟨?_, ?_⟩⟩⟩
  · obtain ⟨s, t, k, h1, h2, h3, h4⟩ := elB_mem.mp he
    have := blk_b (bR_o (rd := rd) (hb _ s hp.1 h1)) (blk_mem.mpr ⟨t, k, h2, h3, h4⟩)
    have := hG.2.1
    omega
  · obtain ⟨u, u1, u2⟩ := (bR_mem hS hrd hp).mp (esc_mem.mpr ⟨e, he, rfl⟩)
    have hs := hrd _ (getD_mem hp.2)
    have := (hG.2.2 _ hp.1 _ hs).2 u u1
    have h0 : 0 < rd.length := by have := hp.2; omega
    have := Nat.mod_lt (p % 10 + 1) h0
    rw [u2]
    exact ⟨by omega, by omega⟩
/-- both go round alike -/
theorem rGd_r {G : gG} {b : gB} {rd : List Nat} {u : Nat} (hG : gOk G) (hN : GN G ≤ 300) (hm : rd.length ≤ 10) (hm1 : 1 ≤ rd.length) (hS : ∀ v s, v < GN G → s < GL G → GS G v s = gsB b v s) (hrd : ∀ s, s ∈ rd → s < GL G) (hu : u < GN G) : rGd G rd u ↔ gdP (esc (elB (bR b rd) (GL G))) (fun p => GM G (p / 10)) (10 * u) := by
  have n0 : 0 < GN G := by omega
  have hK := GRc_ok (fr := fun _ => false) hG hN hm hrd
  have fx : ∀ x, x < GN G * rd.length → x % GN G < GN G ∧ x / GN G < rd.length ∧ (10 * (x % GN G) + x / GN G) / 10 = x % GN G ∧ (10 * (x % GN G) + x / GN G) % 10 = x / GN G := fun x hx => by
    have q1 := Nat.mod_lt x n0
    have q2 : x / GN G < rd.length := (Nat.div_lt_iff_lt_mul n0).mpr (by rw [Nat.mul_comm]; exact hx)
    generalize x % GN G = y at q1 ⊢
    generalize x / GN G = z at q2 ⊢
    exact ⟨q1, q2, by omega, by omega⟩
  have gm : ∀ x, x < GN G * rd.length → ∀ t, t ∈ gsc (GRc G rd (fun _ => false)) x ↔ ∃ w, w ∈ GS G (x % GN G) (rd.getD (x / GN G) 0) ∧ t = if x / GN G + 1 < rd.length then (x / GN G + 1) * GN G + w else w := fun x hx t => by
    rw [gsc_mem]
    constructor
    · rintro ⟨s, s1, s2⟩
      obtain ⟨w, w1, w2⟩ := List.mem_map.mp s2
      exact ⟨w, w1, w2.symm⟩
    · rintro ⟨w, w1, w2⟩
      exact ⟨0, by show 0 < 1; decide, List.mem_map.mpr ⟨w, w1, w2.symm⟩⟩
  have ph : ∀ x, x < GN G * rd.length → ∀ w, w < GN G → 10 * ((if x / GN G + 1 < rd.length then (x / GN G + 1) * GN G + w else w) % GN G) + (if x / GN G + 1 < rd.length then (x / GN G + 1) * GN G + w else w) / GN G = 10 * w + (x / GN G + 1) % rd.length := fun x hx w hw => by
    have q2 := (fx x hx).2.1
    generalize x / GN G = z at q2 ⊢
    by_cases c : z + 1 < rd.length
    · rw [if_pos c, Nat.mul_comm (z + 1) (GN G), Nat.mul_add_mod, Nat.mod_eq_of_lt hw, Nat.mul_add_div n0, Nat.div_eq_of_lt hw, Nat.add_zero, Nat.mod_eq_of_lt c]
    · have e : z + 1 = rd.length := by omega
      rw [if_neg c, e, Nat.mod_self, Nat.mod_eq_of_lt hw, Nat.div_eq_of_lt hw]
  have u0 : (10 * u) = 10 * (u % GN G) + u / GN G := by rw [Nat.mod_eq_of_lt hu, Nat.div_eq_of_lt hu]; omega
  have uN : u < GN G * rd.length := by
    have : GN G * 1 ≤ GN G * rd.length := Nat.mul_le_mul_left _ hm1
    omega
  rw [u0]
  unfold rGd
  refine gd_iso (V := fun x => x < GN G * rd.length) (φ := fun x => 10 * (x % GN G) + x / GN G) (fun x hx t ht => hK.sc hx ht) (fun x hx t ht => ?_) (fun x hx t' ht => ?_) (fun x y hx hy e => ?_) (fun x hx => ?_) uN
  · obtain ⟨f1, f2, f3, f4⟩ := fx x hx
    obtain ⟨w, w1, w2⟩ := (gm x hx t).mp ht
    have hw := (hG.2.2 _ f1 _ (hrd _ (getD_mem f2))).2 w w1
    refine (bR_mem hS hrd ⟨by rw [f3]; exact f1, by rw [f4]; exact f2⟩).mpr ⟨w, by rw [f3, f4]; exact w1, ?_⟩
    rw [w2, f4]
    exact ph x hx w hw
  · obtain ⟨f1, f2, f3, f4⟩ := fx x hx
    obtain ⟨w, w1, w2⟩ := (bR_mem hS hrd ⟨by rw [f3]; exact f1, by rw [f4]; exact f2⟩).mp ht
    rw [f3, f4] at w1
    rw [f4] at w2
    have hw := (hG.2.2 _ f1 _ (hrd _ (getD_mem f2))).2 w w1
    exact ⟨_, (gm x hx _).mpr ⟨w, w1, rfl⟩, (ph x hx w hw).trans w2.symm⟩
  · obtain ⟨f1, f2, f3, f4⟩ := fx x hx
    obtain ⟨g1, g2, g3, g4⟩ := fx y hy
    have e : 10 * (x % GN G) + x / GN G = 10 * (y % GN G) + y / GN G := e
    rw [e] at f3 f4
    have e1 : x % GN G = y % GN G := f3.symm.trans g3
    have e2 : x / GN G = y / GN G := f4.symm.trans g4
    rw [← Nat.div_add_mod x (GN G), ← Nat.div_add_mod y (GN G), e1, e2]
  · show GM G ((10 * (x % GN G) + x / GN G) / 10) = GM G (x % GN G)
    rw [(fx x hx).2.2.1]
/-- all is met, and one that is good is found or none -/
theorem x_tk25 {V : Nat → Prop} {el : Nat → List (Nat × Nat)} {mk : Nat → Bool} {S0 : bS} {τ : sS} {F : Nat} (hO : bO V el) (hE : ∀ υ, fm wM wK τ υ → ∀ p, V p → rEd el p υ ∧ ∀ e, e ∈ el p → L_X12_goesBy (nI p) (nI e.1) υ = some (nI e.2, υ)) (hM : ∀ υ, fm wM wK τ υ → ∀ v, V v → L_X12_isMarked (nI v) υ = some (if mk v = true then 1 else 0)) (hF : 40000000 < F) (hB : rBf S0 τ) (hV : ∀ x, x ∈ S0.1 → V x) : ∃ υ, L_X12_isTaken_25 F τ = some (if bP (∃ f, f ∈ S0.1 ∧ gdP (esc el) mk f) = true then 1 else 0, υ) ∧ fm wM wK τ υ := by
  obtain ⟨-, -, b3, b4, b5⟩ := bA_ok hO 3001 0 S0 (by omega) hB.2.2.2.2.1 hV (Nat.zero_le _) (fun i hi => absurd hi (Nat.not_lt_zero i))
  have bx : ∀ x, x ∈ S0.1 → x ∈ (bA el 3001 0 S0).1 := fun x hx => (bX_bA (el := el) 3001 0 S0).m hx
  have hJ : bJ V el (fun S υ => fm wM wK τ υ ∧ ∀ x, x ∈ S.1 → V x) := by
    refine ⟨hO, fun S υ ω h f => ⟨h.1.tr f, h.2⟩, fun S υ p h hp => (hE υ h.1 p (h.2 p hp)).1, fun S υ p e h hR hp he => ⟨υ, (hE υ h.1 p (h.2 p hp)).2 e he, hR, fun ω f => ⟨h.1.tr f, fun x hx => ?_⟩⟩⟩
    rcases bm_m hx with q | q
    · exact h.2 x q
    · rw [q]; exact ((hO.2 p (h.2 p hp)).2 e he).2
  obtain ⟨υ1, r1, r2, r3, r4⟩ := x_meetsAll hJ (F := F) (by omega) (S := S0) (τ := τ) ⟨fm.rf, hV⟩ hB hV
  have mo : ∀ {σ ω : sS}, fm deM deK σ ω → fm wM wK σ ω := fun f => f.mo (by decide) (by decide)
  obtain ⟨υ, r, a1, a2, a3⟩ := x_found (F := F) (mk := mk) hO b3 b4 (fun ω f p hp => hE ω (r2.1.tr (mo f)) p (b3 p hp)) (fun ω f v hv => hM ω (r2.1.tr (mo f)) v (b3 v hv)) hF r3
  refine ⟨υ, ?_, r2.1.tr (mo a2)⟩
  unfold L_X12_isTaken_25
  rw [r1, bd_s, a1, bd2_s]
  generalize (bA el 3001 0 S0).1 = T at a3 b3 b4 b5 bx
  rcases a3 with ⟨e, a3⟩ | ⟨i, i1, i2, i3, e⟩
  · rw [e, if_pos rfl, if_neg (fun q => ?_)]
    obtain ⟨f, f1, w, ⟨k, w1⟩, w2, w3⟩ := bP_t.mp q
    have fT : f ∈ T := bx f f1
    have wT := rchN_in (p := fun x => x ∈ T) (fun v hv t ht => by
      obtain ⟨e', e1, e2⟩ := esc_mem.mp ht
      rw [← e2]; exact b4 v hv e' e1) fT w1
    obtain ⟨i, i1, i2⟩ := mem_getD wT
    exact a3 i i1 (by rw [i2]; exact ⟨w2, w3⟩)
  · have pm := getD_mem i1
    have p3 := hO.1 _ (b3 _ pm)
    rw [e, if_neg (nI_n1' (by omega)), if_pos]
    obtain ⟨f, f1, f2⟩ := b5 _ pm
    exact bP_t.mpr ⟨f, f1, _, f2, i2.1, i2.2⟩
