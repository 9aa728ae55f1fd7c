/-! going deep, in the abstract: an old one is looked at; one goes back -/
theorem TI.top {sc : Nat → List Nat} {mk : Nat → Bool} {od lo cu : Nat → Nat} {gd lp : Nat → Bool} {hs pr : List Nat} {ne v : Nat} (h : TI sc mk od lo cu gd lp hs (v :: pr) ne) : (∀ p, p ∈ v :: pr → od p ≤ od v) ∧ ∀ p, p ∈ pr → od p < od v := by
  have a5 := h.1.2.2.2.2.1
  have := List.pairwise_cons.mp a5
  refine ⟨fun p hp => ?_, fun p hp => this.1 p hp⟩
  rcases List.mem_cons.mp hp with q | q
  · rw [q]; exact Nat.le_refl _
  · exact Nat.le_of_lt (this.1 p q)
theorem TI.lookH {sc : Nat → List Nat} {mk : Nat → Bool} {od lo cu : Nat → Nat} {gd lp : Nat → Bool} {hs pr r : List Nat} {ne v t : Nat} (h : TI sc mk od lo cu gd lp hs (v :: pr) ne) (hd : (sc v).drop (cu v) = t :: r) (ht : t ∈ hs) : TI sc mk od (pu lo v (min (lo v) (od t))) (pu cu v (cu v + 1)) gd lp hs (v :: pr) ne := by
  obtain ⟨T1, -⟩ := h.top
  obtain ⟨⟨a1, a2, a3, a4, a5, a6, a7, a8⟩, b, c, d, e, f, g, k⟩ := h
  have vh : v ∈ hs := a6 v List.mem_cons_self
  have ll : ∀ w, pu lo v (min (lo v) (od t)) w ≤ lo w := by
    intro w
    by_cases q : w = v
    · rw [q, pu_s]; exact Nat.min_le_left _ _
    · rw [pu_n q]; exact Nat.le_refl _
  refine ⟨⟨a1, a2, a3, a4, a5, a6, a7, fun x hx => ?_⟩, fun w hw => ?_, fun w hw x hx => ?_, fun w hw q => ?_, fun w hw => ?_, f, g, fun u hu x hx hxh p hp h1 h2 => ?_⟩
  · have e2 : x ≠ v := fun q => a1 v vh (q ▸ hx)
    rw [pu_n e2]
    exact a8 x hx
  · obtain ⟨b1, u, u1, u2, u3⟩ := b w hw
    refine ⟨Nat.le_trans (ll w) b1, ?_⟩
    by_cases q : w = v
    · rw [q, pu_s]
      by_cases m : lo v ≤ od t
      · rw [Nat.min_eq_left m]
        rw [q] at u2 u3
        exact ⟨u, u1, u2, u3⟩
      · rw [Nat.min_eq_right (by omega)]
        exact ⟨t, ht, rfl, rch.e (drop_in hd)⟩
    · rw [pu_n q]
      exact ⟨u, u1, u2, u3⟩
  · rcases (tE_s hd w).mp hx with hx | ⟨e1, e2⟩
    · obtain ⟨c1, c2, c3⟩ := c w hw x hx
      exact ⟨c1, fun z => Nat.le_trans (ll w) (c2 z), c3⟩
    · rw [e1, e2, pu_s]
      exact ⟨a1 t ht, fun _ => Nat.min_le_right _ _, fun z => absurd ht z⟩
  · have wv : w ≠ v := fun y => q (y ▸ List.mem_cons_self)
    rw [pu_n wv, pu_n wv]
    exact d w hw q
  · by_cases q : w = v
    · rw [q]
      exact ⟨v, List.mem_cons_self, Nat.le_refl _, rch.rf, Nat.le_refl _, fun p _ hp => hp⟩
    · obtain ⟨p, p1, p2, p3, p4, p5⟩ := e w hw
      exact ⟨p, p1, p2, p3, by rw [pu_n q]; exact Nat.le_trans (ll p) p4, p5⟩
  · rcases (tE_s hd u).mp hx with hx | ⟨e1, e2⟩
    · exact k u hu x hx hxh p hp h1 h2
    · have := T1 p hp
      rw [e1] at h1
      omega
theorem TI.lookR {sc : Nat → List Nat} {mk : Nat → Bool} {od lo cu : Nat → Nat} {gd lp : Nat → Bool} {hs pr r : List Nat} {ne v t : Nat} (h : TI sc mk od lo cu gd lp hs (v :: pr) ne) (hd : (sc v).drop (cu v) = t :: r) (ht0 : od t ≠ 0) (ht : t ∉ hs) : TI sc mk od lo (pu cu v (cu v + 1)) (pu gd v (gd v || gd t)) lp hs (v :: pr) ne := by
  obtain ⟨T1, -⟩ := h.top
  obtain ⟨⟨a1, a2, a3, a4, a5, a6, a7, a8⟩, b, c, d, e, f, g, k⟩ := h
  have vh : v ∈ hs := a6 v List.mem_cons_self
  have nh : ∀ {x : Nat}, x ∉ hs → pu gd v (gd v || gd t) x = gd x := fun hx => pu_n (fun q => hx (q ▸ vh))
  have up : ∀ w, gd w = true → pu gd v (gd v || gd t) w = true := by
    intro w hw
    by_cases q : w = v
    · rw [q, pu_s]; rw [q] at hw; rw [hw]; rfl
    · rw [pu_n q]; exact hw
  refine ⟨⟨a1, a2, a3, a4, a5, a6, a7, fun x hx => ?_⟩, b, fun w hw x hx => ?_, fun w hw q => ?_, e, fun w hw hn => ?_, fun w hw hg => ?_, fun u hu x hx hxh p hp h1 h2 => ?_⟩
  · have e2 : x ≠ v := fun q => a1 v vh (q ▸ hx)
    rw [pu_n e2, pu_n e2]
    exact a8 x hx
  · rcases (tE_s hd w).mp hx with hx | ⟨e1, e2⟩
    · obtain ⟨c1, c2, c3⟩ := c w hw x hx
      exact ⟨c1, c2, fun z q => up w (c3 z (by rw [nh z] at q; exact q))⟩
    · rw [e1, e2]
      refine ⟨ht0, fun z => absurd z ht, fun _ q => ?_⟩
      rw [nh ht] at q
      rw [pu_s, q, Bool.or_true]
  · have wv : w ≠ v := fun y => q (y ▸ List.mem_cons_self)
    rw [pu_n wv]
    exact d w hw q
  · obtain ⟨f1, f2, f3⟩ := f w hw hn
    rw [nh hn]
    exact ⟨f1, f2, f3⟩
  · by_cases q : w = v
    · rw [q, pu_s] at hg
      rw [q]
      rcases Bool.or_eq_true_iff.mp hg with z | z
      · exact g v vh z
      · exact (((f t ht0 ht).2.2).mp z).b (rch.e (drop_in hd))
    · rw [pu_n q] at hg
      exact g w hw hg
  · rcases (tE_s hd u).mp hx with hx | ⟨e1, e2⟩
    · exact k u hu x hx hxh p hp h1 h2
    · have := T1 p hp
      rw [e1] at h1
      omega
/-- back to the one before, which is held still -/
theorem TI.back {sc : Nat → List Nat} {mk : Nat → Bool} {od lo cu : Nat → Nat} {gd lp : Nat → Bool} {hs pr : List Nat} {ne v b' : Nat} (h : TI sc mk od lo cu gd lp hs (v :: b' :: pr) ne) (hc : cu v = (sc v).length) (hl : lo v < od v) : TI sc mk od (pu lo b' (min (lo b') (lo v))) cu (pu gd b' (gd b' || gd v)) lp hs (b' :: pr) ne := by
  obtain ⟨T1, T2⟩ := h.top
  obtain ⟨⟨a1, a2, a3, a4, a5, a6, a7, a8⟩, b, c, d, e, f, g, k⟩ := h
  have a5' := (List.pairwise_cons.mp a5).2
  have T3 : ∀ p, p ∈ b' :: pr → od p ≤ od b' := fun p hp => by
    rcases List.mem_cons.mp hp with q | q
    · rw [q]; exact Nat.le_refl _
    · exact Nat.le_of_lt ((List.pairwise_cons.mp a5').1 p q)
  have vh : v ∈ hs := a6 v List.mem_cons_self
  have bp : b' ∈ v :: b' :: pr := List.mem_cons_of_mem _ List.mem_cons_self
  have bh : b' ∈ hs := a6 b' bp
  have bv : od b' < od v := T2 b' List.mem_cons_self
  have ed : v ∈ sc b' := a7 v b' ⟨[], pr, rfl⟩
  have ll : ∀ w, pu lo b' (min (lo b') (lo v)) w ≤ lo w := by
    intro w
    by_cases q : w = b'
    · rw [q, pu_s]; exact Nat.min_le_left _ _
    · rw [pu_n q]; exact Nat.le_refl _
  have nh : ∀ {x : Nat}, x ∉ hs → pu gd b' (gd b' || gd v) x = gd x := fun hx => pu_n (fun q => hx (q ▸ bh))
  have up : ∀ w, gd w = true → pu gd b' (gd b' || gd v) w = true := by
    intro w hw
    by_cases q : w = b'
    · rw [q, pu_s]; rw [q] at hw; rw [hw]; rfl
    · rw [pu_n q]; exact hw
  refine ⟨⟨a1, a2, a3, a4, a5', fun p hp => a6 p (List.mem_cons_of_mem _ hp), fun x u q => a7 x u q.c, fun x hx => ?_⟩, fun w hw => ?_, fun w hw x hx => ?_, fun w hw q => ?_, fun w hw => ?_, fun w hw hn => ?_, fun w hw hg => ?_, fun u hu x hx hxh p hp h1 h2 => ?_⟩
  · have e2 : x ≠ b' := fun q => a1 b' bh (q ▸ hx)
    rw [pu_n e2]
    exact a8 x hx
  · obtain ⟨b1, u, u1, u2, u3⟩ := b w hw
    refine ⟨Nat.le_trans (ll w) b1, ?_⟩
    by_cases q : w = b'
    · rw [q, pu_s]
      by_cases m : lo b' ≤ lo v
      · rw [Nat.min_eq_left m]
        rw [q] at u2 u3
        exact ⟨u, u1, u2, u3⟩
      · rw [Nat.min_eq_right (by omega)]
        obtain ⟨-, x, x1, x2, x3⟩ := b v vh
        exact ⟨x, x1, x2, (rch.e ed).tr x3⟩
    · rw [pu_n q]
      exact ⟨u, u1, u2, u3⟩
  · obtain ⟨c1, c2, c3⟩ := c w hw x hx
    exact ⟨c1, fun z => Nat.le_trans (ll w) (c2 z), fun z q => up w (c3 z (by rw [nh z] at q; exact q))⟩
  · have wb : w ≠ b' := fun y => q (y ▸ List.mem_cons_self)
    rw [pu_n wb]
    by_cases wv : w = v
    · rw [wv]; exact ⟨hc, hl⟩
    · refine d w hw (fun z => ?_)
      rcases List.mem_cons.mp z with z | z
      · exact wv z
      · exact q z
  · by_cases q : w = b'
    · rw [q]
      exact ⟨b', List.mem_cons_self, Nat.le_refl _, rch.rf, Nat.le_refl _, fun p _ hp => hp⟩
    · obtain ⟨p, p1, p2, p3, p4, p5⟩ := e w hw
      rw [pu_n q]
      by_cases pv : p = v
      · rw [pv] at p2 p3 p4
        refine ⟨b', List.mem_cons_self, by omega, (rch.e ed).tr p3, ?_, fun x hx _ => T3 x hx⟩
        rw [pu_s]
        exact Nat.le_trans (Nat.min_le_right _ _) p4
      · have p1' : p ∈ b' :: pr := (List.mem_cons.mp p1).resolve_left pv
        exact ⟨p, p1', p2, p3, Nat.le_trans (ll p) p4, fun x hx hle => p5 x (List.mem_cons_of_mem _ hx) hle⟩
  · obtain ⟨f1, f2, f3⟩ := f w hw hn
    rw [nh hn]
    exact ⟨f1, f2, f3⟩
  · by_cases q : w = b'
    · rw [q, pu_s] at hg
      rw [q]
      rcases Bool.or_eq_true_iff.mp hg with z | z
      · exact g b' bh z
      · exact (g v vh z).b (rch.e ed)
    · rw [pu_n q] at hg
      exact g w hw hg
  · rcases (k u hu x hx hxh p (List.mem_cons_of_mem _ hp) h1 h2).i with z | ⟨z1, l, z2⟩
    · exact z
    · injection z2 with z2
      have := T3 p hp
      rw [z2] at this
      omega
/-- back, and what is held from v on is let go -/
theorem TI.rel {sc : Nat → List Nat} {mk : Nat → Bool} {od lo cu : Nat → Nat} {gd lp gd' lp' : Nat → Bool} {sg hr pr : List Nat} {ne v : Nat} {il gA : Bool} (h : TI sc mk od lo cu gd lp (sg ++ v :: hr) (v :: pr) ne) (hc : cu v = (sc v).length) (hl : lo v = od v) (hil : il = true ↔ sg ≠ [] ∨ v ∈ sc v) (hgA : gA = true ↔ (∃ m, m ∈ v :: sg ∧ gd m = true) ∨ (il = true ∧ ∃ m, m ∈ v :: sg ∧ mk m = true)) (h1 : ∀ w, w ∈ v :: sg → lp' w = il ∧ gd' w = gA) (h2 : ∀ w, w ∉ v :: sg → lp' w = lp w) (h3 : ∀ w, w ∉ v :: sg → (∀ l, pr ≠ w :: l) → gd' w = gd w) (h4 : ∀ b l, pr = b :: l → gd' b = (gd b || gA)) : TI sc mk od lo cu gd' lp' hr pr ne := by
  obtain ⟨T1, T2⟩ := h.top
  obtain ⟨⟨a1, a2, a3, a4, a5, a6, a7, a8⟩, b, c, d, e, f, g, k⟩ := h
  obtain ⟨w1, w2, w3⟩ := List.pairwise_append.mp a4
  obtain ⟨w4, w5⟩ := List.pairwise_cons.mp w2
  have S1 : ∀ w, w ∈ v :: sg → w ∈ sg ++ v :: hr ∧ od v ≤ od w := by
    intro w hw
    rcases List.mem_cons.mp hw with q | q
    · rw [q]; exact ⟨by simp, Nat.le_refl _⟩
    · exact ⟨List.mem_append.mpr (Or.inl q), Nat.le_of_lt (w3 w q v List.mem_cons_self)⟩
  have S2 : ∀ w, w ∈ hr → od w < od v := fun w hw => w4 w hw
  have inH : ∀ w, w ∈ hr → w ∈ sg ++ v :: hr := fun w hw => List.mem_append.mpr (Or.inr (List.mem_cons_of_mem _ hw))
  have S3 : ∀ w, w ∈ sg ++ v :: hr → od v ≤ od w → w ∈ v :: sg := by
    intro w hw hle
    rcases List.mem_append.mp hw with q | q
    · exact List.mem_cons_of_mem _ q
    · rcases List.mem_cons.mp q with z | z
      · rw [z]; exact List.mem_cons_self
      · have := S2 w z; omega
  have S5 : ∀ w, w ∈ sg ++ v :: hr → w ∉ v :: sg → w ∈ hr := by
    intro w hw hn
    rcases List.mem_append.mp hw with q | q
    · exact absurd (List.mem_cons_of_mem _ q) hn
    · rcases List.mem_cons.mp q with z | z
      · exact absurd (z ▸ List.mem_cons_self) hn
      · exact z
  have nS : ∀ w, w ∈ hr → w ∉ v :: sg := fun w hw q => by have := (S1 w q).2; have := S2 w hw; omega
  have S4 : ∀ p, p ∈ pr → p ∈ hr := by
    intro p hp
    refine S5 p (a6 p (List.mem_cons_of_mem _ hp)) (fun q => ?_)
    have := (S1 p q).2
    have := T2 p hp
    omega
  have vS : v ∈ v :: sg := List.mem_cons_self
  have vH : v ∈ sg ++ v :: hr := (S1 v vS).1
  have F1 : ∀ w, w ∈ v :: sg → rch sc v w ∧ lo v ≤ lo w := by
    intro w hw
    obtain ⟨s1, s2⟩ := S1 w hw
    obtain ⟨p, p1, p2, p3, p4, p5⟩ := e w s1
    have hp := p5 v List.mem_cons_self s2
    rcases List.mem_cons.mp p1 with q | q
    · rw [q] at p3 p4; exact ⟨p3, p4⟩
    · have := T2 p q; omega
  have F2 : ∀ (m w : Nat), od w ≤ m → w ∈ v :: sg → rch sc w v := by
    intro m
    induction m with
    | zero =>
      intro w hm hw
      exact absurd (show od w = 0 by omega) (a1 w (S1 w hw).1)
    | succ m ih =>
      intro w hm hw
      by_cases wv : w = v
      · rw [wv]; exact rch.rf
      · obtain ⟨s1, s2⟩ := S1 w hw
        have wp : w ∉ v :: pr := fun q => by
          have z := T1 w q
          have ze : od w = od v := by omega
          exact wv (a2 w v (a1 w s1) ze)
        obtain ⟨d1, d2⟩ := d w s1 wp
        obtain ⟨-, u, u1, u2, u3⟩ := b w s1
        have l1 := (F1 w hw).2
        exact u3.tr (ih u (by omega) (S3 u u1 (by omega)))
  have F2' : ∀ w, w ∈ v :: sg → rch sc w v := fun w hw => F2 (od w) w (Nat.le_refl _) hw
  have F3 : ∀ w, w ∈ v :: sg → cu w = (sc w).length := by
    intro w hw
    by_cases wv : w = v
    · rw [wv]; exact hc
    · obtain ⟨s1, s2⟩ := S1 w hw
      refine (d w s1 (fun q => ?_)).1
      have z := T1 w q
      have ze : od w = od v := by omega
      exact wv (a2 w v (a1 w s1) ze)
  have F4 : ∀ w, w ∈ v :: sg → ∀ t, t ∈ sc w → od t ≠ 0 ∧ (t ∈ v :: sg ∨ t ∉ sg ++ v :: hr) ∧ (t ∉ sg ++ v :: hr → gd t = true → gd w = true) := by
    intro w hw t ht
    obtain ⟨s1, s2⟩ := S1 w hw
    have htE : tE sc cu w t := by unfold tE; rw [F3 w hw, List.take_length]; exact ht
    obtain ⟨c1, c2, c3⟩ := c w s1 t htE
    refine ⟨c1, ?_, c3⟩
    by_cases q : t ∈ sg ++ v :: hr
    · have := c2 q
      have := (F1 w hw).2
      exact Or.inl (S3 t q (by omega))
    · exact Or.inr q
  have R0 : ∀ t, od t ≠ 0 ∧ t ∉ sg ++ v :: hr → ∀ x, x ∈ sc t → od x ≠ 0 ∧ x ∉ sg ++ v :: hr := fun t ht x hx => (f t ht.1 ht.2).1 x hx
  have R1 : ∀ t w, od t ≠ 0 → t ∉ sg ++ v :: hr → rch sc t w → w ∉ sg ++ v :: hr := by
    intro t w h0 hn hr'
    obtain ⟨k, hk⟩ := hr'
    exact (rchN_in (p := fun x => od x ≠ 0 ∧ x ∉ sg ++ v :: hr) R0 ⟨h0, hn⟩ hk).2
  have F5 : ∀ w, w ∈ v :: sg → (il = true ↔ lpP sc w) := by
    intro w hw
    constructor
    · intro hi
      rcases hil.mp hi with q | q
      · have two : ∃ x, x ∈ v :: sg ∧ x ≠ w := by
          by_cases wv : w = v
          · cases sg with
            | nil => exact absurd rfl q
            | cons y l =>
              refine ⟨y, List.mem_cons_of_mem _ List.mem_cons_self, fun z => ?_⟩
              have := w3 y List.mem_cons_self v List.mem_cons_self
              rw [z, wv] at this
              omega
          · exact ⟨v, vS, fun z => wv z.symm⟩
        obtain ⟨x, x1, x2⟩ := two
        obtain ⟨k, hk⟩ := (F2' w hw).tr (F1 x x1).1
        cases k with
        | zero => exact absurd hk.symm x2
        | succ k =>
          obtain ⟨u, u1, u2⟩ := hk
          exact ⟨u, u1, (show rch sc u x from ⟨k, u2⟩).tr ((F2' x x1).tr (F1 w hw).1)⟩
      · by_cases sn : sg = []
        · rw [sn] at hw
          rw [List.mem_singleton.mp hw]
          exact ⟨v, q, rch.rf⟩
        · have two : ∃ x, x ∈ v :: sg ∧ x ≠ w := by
            by_cases wv : w = v
            · cases sg with
              | nil => exact absurd rfl sn
              | cons y l =>
                refine ⟨y, List.mem_cons_of_mem _ List.mem_cons_self, fun z => ?_⟩
                have := w3 y List.mem_cons_self v List.mem_cons_self
                rw [z, wv] at this
                omega
            · exact ⟨v, vS, fun z => wv z.symm⟩
          obtain ⟨x, x1, x2⟩ := two
          obtain ⟨k, hk⟩ := (F2' w hw).tr (F1 x x1).1
          cases k with
          | zero => exact absurd hk.symm x2
          | succ k =>
            obtain ⟨u, u1, u2⟩ := hk
            exact ⟨u, u1, (show rch sc u x from ⟨k, u2⟩).tr ((F2' x x1).tr (F1 w hw).1)⟩
    · rintro ⟨u, u1, u2⟩
      refine hil.mpr ?_
      by_cases sn : sg = []
      · rw [sn] at hw
        have wv : w = v := List.mem_singleton.mp hw
        rw [wv] at u1 u2
        obtain ⟨c1, c2, -⟩ := F4 v vS u u1
        rcases c2 with q | q
        · rw [sn] at q
          rw [List.mem_singleton.mp q] at u1
          exact Or.inr u1
        · exact absurd vH (R1 u v c1 q u2)
      · exact Or.inl sn
  have F6 : ∀ w, w ∈ v :: sg → (gA = true ↔ gdP sc mk w) := by
    intro w hw
    have tov : ∀ m, m ∈ v :: sg → rch sc w m := fun m hm => (F2' w hw).tr (F1 m hm).1
    constructor
    · intro hg
      rcases hgA.mp hg with ⟨m, m1, m2⟩ | ⟨i1, m, m1, m2⟩
      · exact (g m (S1 m m1).1 m2).b (tov m m1)
      · exact ⟨m, tov m m1, m2, (F5 m m1).mp i1⟩
    · rintro ⟨x, ⟨k, hk⟩, x2, x3⟩
      refine hgA.mpr ?_
      rcases rchN_out (p := fun y => y ∈ v :: sg) hw hk with q | ⟨y, t, y1, y2, y3, y4⟩
      · exact Or.inr ⟨(F5 x q).mpr x3, x, q, x2⟩
      · obtain ⟨c1, c2, c3⟩ := F4 y y1 t y2
        have tn := c2.resolve_left y3
        exact Or.inl ⟨y, y1, c3 tn (((f t c1 tn).2.2).mpr ⟨x, y4, x2, x3⟩)⟩
  have hd : ∀ w l, pr = w :: l → w ∈ hr := fun w l q => S4 w (by rw [q]; exact List.mem_cons_self)
  have nG : ∀ w, w ∉ sg ++ v :: hr → gd' w = gd w := fun w hw => h3 w (fun q => hw (S1 w q).1) (fun l q => hw (inH w (hd w l q)))
  have upG : ∀ w, w ∈ hr → gd w = true → gd' w = true := by
    intro w hw hg
    by_cases q : ∃ l, pr = w :: l
    · obtain ⟨l, q⟩ := q
      rw [h4 w l q, hg]
      rfl
    · rw [h3 w (nS w hw) (fun l z => q ⟨l, z⟩)]
      exact hg
  refine ⟨⟨fun w hw => a1 w (inH w hw), a2, a3, w5, (List.pairwise_cons.mp a5).2, S4, fun t u q => a7 t u q.c, fun x hx => ?_⟩, fun w hw => ?_, fun w hw x hx => ?_, fun w hw q => ?_, fun w hw => ?_, fun w hw hn => ?_, fun w hw hg => ?_, fun u hu x hx hxh p hp q1 q2 => ?_⟩
  · obtain ⟨z1, z2⟩ := a8 x hx
    rw [nG x (fun q => a1 x q hx)]
    exact ⟨z1, z2⟩
  · obtain ⟨b1, u, u1, u2, u3⟩ := b w (inH w hw)
    refine ⟨b1, u, S5 u u1 (fun q => ?_), u2, u3⟩
    have := (S1 u q).2
    have := S2 w hw
    omega
  · obtain ⟨c1, c2, c3⟩ := c w (inH w hw) x hx
    refine ⟨c1, fun z => c2 (inH x z), fun z hg => ?_⟩
    by_cases xs : x ∈ v :: sg
    · obtain ⟨s1, s2⟩ := S1 x xs
      have ad := k w (inH w hw) x hx s1 v List.mem_cons_self (S2 w hw) s2
      rcases ad.i with q | ⟨q1, l, q2⟩
      · have := T2 x q.m.1
        omega
      · rw [h4 w l q2]
        rw [(h1 x xs).2] at hg
        rw [hg, Bool.or_true]
    · have xh : x ∉ sg ++ v :: hr := fun q => z (S5 x q xs)
      rw [nG x xh] at hg
      exact upG w hw (c3 xh hg)
  · refine d w (inH w hw) (fun z => ?_)
    rcases List.mem_cons.mp z with z | z
    · exact nS w hw (z ▸ vS)
    · exact q z
  · obtain ⟨p, p1, p2, p3, p4, p5⟩ := e w (inH w hw)
    have pv : p ≠ v := fun q => by rw [q] at p2; have := S2 w hw; omega
    exact ⟨p, (List.mem_cons.mp p1).resolve_left pv, p2, p3, p4, fun x hx hle => p5 x (List.mem_cons_of_mem _ hx) hle⟩
  · by_cases ws : w ∈ v :: sg
    · rw [(h1 w ws).1, (h1 w ws).2]
      refine ⟨fun t ht => ?_, F5 w ws, F6 w ws⟩
      obtain ⟨c1, c2, -⟩ := F4 w ws t ht
      refine ⟨c1, fun q => ?_⟩
      rcases c2 with z | z
      · exact nS t q z
      · exact z (inH t q)
    · have wh : w ∉ sg ++ v :: hr := fun q => hn (S5 w q ws)
      obtain ⟨f1, f2, f3⟩ := f w hw wh
      rw [h2 w ws, nG w wh]
      exact ⟨fun t ht => ⟨(f1 t ht).1, fun q => (f1 t ht).2 (inH t q)⟩, f2, f3⟩
  · by_cases q : ∃ l, pr = w :: l
    · obtain ⟨l, q⟩ := q
      rw [h4 w l q] at hg
      rcases Bool.or_eq_true_iff.mp hg with z | z
      · exact g w (inH w hw) z
      · exact ((F6 v vS).mp z).b (rch.e (a7 v w ⟨[], l, by rw [q]; rfl⟩))
    · rw [h3 w (nS w hw) (fun l z => q ⟨l, z⟩)] at hg
      exact g w (inH w hw) hg
  · rcases (k u (inH u hu) x hx (inH x hxh) p (List.mem_cons_of_mem _ hp) q1 q2).i with z | ⟨z1, l, z2⟩
    · exact z
    · exact absurd (z1 ▸ vS) (nS x hxh)
