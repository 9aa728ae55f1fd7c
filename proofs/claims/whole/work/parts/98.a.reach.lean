/-! graphs: ways, loops; going deep, in the abstract -/
def rchN (sc : Nat → List Nat) : Nat → Nat → Nat → Prop
  | 0, v, w => v = w
  | k + 1, v, w => ∃ u, u ∈ sc v ∧ rchN sc k u w
def rch (sc : Nat → List Nat) (v w : Nat) : Prop := ∃ k, rchN sc k v w
theorem rchN_t {sc : Nat → List Nat} : ∀ {j k u v w : Nat}, rchN sc j u v → rchN sc k v w → rchN sc (j + k) u w := by
  intro j
  induction j with
  | zero =>
    intro k u v w h1 h2
    have h1 : u = v := h1
    rw [Nat.zero_add, h1]
    exact h2
  | succ j ih =>
    intro k u v w h1 h2
    obtain ⟨x, x1, x2⟩ := h1
    rw [show j + 1 + k = (j + k) + 1 by omega]
    exact ⟨x, x1, ih x2 h2⟩
theorem rch.rf {sc : Nat → List Nat} {v : Nat} : rch sc v v := ⟨0, rfl⟩
theorem rch.tr {sc : Nat → List Nat} {u v w : Nat} (h : rch sc u v) (k : rch sc v w) : rch sc u w := by
  obtain ⟨a, ha⟩ := h
  obtain ⟨b, hb⟩ := k
  exact ⟨_, rchN_t ha hb⟩
theorem rch.e {sc : Nat → List Nat} {v u : Nat} (h : u ∈ sc v) : rch sc v u := ⟨1, u, h, rfl⟩
/-- a vertex that comes to itself -/
def lpP (sc : Nat → List Nat) (v : Nat) : Prop := ∃ u, u ∈ sc v ∧ rch sc u v
/-- a vertex that can come to a marked one on a loop -/
def gdP (sc : Nat → List Nat) (mk : Nat → Bool) (v : Nat) : Prop := ∃ w, rch sc v w ∧ mk w = true ∧ lpP sc w
theorem gdP.b {sc : Nat → List Nat} {mk : Nat → Bool} {u v : Nat} (h : gdP sc mk v) (k : rch sc u v) : gdP sc mk u := by
  obtain ⟨w, w1, w2⟩ := h
  exact ⟨w, k.tr w1, w2⟩
/-- what stays in a closed set -/
theorem rchN_in {sc : Nat → List Nat} {p : Nat → Prop} (h : ∀ v, p v → ∀ t, t ∈ sc v → p t) : ∀ {k v w : Nat}, p v → rchN sc k v w → p w := by
  intro k
  induction k with
  | zero =>
    intro v w hv hk
    have hk : v = w := hk
    rw [← hk]
    exact hv
  | succ k ih =>
    intro v w hv hk
    obtain ⟨u, u1, u2⟩ := hk
    exact ih (h v hv u u1) u2
theorem rchN_out {sc : Nat → List Nat} {p : Nat → Prop} : ∀ {k v w : Nat}, p v → rchN sc k v w → p w ∨ ∃ x t, p x ∧ t ∈ sc x ∧ ¬ p t ∧ rch sc t w := by
  intro k
  induction k with
  | zero =>
    intro v w hv hk
    have hk : v = w := hk
    rw [← hk]
    exact Or.inl hv
  | succ k ih =>
    intro v w hv hk
    obtain ⟨u, u1, u2⟩ := hk
    by_cases hu : p u
    · exact ih hu u2
    · exact Or.inr ⟨v, u, hv, u1, hu, k, u2⟩
abbrev tE (sc : Nat → List Nat) (cu : Nat → Nat) (v t : Nat) : Prop := t ∈ (sc v).take (cu v)
/-- one stands right above the other one on the way -/
def adj (pa : List Nat) (t u : Nat) : Prop := ∃ l1 l2, pa = l1 ++ t :: u :: l2
theorem adj.c {pa : List Nat} {t u x : Nat} (h : adj pa t u) : adj (x :: pa) t u := by
  obtain ⟨l1, l2, e⟩ := h
  exact ⟨x :: l1, l2, by rw [e]; rfl⟩
theorem adj.m {pa : List Nat} {t u : Nat} (h : adj pa t u) : t ∈ pa ∧ u ∈ pa := by
  obtain ⟨l1, l2, rfl⟩ := h
  exact ⟨by simp, by simp⟩
theorem adj.i {pa : List Nat} {t u x : Nat} (h : adj (x :: pa) t u) : adj pa t u ∨ (t = x ∧ ∃ l, pa = u :: l) := by
  obtain ⟨l1, l2, e⟩ := h
  cases l1 with
  | nil =>
    injection e with e1 e2
    exact Or.inr ⟨e1.symm, l2, e2⟩
  | cons y l1 =>
    injection e with e1 e2
    exact Or.inl ⟨l1, l2, e2⟩
/-- what holds while one goes deep: numbers, low ones, how many edges are gone, what is told; what is held, the way -/
def TI (sc : Nat → List Nat) (mk : Nat → Bool) (od lo cu : Nat → Nat) (gd lp : Nat → Bool) (hs pa : List Nat) (ne : Nat) : Prop :=
  ((∀ v, v ∈ hs → od v ≠ 0) ∧ (∀ v w, od v ≠ 0 → od v = od w → v = w) ∧ (∀ v, od v ≤ ne) ∧ hs.Pairwise (fun a b => od b < od a) ∧ pa.Pairwise (fun a b => od b < od a) ∧ (∀ p, p ∈ pa → p ∈ hs) ∧ (∀ t u, adj pa t u → t ∈ sc u) ∧ ∀ v, od v = 0 → cu v = 0 ∧ gd v = false)
  ∧ (∀ v, v ∈ hs → lo v ≤ od v ∧ ∃ u, u ∈ hs ∧ od u = lo v ∧ rch sc v u)
  ∧ (∀ v, v ∈ hs → ∀ t, tE sc cu v t → od t ≠ 0 ∧ (t ∈ hs → lo v ≤ od t) ∧ (t ∉ hs → gd t = true → gd v = true))
  ∧ (∀ v, v ∈ hs → v ∉ pa → cu v = (sc v).length ∧ lo v < od v)
  ∧ (∀ w, w ∈ hs → ∃ p, p ∈ pa ∧ od p ≤ od w ∧ rch sc p w ∧ lo p ≤ lo w ∧ ∀ q, q ∈ pa → od q ≤ od w → od q ≤ od p)
  ∧ (∀ v, od v ≠ 0 → v ∉ hs → (∀ t, t ∈ sc v → od t ≠ 0 ∧ t ∉ hs) ∧ (lp v = true ↔ lpP sc v) ∧ (gd v = true ↔ gdP sc mk v))
  ∧ (∀ v, v ∈ hs → gd v = true → gdP sc mk v)
  ∧ ∀ u, u ∈ hs → ∀ t, tE sc cu u t → t ∈ hs → ∀ p, p ∈ pa → od u < od p → od p ≤ od t → adj pa t u
theorem tE_s {sc : Nat → List Nat} {cu : Nat → Nat} {v t x : Nat} {r : List Nat} (h : (sc v).drop (cu v) = t :: r) (u : Nat) : tE sc (pu cu v (cu v + 1)) u x ↔ tE sc cu u x ∨ (u = v ∧ x = t) := by
  unfold tE
  by_cases e : u = v
  · rw [e, pu_s]
    have hl : cu v < (sc v).length := by
      refine Classical.byContradiction (fun c => ?_)
      rw [List.drop_eq_nil_of_le (by omega)] at h
      exact nomatch h
    have et : (sc v)[cu v]? = some t := by
      have : ((sc v).drop (cu v))[0]? = some t := by rw [h]; rfl
      rw [List.getElem?_drop, Nat.add_zero] at this
      exact this
    rw [List.take_succ, et]
    show x ∈ (sc v).take (cu v) ++ [t] ↔ _
    rw [List.mem_append, List.mem_singleton]
    exact ⟨fun q => q.imp id (fun q => ⟨rfl, q⟩), fun q => q.imp id (fun q => q.2)⟩
  · rw [pu_n e]
    exact ⟨fun q => Or.inl q, fun q => q.resolve_right (fun q => e q.1)⟩
theorem drop_in {sc : Nat → List Nat} {v c t : Nat} {r : List Nat} (h : (sc v).drop c = t :: r) : t ∈ sc v := by
  have : t ∈ (sc v).drop c := by rw [h]; exact List.mem_cons_self
  exact List.mem_of_mem_drop this
/-- a root is entered -/
theorem TI.root {sc : Nat → List Nat} {mk : Nat → Bool} {od lo cu : Nat → Nat} {gd lp : Nat → Bool} {ne v : Nat} (h : TI sc mk od lo cu gd lp [] [] ne) (hv : od v = 0) : TI sc mk (pu od v (ne + 1)) (pu lo v (ne + 1)) cu gd lp [v] [v] (ne + 1) := by
  obtain ⟨⟨-, a2, a3, -, -, -, -, a8⟩, -, -, -, -, f, -, -⟩ := h
  have n : ∀ {w : Nat}, w ≠ v → pu od v (ne + 1) w = od w := fun q => pu_n q
  have m : ∀ {w : Nat}, w ∈ [v] → w = v := fun q => List.mem_singleton.mp q
  refine ⟨⟨fun w hw => ?_, fun x y hx e => ?_, fun x => ?_, ?_, ?_, fun p hp => hp, fun t u q => ?_, fun x hx => ?_⟩, fun w hw => ?_, fun w hw t ht => ?_, fun w hw q => absurd hw q, fun w hw => ⟨v, List.mem_singleton.mpr rfl, ?_, ?_, ?_, fun q hq _ => ?_⟩, fun w hw hn => ?_, fun w hw hg => ?_, fun u hu t ht => ?_⟩
  · rw [m hw, pu_s]; omega
  · by_cases e1 : x = v
    · by_cases e2 : y = v
      · rw [e1, e2]
      · rw [e1, pu_s, n e2] at e
        have := a3 y
        omega
    · by_cases e2 : y = v
      · rw [e2, pu_s, n e1] at e
        have := a3 x
        omega
      · rw [n e1, n e2] at e
        rw [n e1] at hx
        exact a2 x y hx e
  · by_cases e1 : x = v
    · rw [e1, pu_s]; omega
    · rw [n e1]; have := a3 x; omega
  · exact List.pairwise_singleton _ _
  · exact List.pairwise_singleton _ _
  · rcases q.i with q | ⟨-, l, q⟩
    · exact nomatch q.m.1
    · exact nomatch q
  · by_cases e1 : x = v
    · rw [e1, pu_s] at hx; omega
    · rw [n e1] at hx; exact a8 x hx
  · rw [m hw, pu_s, pu_s]
    exact ⟨Nat.le_refl _, v, List.mem_singleton.mpr rfl, pu_s, rch.rf⟩
  · have e : w = v := m hw
    rw [e] at ht
    unfold tE at ht
    rw [(a8 v hv).1, List.take_zero] at ht
    exact nomatch ht
  · rw [m hw]; exact Nat.le_refl _
  · rw [m hw]; exact rch.rf
  · rw [m hw]; exact Nat.le_refl _
  · rw [m hq]; exact Nat.le_refl _
  · have e1 : w ≠ v := fun q => hn (List.mem_singleton.mpr q)
    rw [n e1] at hw
    obtain ⟨f1, f2⟩ := f w hw (fun q => nomatch q)
    refine ⟨fun t ht => ?_, f2⟩
    obtain ⟨f3, -⟩ := f1 t ht
    have e2 : t ≠ v := fun q => f3 (q ▸ hv)
    rw [n e2]
    exact ⟨f3, fun q => e2 (m q)⟩
  · rw [m hw] at hg
    rw [(a8 v hv).2] at hg
    exact absurd hg (by decide)
  · have e : u = v := m hu
    rw [e] at ht
    unfold tE at ht
    rw [(a8 v hv).1, List.take_zero] at ht
    exact nomatch ht
/-- a new one behind the last one is entered -/
theorem TI.child {sc : Nat → List Nat} {mk : Nat → Bool} {od lo cu : Nat → Nat} {gd lp : Nat → Bool} {hs pr r : List Nat} {ne v t : Nat} (h : TI sc mk od lo cu gd lp hs (v :: pr) ne) (hd : (sc v).drop (cu v) = t :: r) (ht : od t = 0) : TI sc mk (pu od t (ne + 1)) (pu lo t (ne + 1)) (pu cu v (cu v + 1)) gd lp (t :: hs) (t :: v :: pr) (ne + 1) := by
  obtain ⟨⟨a1, a2, a3, a4, a5, a6, a7, a8⟩, b, c, d, e, f, g, k⟩ := h
  have vh : v ∈ hs := a6 v List.mem_cons_self
  have tn : ∀ {w : Nat}, w ∈ hs → w ≠ t := fun hw q => a1 _ hw (q ▸ ht)
  have tv : v ≠ t := tn vh
  have n : ∀ {w : Nat}, w ≠ t → pu od t (ne + 1) w = od w := fun q => pu_n q
  have nl : ∀ {w : Nat}, w ≠ t → pu lo t (ne + 1) w = lo w := fun q => pu_n q
  have mh : ∀ {w : Nat}, w ∈ t :: hs → w = t ∨ w ∈ hs := fun q => List.mem_cons.mp q
  have pt : ∀ {w : Nat}, w ∈ v :: pr → w ≠ t := fun q => tn (a6 _ q)
  have tE0 : ∀ x, ¬ tE sc (pu cu v (cu v + 1)) t x := fun x q => by
    rcases (tE_s hd t).mp q with q | q
    · unfold tE at q
      rw [(a8 t ht).1, List.take_zero] at q
      exact nomatch q
    · exact tv q.1.symm
  refine ⟨⟨fun w hw => ?_, fun x y hx e => ?_, fun x => ?_, ?_, ?_, fun p hp => ?_, fun x u q => ?_, fun x hx => ?_⟩, fun w hw => ?_, fun w hw x hx => ?_, fun w hw q => ?_, fun w hw => ?_, fun w hw hn => ?_, fun w hw hg => ?_, fun u hu x hx hxh p hp h1 h2 => ?_⟩
  · rcases mh hw with q | q
    · rw [q, pu_s]; omega
    · rw [n (tn q)]; exact a1 w q
  · by_cases e1 : x = t
    · by_cases e2 : y = t
      · rw [e1, e2]
      · rw [e1, pu_s, n e2] at e
        have := a3 y
        omega
    · by_cases e2 : y = t
      · rw [e2, pu_s, n e1] at e
        have := a3 x
        omega
      · rw [n e1, n e2] at e
        rw [n e1] at hx
        exact a2 x y hx e
  · by_cases e1 : x = t
    · rw [e1, pu_s]; omega
    · rw [n e1]; have := a3 x; omega
  · refine List.pairwise_cons.mpr ⟨fun w hw => ?_, ?_⟩
    · rw [n (tn hw), pu_s]; have := a3 w; omega
    · exact List.Pairwise.imp_of_mem (fun {x y} hx hy q => by rw [n (tn hx), n (tn hy)]; exact q) a4
  · refine List.pairwise_cons.mpr ⟨fun w hw => ?_, ?_⟩
    · rw [n (pt hw), pu_s]; have := a3 w; omega
    · exact List.Pairwise.imp_of_mem (fun {x y} hx hy q => by rw [n (pt hx), n (pt hy)]; exact q) a5
  · rcases List.mem_cons.mp hp with q | q
    · rw [q]; exact List.mem_cons_self
    · exact List.mem_cons_of_mem _ (a6 p q)
  · rcases q.i with q | ⟨q1, l, q2⟩
    · exact a7 x u q
    · injection q2 with q2
      rw [q1, ← q2]
      exact drop_in hd
  · have e1 : x ≠ t := fun q => by rw [q, pu_s] at hx; omega
    rw [n e1] at hx
    have e2 : x ≠ v := fun q => a1 v vh (q ▸ hx)
    rw [pu_n e2]
    exact a8 x hx
  · rcases mh hw with q | q
    · rw [q, pu_s, pu_s]
      exact ⟨Nat.le_refl _, t, List.mem_cons_self, pu_s, rch.rf⟩
    · rw [n (tn q), nl (tn q)]
      obtain ⟨b1, u, u1, u2, u3⟩ := b w q
      exact ⟨b1, u, List.mem_cons_of_mem _ u1, by rw [n (tn u1)]; exact u2, u3⟩
  · rcases mh hw with q | q
    · rw [q] at hx; exact absurd hx (tE0 x)
    · rw [nl (tn q)]
      rcases (tE_s hd w).mp hx with hx | ⟨e1, e2⟩
      · obtain ⟨c1, c2, c3⟩ := c w q x hx
        have xt : x ≠ t := fun z => c1 (z ▸ ht)
        rw [n xt]
        refine ⟨c1, fun z => c2 ((mh z).resolve_left xt), fun z => c3 (fun y => z (List.mem_cons_of_mem _ y))⟩
      · rw [e2, pu_s, e1]
        refine ⟨by omega, fun _ => ?_, fun z => absurd List.mem_cons_self z⟩
        have := (b v vh).1
        have := a3 v
        omega
  · rcases mh hw with z | z
    · rw [z] at q; exact absurd List.mem_cons_self q
    · have q2 : w ∉ v :: pr := fun y => q (List.mem_cons_of_mem _ y)
      have wv : w ≠ v := fun y => q2 (y ▸ List.mem_cons_self)
      rw [pu_n wv, n (tn z), nl (tn z)]
      exact d w z q2
  · rcases mh hw with q | q
    · refine ⟨t, List.mem_cons_self, by rw [q]; exact Nat.le_refl _, by rw [q]; exact rch.rf, by rw [q]; exact Nat.le_refl _, fun p hp hle => ?_⟩
      rw [q] at hle
      exact hle
    · obtain ⟨p, p1, p2, p3, p4, p5⟩ := e w q
      refine ⟨p, List.mem_cons_of_mem _ p1, by rw [n (pt p1), n (tn q)]; exact p2, p3, by rw [nl (pt p1), nl (tn q)]; exact p4, fun x hx hle => ?_⟩
      rw [n (tn q)] at hle
      rcases List.mem_cons.mp hx with z | z
      · rw [z, pu_s] at hle
        have := a3 w
        omega
      · rw [n (pt z)] at hle ⊢
        rw [n (pt p1)]
        exact p5 x z hle
  · have wt : w ≠ t := fun q => hn (q ▸ List.mem_cons_self)
    rw [n wt] at hw
    have wh : w ∉ hs := fun q => hn (List.mem_cons_of_mem _ q)
    obtain ⟨f1, f2⟩ := f w hw wh
    refine ⟨fun x hx => ?_, f2⟩
    obtain ⟨f3, f4⟩ := f1 x hx
    have xt : x ≠ t := fun z => f3 (z ▸ ht)
    rw [n xt]
    exact ⟨f3, fun z => f4 ((mh z).resolve_left xt)⟩
  · rcases mh hw with q | q
    · rw [q, (a8 t ht).2] at hg
      exact absurd hg (by decide)
    · exact g w q hg
  · rcases mh hu with q | q
    · rw [q] at hx; exact absurd hx (tE0 x)
    · rw [n (tn q)] at h1
      rcases (tE_s hd u).mp hx with hx | ⟨e1, e2⟩
      · obtain ⟨c1, -⟩ := c u q x hx
        have xt : x ≠ t := fun z => c1 (z ▸ ht)
        rw [n xt] at h2
        rcases List.mem_cons.mp hp with z | z
        · rw [z, pu_s] at h2
          have := a3 x
          omega
        · rw [n (pt z)] at h1 h2
          exact (k u q x hx ((mh hxh).resolve_left xt) p z h1 h2).c
      · rw [e2, e1]
        exact ⟨[], pr, rfl⟩
