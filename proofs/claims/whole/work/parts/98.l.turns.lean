/-! the reference goes deep: how it holds it -/
def deM : List Nat := [154, 155, 156, 157, 158, 159, 160]
def deK : List Nat := [61, 62, 63]
def rCu (el : Nat → List (Nat × Nat)) (u k : Nat) (x : Int32) : Prop := ∃ c, c ≤ 6144 ∧ x = nI c ∧ k ≤ (el u).length ∧ (∀ e, e ∈ (el u).take k → e.1 < c) ∧ ∀ e, e ∈ (el u).drop k → c ≤ e.1
def rcs (el : Nat → List (Nat × Nat)) (cu : Nat → Nat) (τ : sS) : List Nat → Prop
  | [] => True
  | u :: l => rCu el u (cu u) (vI τ 158 l.length) ∧ rcs el cu τ l
theorem rcs.c {el : Nat → List (Nat × Nat)} {cu cu' : Nat → Nat} {σ τ : sS} : ∀ {l : List Nat}, rcs el cu σ l → (∀ j, j < l.length → vI τ 158 j = vI σ 158 j) → (∀ u, u ∈ l → cu' u = cu u) → rcs el cu' τ l
  | [], _, _, _ => trivial
  | x :: l, h, k, q => ⟨by rw [k l.length (by simp), q x List.mem_cons_self]; exact h.1, rcs.c h.2 (fun j hj => k j (by rw [List.length_cons]; omega)) (fun u hu => q u (List.mem_cons_of_mem _ hu))⟩
def rR (el : Nat → List (Nat × Nat)) (Q : List Nat) (od lo cu : Nat → Nat) (lp : Nat → Bool) (hs pa : List Nat) (ne : Nat) (τ : sS) : Prop := (∀ v, v ∈ Q → vI τ 154 v = nI (od v) - 1) ∧ (∀ v, v ∈ hs → vI τ 155 v = nI (lo v) - 1) ∧ (∀ v, v ∈ Q → vI τ 159 v = if v ∈ hs then 1 else 0) ∧ (∀ v, v ∈ Q → od v ≠ 0 → v ∉ hs → vI τ 160 v = if lp v = true then 1 else 0) ∧ (rwS τ 157 pa ∧ vI τ 90 63 = nI pa.length) ∧ (rwS τ 156 hs ∧ vI τ 90 62 = nI hs.length) ∧ vI τ 90 61 = nI ne ∧ (∀ v, v ∈ hs → v ∈ Q) ∧ (∀ x, x ∈ Q → x < 3000) ∧ ne ≤ 3000 ∧ rcs el cu τ pa
theorem nI_m1i {a b : Nat} (ha : a < 2 ^ 31) (hb : b < 2 ^ 31) (h : nI a - 1 = nI b - 1) : a = b := by
  have e : nI a - 1 + 1 = nI b - 1 + 1 := by rw [h]
  rw [Int32.sub_add_cancel, Int32.sub_add_cancel] at e
  exact nI_ij ha hb e
theorem rR.ne0 {el : Nat → List (Nat × Nat)} {Q : List Nat} {od lo cu : Nat → Nat} {lp : Nat → Bool} {hs pa : List Nat} {ne v : Nat} {τ : sS} (h : rR el Q od lo cu lp hs pa ne τ) (hb : ∀ v, od v ≤ ne) (hv : v ∈ Q) : vI τ 154 v = -1 ↔ od v = 0 := by
  have := hb v
  have := h.2.2.2.2.2.2.2.2.2.1
  rw [h.1 v hv]
  constructor
  · intro e
    exact nI_m1i (by omega) (by decide) (e.trans (show (-1 : Int32) = nI 0 - 1 by decide))
  · intro e
    rw [e]
    decide
theorem x_enters {el : Nat → List (Nat × Nat)} {Q : List Nat} {od lo cu : Nat → Nat} {lp : Nat → Bool} {hs pa : List Nat} {ne t : Nat} {τ : sS} (h : rR el Q od lo cu lp hs pa ne τ) (hnd : hs.Nodup) (hpl : pa.length ≤ hs.length) (ht : t ∈ Q) (h0 : od t = 0) (hh : ∀ v, v ∈ hs → od v ≠ 0) (hne : ne < 3000) (hct : cu t = 0) : ∃ υ, L_X12_enters (nI t) τ = some υ ∧ rR el Q (pu od t (ne + 1)) (pu lo t (ne + 1)) cu lp (t :: hs) (t :: pa) (ne + 1) υ ∧ fm deM deK τ υ := by
  obtain ⟨a1, a2, a3, a4, ⟨a5, a6⟩, ⟨a7, a8⟩, a9, a10, a11, a12, a13⟩ := h
  have t3 := a11 t ht
  have tnh : t ∉ hs := fun q => hh t q h0
  have hlen : hs.length < 3000 := by
    have := nodup_len (n := 3000) (l := t :: hs) (List.nodup_cons.mpr ⟨tnh, hnd⟩) (fun x hx => by
      rcases List.mem_cons.mp hx with q | q
      · rw [q]; exact t3
      · exact a11 x (a10 x q))
    rw [List.length_cons] at this
    omega
  have e : L_X12_enters (nI t) τ = some (uI (uI (uI (uI (uI (uI (uI (uI (uI τ 154 t (nI ne)) 155 t (nI ne)) 90 61 (nI (ne + 1))) 156 hs.length (nI t)) 90 62 (nI (hs.length + 1))) 159 t 1) 157 pa.length (nI t)) 158 pa.length 0) 90 63 (nI (pa.length + 1))) := by
    unfold L_X12_enters
    rw [inb_n t3 (by omega), nI_clamp (by omega)]
    simp only [grd_s, bnd_s]
    rw [a9]
    rw [show vI (uI τ 154 t (nI ne)) 90 61 = nI ne from a9]
    rw [show vI (uI (uI τ 154 t (nI ne)) 155 t (nI ne)) 90 61 = nI ne from a9, nI_1]
    rw [show vI (uI (uI (uI τ 154 t (nI ne)) 155 t (nI ne)) 90 61 (nI (ne + 1))) 90 62 = nI hs.length from a8, inb_n hlen (by omega), grd_s, nI_clamp (by omega)]
    rw [show vI (uI (uI (uI (uI τ 154 t (nI ne)) 155 t (nI ne)) 90 61 (nI (ne + 1))) 156 hs.length (nI t)) 90 62 = nI hs.length from a8, nI_1]
    rw [show vI (uI (uI (uI (uI (uI (uI τ 154 t (nI ne)) 155 t (nI ne)) 90 61 (nI (ne + 1))) 156 hs.length (nI t)) 90 62 (nI (hs.length + 1))) 159 t 1) 90 63 = nI pa.length from a6, inb_n (by omega) (by omega), grd_s, nI_clamp (by omega)]
    rw [show vI (uI (uI (uI (uI (uI (uI (uI τ 154 t (nI ne)) 155 t (nI ne)) 90 61 (nI (ne + 1))) 156 hs.length (nI t)) 90 62 (nI (hs.length + 1))) 159 t 1) 157 pa.length (nI t)) 90 63 = nI pa.length from a6, inb_n (by omega) (by omega), grd_s, nI_clamp (by omega)]
    rw [show vI (uI (uI (uI (uI (uI (uI (uI (uI τ 154 t (nI ne)) 155 t (nI ne)) 90 61 (nI (ne + 1))) 156 hs.length (nI t)) 90 62 (nI (hs.length + 1))) 159 t 1) 157 pa.length (nI t)) 158 pa.length 0) 90 63 = nI pa.length from a6, nI_1]
  have tpa : ∀ (x : Nat), nI (x + 1) - 1 = nI x := nI_pred
  refine ⟨_, e, ⟨fun v hv => ?_, fun v hv => ?_, fun v hv => ?_, fun v hv q1 q2 => ?_, ⟨⟨?_, ?_⟩, rfl⟩, ⟨⟨?_, ?_⟩, rfl⟩, rfl, fun v hv => ?_, a11, by omega, ⟨?_, ?_⟩⟩, ?_⟩
  · show vI (uI τ 154 t (nI ne)) 154 v = _
    by_cases q : v = t
    · rw [q, vI_e, pu_s, tpa]
    · rw [vI_q (fun z => q z.2), pu_n q]; exact a1 v hv
  · show vI (uI (uI τ 154 t (nI ne)) 155 t (nI ne)) 155 v = _
    by_cases q : v = t
    · rw [q, vI_e, pu_s, tpa]
    · rw [vI_q (fun z => q z.2), pu_n q]
      exact a2 v ((List.mem_cons.mp hv).resolve_left q)
  · show vI (uI (uI (uI (uI (uI (uI τ 154 t (nI ne)) 155 t (nI ne)) 90 61 (nI (ne + 1))) 156 hs.length (nI t)) 90 62 (nI (hs.length + 1))) 159 t 1) 159 v = _
    by_cases q : v = t
    · rw [q, vI_e, if_pos List.mem_cons_self]
    · rw [vI_q (fun z => q z.2)]
      have : v ∈ t :: hs ↔ v ∈ hs := ⟨fun z => (List.mem_cons.mp z).resolve_left q, fun z => List.mem_cons_of_mem _ z⟩
      simp only [this]
      exact a3 v hv
  · have q : v ≠ t := fun q => q2 (q ▸ List.mem_cons_self)
    rw [pu_n q] at q1
    exact a4 v hv q1 (fun z => q2 (List.mem_cons_of_mem _ z))
  · show vI (uI (uI (uI (uI (uI (uI (uI τ 154 t (nI ne)) 155 t (nI ne)) 90 61 (nI (ne + 1))) 156 hs.length (nI t)) 90 62 (nI (hs.length + 1))) 159 t 1) 157 pa.length (nI t)) 157 pa.length = _
    exact vI_e
  · refine a5.c (fun j hj => ?_)
    show vI (uI (uI (uI (uI (uI (uI (uI τ 154 t (nI ne)) 155 t (nI ne)) 90 61 (nI (ne + 1))) 156 hs.length (nI t)) 90 62 (nI (hs.length + 1))) 159 t 1) 157 pa.length (nI t)) 157 j = _
    rw [vI_q (fun z => by have := z.2; omega)]
    rfl
  · show vI (uI (uI (uI (uI τ 154 t (nI ne)) 155 t (nI ne)) 90 61 (nI (ne + 1))) 156 hs.length (nI t)) 156 hs.length = _
    exact vI_e
  · refine a7.c (fun j hj => ?_)
    show vI (uI (uI (uI (uI τ 154 t (nI ne)) 155 t (nI ne)) 90 61 (nI (ne + 1))) 156 hs.length (nI t)) 156 j = _
    rw [vI_q (fun z => by have := z.2; omega)]
    rfl
  · rcases List.mem_cons.mp hv with q | q
    · rw [q]; exact ht
    · exact a10 v q
  · rw [hct]
    refine ⟨0, Nat.zero_le _, ?_, Nat.zero_le _, fun e he => ?_, fun e _ => Nat.zero_le _⟩
    · show vI (uI (uI (uI (uI (uI (uI (uI (uI τ 154 t (nI ne)) 155 t (nI ne)) 90 61 (nI (ne + 1))) 156 hs.length (nI t)) 90 62 (nI (hs.length + 1))) 159 t 1) 157 pa.length (nI t)) 158 pa.length 0) 158 pa.length = _
      exact vI_e
    · rw [List.take_zero] at he; exact nomatch he
  · refine a13.c (fun j hj => ?_) (fun _ _ => rfl)
    show vI (uI (uI (uI (uI (uI (uI (uI (uI τ 154 t (nI ne)) 155 t (nI ne)) 90 61 (nI (ne + 1))) 156 hs.length (nI t)) 90 62 (nI (hs.length + 1))) 159 t 1) 157 pa.length (nI t)) 158 pa.length 0) 158 j = _
    rw [vI_q (fun z => by have := z.2; omega)]
    rfl
  · exact (((((((((fm.uI (by first | exact Or.inl (by decide) | exact Or.inr ⟨rfl, by decide⟩)).tr (fm.uI (by first | exact Or.inl (by decide) | exact Or.inr ⟨rfl, by decide⟩))).tr (fm.uI (by first | exact Or.inl (by decide) | exact Or.inr ⟨rfl, by decide⟩))).tr (fm.uI (by first | exact Or.inl (by decide) | exact Or.inr ⟨rfl, by decide⟩))).tr (fm.uI (by first | exact Or.inl (by decide) | exact Or.inr ⟨rfl, by decide⟩))).tr (fm.uI (by first | exact Or.inl (by decide) | exact Or.inr ⟨rfl, by decide⟩))).tr (fm.uI (by first | exact Or.inl (by decide) | exact Or.inr ⟨rfl, by decide⟩))).tr (fm.uI (by first | exact Or.inl (by decide) | exact Or.inr ⟨rfl, by decide⟩))).tr (fm.uI (by first | exact Or.inl (by decide) | exact Or.inr ⟨rfl, by decide⟩)))
/-- one lets go: the pile comes down to v -/
theorem x_l83 {F v hn : Nat} {is : Int32} (his : is01 is = true) (hv : v < 3000) : ∀ (sg hr : List Nat) (n : Nat) (τ : sS), rwS τ 156 (sg ++ v :: hr) → vI τ 90 62 = nI (sg ++ v :: hr).length → (sg ++ v :: hr).length ≤ 3000 → (∀ x, x ∈ sg → x < 3000) → v ∉ sg → sg.length + 1 < n → ∃ υ, (∀ kx, L_X12_leaves_83 F (nI v) is kx n 1 τ = kx υ) ∧ (∀ w, w ∈ v :: sg → vI υ 159 w = 0 ∧ vI υ 160 w = is) ∧ (∀ w, w ∉ v :: sg → vI υ 159 w = vI τ 159 w ∧ vI υ 160 w = vI τ 160 w) ∧ vI υ 90 62 = nI hr.length ∧ fm [159, 160] [62] τ υ := by
  intro sg
  induction sg with
  | nil =>
    intro hr n τ h1 h2 h3 h4 h5 hn
    obtain ⟨m, rfl⟩ : ∃ m, n = m + 2 := ⟨n - 2, by rw [List.length_nil] at hn; omega⟩
    rw [List.nil_append, List.length_cons] at h2 h3
    refine ⟨uI (uI (uI τ 90 62 (nI hr.length)) 159 v 0) 160 v is, fun kx => ?_, fun w hw => ?_, fun w hw => ?_, rfl, ((fm.uI (by first | exact Or.inl (by decide) | exact Or.inr ⟨rfl, by decide⟩)).tr (fm.uI (by first | exact Or.inl (by decide) | exact Or.inr ⟨rfl, by decide⟩))).tr (fm.uI (by first | exact Or.inl (by decide) | exact Or.inr ⟨rfl, by decide⟩))⟩
    · rw [L_X12_leaves_83, if_neg (by decide), h2, nI_pred, bnd_s]
      rw [show vI (uI τ 90 62 (nI hr.length)) 90 62 = nI hr.length from rfl, inb_n (by omega) (by omega), grd_s, bnd_s, nI_clamp (by omega)]
      rw [show vI (uI τ 90 62 (nI hr.length)) 156 hr.length = nI v from h1.1, inb_n hv (by omega), grd_s, bnd_s, grd_s, nI_clamp (by omega), his, grd_s, bnd_s, if_pos rfl]
      rfl
    · rw [List.mem_singleton.mp hw]
      exact ⟨vI_e, vI_e⟩
    · have q : w ≠ v := fun q => hw (List.mem_singleton.mpr q)
      refine ⟨?_, vI_q (fun z => q z.2)⟩
      show vI (uI (uI τ 90 62 (nI hr.length)) 159 v 0) 159 w = _
      rw [vI_q (fun z => q z.2)]
      rfl
  | cons x sg ih =>
    intro hr n τ h1 h2 h3 h4 h5 hn
    obtain ⟨m, rfl⟩ : ∃ m, n = m + 1 := ⟨n - 1, by omega⟩
    rw [List.cons_append, List.length_cons] at h2 h3
    have x3 := h4 x List.mem_cons_self
    have xv : x ≠ v := fun q => h5 (q ▸ List.mem_cons_self)
    obtain ⟨υ, r1, r2, r3, r4, r5⟩ := ih hr m (uI (uI (uI τ 90 62 (nI (sg ++ v :: hr).length)) 159 x 0) 160 x is) (h1.2.c (fun _ _ => rfl)) rfl (by omega) (fun y hy => h4 y (List.mem_cons_of_mem _ hy)) (fun q => h5 (List.mem_cons_of_mem _ q)) (by rw [List.length_cons] at hn; omega)
    refine ⟨υ, fun kx => ?_, fun w hw => ?_, fun w hw => ?_, r4, (((fm.uI (by first | exact Or.inl (by decide) | exact Or.inr ⟨rfl, by decide⟩)).tr (fm.uI (by first | exact Or.inl (by decide) | exact Or.inr ⟨rfl, by decide⟩))).tr (fm.uI (by first | exact Or.inl (by decide) | exact Or.inr ⟨rfl, by decide⟩))).tr r5⟩
    · rw [L_X12_leaves_83, if_neg (by decide), h2, nI_pred, bnd_s]
      rw [show vI (uI τ 90 62 (nI (sg ++ v :: hr).length)) 90 62 = nI (sg ++ v :: hr).length from rfl, inb_n (by omega) (by omega), grd_s, bnd_s, nI_clamp (by omega)]
      rw [show vI (uI τ 90 62 (nI (sg ++ v :: hr).length)) 156 (sg ++ v :: hr).length = nI x from h1.1, inb_n x3 (by omega), grd_s, bnd_s, grd_s, nI_clamp (by omega), his, grd_s, bnd_s, if_neg (fun q => xv (nI_ij (by omega) (by omega) q))]
      exact r1 kx
    · by_cases q : w ∈ v :: sg
      · exact r2 w q
      · have e : w = x := by
          rcases List.mem_cons.mp hw with z | z
          · exact absurd (z ▸ List.mem_cons_self) q
          · rcases List.mem_cons.mp z with z | z
            · exact z
            · exact absurd (List.mem_cons_of_mem _ z) q
        rw [(r3 w q).1, (r3 w q).2, e]
        exact ⟨vI_e, vI_e⟩
    · have q : w ∉ v :: sg := fun z => by
        rcases List.mem_cons.mp z with z | z
        · exact hw (z ▸ List.mem_cons_self)
        · exact hw (List.mem_cons_of_mem _ (List.mem_cons_of_mem _ z))
      have qx : w ≠ x := fun z => hw (z ▸ List.mem_cons_of_mem _ List.mem_cons_self)
      rw [(r3 w q).1, (r3 w q).2]
      refine ⟨?_, vI_q (fun z => qx z.2)⟩
      show vI (uI (uI τ 90 62 _) 159 x 0) 159 w = _
      rw [vI_q (fun z => qx z.2)]
      rfl
/-- the reference's edges, told while nothing new is met -/
def rSte (el : Nat → List (Nat × Nat)) (Q : List Nat) (τ : sS) : Prop := ∀ p, p ∈ Q → rEd el p τ ∧ ∀ e, e ∈ el p → L_X12_goesBy (nI p) (nI e.1) τ = some (nI e.2, τ)
theorem x_l39 {el : Nat → List (Nat × Nat)} {Q : List Nat} {τ : sS} {V : Nat → Prop} (hO : bO V el) (hS : rSte el Q τ) {F v : Nat} (hF : 20 < F) (hv : v ∈ Q) (hV : V v) : ∀ (rest pre : List (Nat × Nat)) (n : Nat) (kx : Int32 → sS → Option sS), el v = pre ++ rest → rest.length + 1 < n → L_X12_leaves_39 F (nI v) kx n 0 (hEd rest) τ = kx (if (∃ e, e ∈ rest ∧ e.2 = v) then 1 else 0) τ := by
  intro rest
  induction rest with
  | nil =>
    intro pre n kx hel hn
    obtain ⟨m, rfl⟩ : ∃ m, n = m + 1 := ⟨n - 1, by omega⟩
    rw [if_neg (fun ⟨e, q, _⟩ => nomatch q)]
    rfl
  | cons e r ih =>
    intro pre n kx hel hn
    obtain ⟨m, rfl⟩ : ∃ m, n = m + 2 := ⟨n - 2, by rw [List.length_cons] at hn; omega⟩
    have em : e ∈ el v := by rw [hel]; simp
    obtain ⟨so, eb⟩ := hO.2 v hV
    obtain ⟨e6, eV⟩ := eb e em
    have e3 := hO.1 _ eV
    have v3 := hO.1 _ hV
    have ed := (hS v hv).1 F (e.1 + 1) hF (by omega)
    rw [hel] at so
    have so1 := List.pairwise_append.mp so
    have so2 := List.pairwise_cons.mp so1.2.1
    have ed2 : fEd (e.1 + 1) (el v) = hEd r := by
      rw [hel, show pre ++ e :: r = (pre ++ [e]) ++ r by simp]
      rw [fEd_a (fun x hx => by
        rcases List.mem_append.mp hx with q | q
        · have := so1.2.2 x q e List.mem_cons_self; omega
        · rw [List.mem_singleton.mp q]; omega)]
      exact fEd_b (fun x hx => so2.1 x hx)
    rw [ed2] at ed
    rw [L_X12_leaves_39]
    rw [show hEd (e :: r) = nI e.1 from rfl, if_neg (nI_n1' (by omega)), if_pos rfl, (hS v hv).2 e em, bd2_s]
    by_cases c : e.2 = v
    · rw [if_pos (by rw [c]), nI_1, ed, bd_s]
      rw [if_pos (show ∃ e', e' ∈ e :: r ∧ e'.2 = v from ⟨e, List.mem_cons_self, c⟩)]
      rw [L_X12_leaves_39]
      by_cases d : hEd r = -1
      · rw [if_pos d]
      · rw [if_neg d, if_neg (by decide)]
    · rw [if_neg (fun q => c (nI_ij (by omega) (by omega) q)), nI_1, ed, bd_s]
      rw [ih (pre ++ [e]) (m + 1) kx (by rw [hel]; simp) (by rw [List.length_cons] at hn; omega)]
      have : (∃ e', e' ∈ e :: r ∧ e'.2 = v) ↔ ∃ e', e' ∈ r ∧ e'.2 = v := ⟨fun ⟨e', q1, q2⟩ => by
        rcases List.mem_cons.mp q1 with z | z
        · exact absurd (z ▸ q2) c
        · exact ⟨e', z, q2⟩, fun ⟨e', q1, q2⟩ => ⟨e', List.mem_cons_of_mem _ q1, q2⟩⟩
      simp only [this]
