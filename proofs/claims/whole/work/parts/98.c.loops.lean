/-! going deep: how the component holds it -/
/-- a row holds a list, its last one first -/
def rwS (τ : sS) (r : Nat) : List Nat → Prop
  | [] => True
  | x :: l => vI τ r l.length = nI x ∧ rwS τ r l
theorem rwS.c {σ τ : sS} {r : Nat} : ∀ {l : List Nat}, rwS σ r l → (∀ j, j < l.length → vI τ r j = vI σ r j) → rwS τ r l
  | [], _, _ => trivial
  | x :: l, h, k => ⟨(k l.length (by simp)).trans h.1, rwS.c h.2 (fun j hj => k j (by rw [List.length_cons]; omega))⟩
theorem rwS.app {τ : sS} {r : Nat} : ∀ {l1 l2 : List Nat}, rwS τ r (l1 ++ l2) → rwS τ r l2
  | [], _, h => h
  | _ :: l1, _, h => rwS.app (l1 := l1) h.2
theorem rwS.at {τ : sS} {r x : Nat} : ∀ {l1 l2 : List Nat}, rwS τ r (l1 ++ x :: l2) → vI τ r l2.length = nI x := fun {l1 l2} h => (rwS.app (l1 := l1) h).1
/-- each of the last ones stands somewhere behind the others -/
theorem rwS.mem {τ : sS} {r : Nat} : ∀ {l1 l2 : List Nat}, rwS τ r (l1 ++ l2) → ∀ j, l2.length ≤ j → j < l1.length + l2.length → ∃ x, x ∈ l1 ∧ vI τ r j = nI x
  | [], l2, _, j, h1, h2 => by simp only [List.length_nil] at h2; omega
  | x :: l1, l2, h, j, h1, h2 => by
    by_cases e : j = (l1 ++ l2).length
    · exact ⟨x, List.mem_cons_self, by rw [e]; exact h.1⟩
    · rw [List.length_append] at e
      rw [List.length_cons] at h2
      obtain ⟨y, y1, y2⟩ := rwS.mem (l1 := l1) h.2 j h1 (by omega)
      exact ⟨y, List.mem_cons_of_mem _ y1, y2⟩
theorem rwS.idx {τ : sS} {r x : Nat} : ∀ {l1 l2 : List Nat}, rwS τ r (l1 ++ l2) → x ∈ l1 → ∃ j, l2.length ≤ j ∧ j < l1.length + l2.length ∧ vI τ r j = nI x
  | [], _, _, hx => nomatch hx
  | y :: l1, l2, h, hx => by
    rcases List.mem_cons.mp hx with e | e
    · exact ⟨(l1 ++ l2).length, by rw [List.length_append]; omega, by rw [List.length_append, List.length_cons]; omega, by rw [e]; exact h.1⟩
    · obtain ⟨j, j1, j2, j3⟩ := rwS.idx (l1 := l1) h.2 e
      exact ⟨j, j1, by rw [List.length_cons]; omega, j3⟩
theorem nodup_len {n : Nat} {l : List Nat} (h : l.Nodup) (hb : ∀ x, x ∈ l → x < n) : l.length ≤ n := by
  have key : ∀ a b, a < l.length → b < l.length → l.getD a 0 = l.getD b 0 → a = b := by
    intro a b ha hb e
    rw [List.getD_eq_getElem?_getD, List.getD_eq_getElem?_getD, List.getElem?_eq_getElem ha, List.getElem?_eq_getElem hb] at e
    have e : l[a] = l[b] := e
    have hp := List.pairwise_iff_getElem.mp h
    rcases Nat.lt_trichotomy a b with q | q | q
    · exact absurd e (hp a b ha hb q)
    · exact q
    · exact absurd e.symm (hp b a hb ha q)
  exact pigeon n l.length (fun a => l.getD a 0) (fun a ha => by
    show l.getD a 0 < n
    rw [List.getD_eq_getElem?_getD, List.getElem?_eq_getElem ha]
    exact hb _ (List.getElem_mem ha)) key
theorem pw_nd {od : Nat → Nat} : ∀ {l : List Nat}, l.Pairwise (fun a b => od b < od a) → l.Nodup := by
  intro l h
  exact List.Pairwise.imp (fun {a b} q e => by rw [e] at q; omega) h
def bv (b : Bool) (k : Nat) : Nat := if b = true then k else 0
/-- the flags of a vertex -/
def flv (sc : Nat → List Nat) (cu : Nat → Nat) (gd lp : Nat → Bool) (hs : List Nat) (v : Nat) : Nat := if v ∈ hs then 1 + bv (decide (v ∈ (sc v).take (cu v))) 2 + bv (gd v) 8 else bv (lp v) 4 + bv (gd v) 8
theorem flv_lt {sc : Nat → List Nat} {cu : Nat → Nat} {gd lp : Nat → Bool} {hs : List Nat} {v : Nat} : flv sc cu gd lp hs v < 16 := by
  unfold flv bv
  repeat' split
  all_goals omega
theorem fl_bits : ∀ s g : Bool, (nI (1 + bv s 2 + bv g 8) &&& 1 ≠ 0) ∧ (nI (1 + bv s 2 + bv g 8) &&& 2 = if s then 2 else 0) ∧ (nI (1 + bv s 2 + bv g 8) &&& 8 = if g then 8 else 0) ∧ nI (1 + bv s 2 + bv g 8) ||| 2 = nI (1 + bv true 2 + bv g 8) ∧ nI (1 + bv s 2 + bv g 8) ||| 8 = nI (1 + bv s 2 + bv true 8) := by decide +kernel
theorem fr_bits : ∀ l g : Bool, (nI (bv l 4 + bv g 8) &&& 1 = 0) ∧ (nI (bv l 4 + bv g 8) &&& 8 = if g then 8 else 0) ∧ (nI (bv l 4 + bv g 8) &&& 4 = if l then 4 else 0) := by decide +kernel
/-- how the component holds what holds while one goes deep -/
def lR (sc : Nat → List Nat) (n : Nat) (od lo cu : Nat → Nat) (gd lp : Nat → Bool) (hs pa : List Nat) (ne : Nat) (τ : sS) : Prop := (∀ v, v < n → vI τ 20 v = nI (od v)) ∧ (∀ v, v ∈ hs → vI τ 21 v = nI (lo v)) ∧ (∀ v, v < n → vI τ 22 v = nI (flv sc cu gd lp hs v)) ∧ (rwS τ 24 pa ∧ vI τ 19 6 = nI pa.length) ∧ (rwS τ 25 hs ∧ vI τ 19 7 = nI hs.length) ∧ vI τ 19 8 = nI ne ∧ (∀ r, 20 ≤ r → r ≤ 25 → n ≤ vC τ r) ∧ (∀ v, v ∈ hs → v < n) ∧ (∀ v, od v = 0 → lp v = false) ∧ n ≤ 3000 ∧ ne ≤ n
def lf1 (L : List Nat) (σ τ : sS) : Prop := (∀ a j, a ∉ L → vI τ a j = vI σ a j) ∧ τ.2 = σ.2
theorem lf1.rf {L : List Nat} {σ : sS} : lf1 L σ σ := ⟨fun _ _ _ => rfl, rfl⟩
theorem lf1.tr {L : List Nat} {σ τ υ : sS} (h : lf1 L σ τ) (k : lf1 L τ υ) : lf1 L σ υ := ⟨fun a j n => (k.1 a j n).trans (h.1 a j n), k.2.trans h.2⟩
theorem lf1.u {L : List Nat} {σ : sS} {a k : Nat} {x : Int32} (h : a ∈ L) : lf1 L σ (uI σ a k x) := ⟨fun b j n => vI_q (fun q => n (q.1 ▸ h)), rfl⟩
def lL : List Nat := [19, 20, 21, 22, 24, 25]
/-- the component enters a vertex -/
theorem y_en {sc : Nat → List Nat} {n ne t : Nat} {od lo cu cu' : Nat → Nat} {gd lp : Nat → Bool} {hs pa : List Nat} {τ : sS} (h : lR sc n od lo cu gd lp hs pa ne τ) (hnd : hs.Nodup) (hpl : pa.length ≤ hs.length) (ht : t < n) (h0 : od t = 0) (hh : ∀ v, v ∈ hs → od v ≠ 0) (hne : ne < n) (hg : gd t = false) (hct : cu' t = 0) (hcu : ∀ v, v < n → v ≠ t → decide (v ∈ (sc v).take (cu' v)) = decide (v ∈ (sc v).take (cu v))) : lR sc n (pu od t (ne + 1)) (pu lo t (ne + 1)) cu' gd lp (t :: hs) (t :: pa) (ne + 1) (l_en τ (nI t)) ∧ lf1 lL τ (l_en τ (nI t)) := by
  obtain ⟨a1, a2, a3, ⟨a4, a5⟩, ⟨a6, a7⟩, a8, a9, a10, a11, a12, a13⟩ := h
  have tnh : t ∉ hs := fun q => hh t q h0
  have hlen : hs.length < n := by
    have := nodup_len (n := n) (l := t :: hs) (List.nodup_cons.mpr ⟨tnh, hnd⟩) (fun x hx => by
      rcases List.mem_cons.mp hx with q | q
      · rw [q]; exact ht
      · exact a10 x q)
    rw [List.length_cons] at this
    omega
  have c20 := a9 20 (by decide) (by decide)
  have c21 := a9 21 (by decide) (by decide)
  have c22 := a9 22 (by decide) (by decide)
  have c24 := a9 24 (by decide) (by decide)
  have c25 := a9 25 (by decide) (by decide)
  have ft : flv sc cu gd lp hs t = 0 := by
    unfold flv
    rw [if_neg tnh, a11 t h0, hg]
    rfl
  have e : l_en τ (nI t) = uI (uI (uI (uI (uI (uI (uI (uI τ 19 8 (nI (ne + 1))) 20 t (nI (ne + 1))) 21 t (nI (ne + 1))) 22 t (nI 1)) 24 pa.length (nI t)) 19 6 (nI (pa.length + 1))) 25 hs.length (nI t)) 19 7 (nI (hs.length + 1)) := by
    unfold l_en l_e6 l_e5 l_e4 l_e3 l_e2 l_e1 l_ra
    rw [a8, nI_1]
    rw [show vI (uI τ 19 8 (nI (ne + 1))) 19 8 = nI (ne + 1) from rfl]
    rw [rp_n (σ := uI τ 19 8 (nI (ne + 1))) (r := 20) (k := t) (show t < vC τ 20 by omega) (by omega)]
    rw [show vI (uI (uI τ 19 8 (nI (ne + 1))) 20 t (nI (ne + 1))) 19 8 = nI (ne + 1) from rfl]
    rw [rp_n (σ := uI (uI τ 19 8 (nI (ne + 1))) 20 t (nI (ne + 1))) (r := 21) (k := t) (show t < vC τ 21 by omega) (by omega)]
    rw [rg_nI (by omega), show vI (uI (uI (uI τ 19 8 (nI (ne + 1))) 20 t (nI (ne + 1))) 21 t (nI (ne + 1))) 22 t = nI 0 from (a3 t ht).trans (by rw [ft]), show nI 0 ||| (1 : Int32) = nI 1 from rfl]
    rw [rp_n (σ := uI (uI (uI τ 19 8 (nI (ne + 1))) 20 t (nI (ne + 1))) 21 t (nI (ne + 1))) (r := 22) (k := t) (show t < vC τ 22 by omega) (by omega)]
    rw [show vI (uI (uI (uI (uI τ 19 8 (nI (ne + 1))) 20 t (nI (ne + 1))) 21 t (nI (ne + 1))) 22 t (nI 1)) 19 6 = nI pa.length from a5]
    rw [rp_n (σ := uI (uI (uI (uI τ 19 8 (nI (ne + 1))) 20 t (nI (ne + 1))) 21 t (nI (ne + 1))) 22 t (nI 1)) (r := 24) (k := pa.length) (show pa.length < vC τ 24 by omega) (by omega)]
    rw [show vI (uI (uI (uI (uI (uI τ 19 8 (nI (ne + 1))) 20 t (nI (ne + 1))) 21 t (nI (ne + 1))) 22 t (nI 1)) 24 pa.length (nI t)) 19 6 = nI pa.length from a5, nI_1]
    rw [show vI (uI (uI (uI (uI (uI (uI τ 19 8 (nI (ne + 1))) 20 t (nI (ne + 1))) 21 t (nI (ne + 1))) 22 t (nI 1)) 24 pa.length (nI t)) 19 6 (nI (pa.length + 1))) 19 7 = nI hs.length from a7]
    rw [rp_n (σ := uI (uI (uI (uI (uI (uI τ 19 8 (nI (ne + 1))) 20 t (nI (ne + 1))) 21 t (nI (ne + 1))) 22 t (nI 1)) 24 pa.length (nI t)) 19 6 (nI (pa.length + 1))) (r := 25) (k := hs.length) (show hs.length < vC τ 25 by omega) (by omega)]
    rw [show vI (uI (uI (uI (uI (uI (uI (uI τ 19 8 (nI (ne + 1))) 20 t (nI (ne + 1))) 21 t (nI (ne + 1))) 22 t (nI 1)) 24 pa.length (nI t)) 19 6 (nI (pa.length + 1))) 25 hs.length (nI t)) 19 7 = nI hs.length from a7, nI_1]
  rw [e]
  refine ⟨⟨fun v hv => ?_, fun v hv => ?_, fun v hv => ?_, ⟨⟨?_, ?_⟩, ?_⟩, ⟨⟨?_, ?_⟩, rfl⟩, rfl, a9, fun v hv => ?_, fun v hv => ?_, a12, by omega⟩, ?_⟩
  · show vI (uI (uI τ 19 8 _) 20 t (nI (ne + 1))) 20 v = _
    by_cases q : v = t
    · rw [q, vI_e, pu_s]
    · rw [vI_q (fun z => q z.2), pu_n q]; exact a1 v hv
  · show vI (uI (uI (uI τ 19 8 _) 20 t _) 21 t (nI (ne + 1))) 21 v = _
    by_cases q : v = t
    · rw [q, vI_e, pu_s]
    · rw [vI_q (fun z => q z.2), pu_n q]
      exact a2 v ((List.mem_cons.mp hv).resolve_left q)
  · show vI (uI (uI (uI (uI τ 19 8 _) 20 t _) 21 t _) 22 t (nI 1)) 22 v = _
    by_cases q : v = t
    · rw [q, vI_e]
      unfold flv
      rw [if_pos List.mem_cons_self, hct, hg, List.take_zero]
      rfl
    · rw [vI_q (fun z => q z.2)]
      refine (a3 v hv).trans (congrArg nI ?_)
      unfold flv
      rw [hcu v hv q]
      by_cases m : v ∈ hs
      · rw [if_pos m, if_pos (List.mem_cons_of_mem _ m)]
      · rw [if_neg m, if_neg (fun z => m ((List.mem_cons.mp z).resolve_left q))]
  · show vI (uI (uI (uI (uI (uI τ 19 8 _) 20 t _) 21 t _) 22 t _) 24 pa.length (nI t)) 24 pa.length = _
    exact vI_e
  · refine a4.c (fun j hj => ?_)
    show vI (uI (uI (uI (uI (uI τ 19 8 _) 20 t _) 21 t _) 22 t _) 24 pa.length (nI t)) 24 j = _
    rw [vI_q (fun z => by have := z.2; omega)]
    rfl
  · rfl
  · show vI (uI (uI (uI (uI (uI (uI (uI τ 19 8 _) 20 t _) 21 t _) 22 t _) 24 _ _) 19 6 _) 25 hs.length (nI t)) 25 hs.length = _
    exact vI_e
  · refine a6.c (fun j hj => ?_)
    show vI (uI (uI (uI (uI (uI (uI (uI τ 19 8 _) 20 t _) 21 t _) 22 t _) 24 _ _) 19 6 _) 25 hs.length (nI t)) 25 j = _
    rw [vI_q (fun z => by have := z.2; omega)]
    rfl
  · rcases List.mem_cons.mp hv with q | q
    · rw [q]; exact ht
    · exact a10 v q
  · by_cases q : v = t
    · rw [q, pu_s] at hv; omega
    · rw [pu_n q] at hv; exact a11 v hv
  · exact (((((((lf1.u (by decide)).tr (lf1.u (by decide))).tr (lf1.u (by decide))).tr (lf1.u (by decide))).tr (lf1.u (by decide))).tr (lf1.u (by decide))).tr (lf1.u (by decide))).tr (lf1.u (by decide))
