/-! going deep: the component looks at an old one; goes back -/
theorem mnI_N {a b : Nat} (ha : a < 2 ^ 31) (hb : b < 2 ^ 31) : mnI (nI a) (nI b) = nI (min a b) := by
  unfold mnI
  by_cases c : b < a
  · rw [if_pos (nI_lt c ha), Nat.min_eq_right (by omega)]
  · rw [if_neg (fun q => c ((nI_ltI hb ha).mp q)), Nat.min_eq_left (by omega)]
theorem lR.fl {sc : Nat → List Nat} {n ne v k : Nat} {od lo cu cu' : Nat → Nat} {gd gd' lp : Nat → Bool} {hs pa : List Nat} {τ : sS} (h : lR sc n od lo cu gd lp hs pa ne τ) (hv : v ∈ hs) (he : flv sc cu' gd' lp hs v = k) (hn : ∀ w, w < n → w ≠ v → flv sc cu' gd' lp hs w = flv sc cu gd lp hs w) : lR sc n od lo cu' gd' lp hs pa ne (uI τ 22 v (nI k)) := by
  obtain ⟨a1, a2, a3, a4, a5, a8, a9, a10, a11, a12, a13⟩ := h
  refine ⟨a1, a2, fun w hw => ?_, ⟨a4.1.c (fun _ _ => rfl), a4.2⟩, ⟨a5.1.c (fun _ _ => rfl), a5.2⟩, a8, a9, a10, a11, a12, a13⟩
  by_cases q : w = v
  · rw [q, vI_e, he]
  · rw [vI_q (fun z => q z.2), hn w hw q]
    exact a3 w hw
theorem lR.same {sc : Nat → List Nat} {n ne : Nat} {od lo cu cu' : Nat → Nat} {gd gd' lp : Nat → Bool} {hs pa : List Nat} {τ : sS} (h : lR sc n od lo cu gd lp hs pa ne τ) (hn : ∀ w, w < n → flv sc cu' gd' lp hs w = flv sc cu gd lp hs w) : lR sc n od lo cu' gd' lp hs pa ne τ := by
  obtain ⟨a1, a2, a3, a4, a5, a8, a9, a10, a11, a12, a13⟩ := h
  exact ⟨a1, a2, fun w hw => by rw [hn w hw]; exact a3 w hw, a4, a5, a8, a9, a10, a11, a12, a13⟩
theorem lR.lo {sc : Nat → List Nat} {n ne v x : Nat} {od lo cu : Nat → Nat} {gd lp : Nat → Bool} {hs pa : List Nat} {τ : sS} (h : lR sc n od lo cu gd lp hs pa ne τ) : lR sc n od (pu lo v x) cu gd lp hs pa ne (uI τ 21 v (nI x)) := by
  obtain ⟨a1, a2, a3, a4, a5, a8, a9, a10, a11, a12, a13⟩ := h
  refine ⟨a1, fun w hw => ?_, a3, ⟨a4.1.c (fun _ _ => rfl), a4.2⟩, ⟨a5.1.c (fun _ _ => rfl), a5.2⟩, a8, a9, a10, a11, a12, a13⟩
  by_cases q : w = v
  · rw [q, vI_e, pu_s]
  · rw [vI_q (fun z => q z.2), pu_n q]
    exact a2 w hw
theorem flv_cu {sc : Nat → List Nat} {cu : Nat → Nat} {gd lp : Nat → Bool} {hs r : List Nat} {v t : Nat} (hd : (sc v).drop (cu v) = t :: r) : (∀ w, w ≠ v → flv sc (pu cu v (cu v + 1)) gd lp hs w = flv sc cu gd lp hs w) ∧ (t ≠ v → decide (v ∈ (sc v).take (pu cu v (cu v + 1) v)) = decide (v ∈ (sc v).take (cu v))) ∧ (t = v → v ∈ (sc v).take (pu cu v (cu v + 1) v)) := by
  have k := fun u => tE_s (x := u) hd u
  refine ⟨fun w hw => ?_, fun ht => ?_, fun ht => ?_⟩
  · unfold flv
    rw [pu_n hw]
  · exact decide_eq_decide.mpr ⟨fun q => ((k v).mp q).resolve_right (fun z => ht z.2.symm), fun q => (k v).mpr (Or.inl q)⟩
  · exact (k v).mpr (Or.inr ⟨rfl, ht.symm⟩)
/-- an old one that is held -/
theorem y_laH {sc : Nat → List Nat} {mk : Nat → Bool} {n ne v t : Nat} {od lo cu : Nat → Nat} {gd lp : Nat → Bool} {hs pr r : List Nat} {τ : sS} (h : lR sc n od lo cu gd lp hs (v :: pr) ne τ) (hT : TI sc mk od lo cu gd lp hs (v :: pr) ne) (hd : (sc v).drop (cu v) = t :: r) (ht : t ∈ hs) : lR sc n od (pu lo v (min (lo v) (od t))) (pu cu v (cu v + 1)) gd lp hs (v :: pr) ne (l_la τ (nI v) (nI t)) ∧ lf1 lL τ (l_la τ (nI v) (nI t)) := by
  obtain ⟨a1, a2, a3, a4, a5, a8, a9, a10, a11, a12, a13⟩ := id h
  have vh : v ∈ hs := hT.1.2.2.2.2.2.1 v List.mem_cons_self
  have vn := a10 v vh
  have tn := a10 t ht
  have c21 := a9 21 (by decide) (by decide)
  have c22 := a9 22 (by decide) (by decide)
  have lov := (hT.2.1 v vh).1
  have odn := hT.1.2.2.1
  have o1 := odn v
  have o2 := odn t
  obtain ⟨k1, k2, k3⟩ := flv_cu (gd := gd) (lp := lp) (hs := hs) hd
  unfold l_la l_ra
  rw [rg_nI (by omega), rg_nI (by omega), rg_nI (by omega), rg_nI (by omega), a3 v vn, a3 t tn, a2 v vh, a1 t tn, mnI_N (by omega) (by omega)]
  by_cases e : t = v
  · rw [if_pos (by rw [e])]
    have elo : pu lo v (min (lo v) (od t)) = lo := funext fun w => by
      by_cases q : w = v
      · rw [q, pu_s, e, Nat.min_eq_left lov]
      · rw [pu_n q]
    have ef : nI (flv sc cu gd lp hs v) ||| 2 = nI (1 + bv true 2 + bv (gd v) 8) := by
      unfold flv
      rw [if_pos vh]
      exact (fl_bits _ _).2.2.2.1
    rw [elo, ef, rp_n (by omega) (by omega)]
    refine ⟨h.fl vh ?_ (fun w _ q => k1 w q), lf1.u (by decide)⟩
    unfold flv
    rw [if_pos vh, decide_eq_true (k3 e)]
  · have ef : ¬ nI (flv sc cu gd lp hs t) &&& 1 = 0 := by
      unfold flv
      rw [if_pos ht]
      exact (fl_bits _ _).1
    rw [if_neg (fun q => e (nI_ij (by omega) (by omega) q)), if_neg ef, rp_n (by omega) (by omega)]
    refine ⟨(h.same (cu' := pu cu v (cu v + 1)) (gd' := gd) (fun w _ => ?_)).lo, lf1.u (by decide)⟩
    by_cases q : w = v
    · rw [q]; unfold flv; rw [k2 e]
    · exact k1 w q
/-- an old one that isn't held any more -/
theorem y_laR {sc : Nat → List Nat} {mk : Nat → Bool} {n ne v t : Nat} {od lo cu : Nat → Nat} {gd lp : Nat → Bool} {hs pr r : List Nat} {τ : sS} (h : lR sc n od lo cu gd lp hs (v :: pr) ne τ) (hT : TI sc mk od lo cu gd lp hs (v :: pr) ne) (hd : (sc v).drop (cu v) = t :: r) (ht : t ∉ hs) (htn : t < n) : lR sc n od lo (pu cu v (cu v + 1)) (pu gd v (gd v || gd t)) lp hs (v :: pr) ne (l_la τ (nI v) (nI t)) ∧ lf1 lL τ (l_la τ (nI v) (nI t)) := by
  obtain ⟨a1, a2, a3, a4, a5, a8, a9, a10, a11, a12, a13⟩ := id h
  have vh : v ∈ hs := hT.1.2.2.2.2.2.1 v List.mem_cons_self
  have vn := a10 v vh
  have c22 := a9 22 (by decide) (by decide)
  have e : t ≠ v := fun q => ht (q ▸ vh)
  obtain ⟨k1, k2, k3⟩ := flv_cu (gd := gd) (lp := lp) (hs := hs) hd
  have ef : flv sc cu gd lp hs t = bv (lp t) 4 + bv (gd t) 8 := by
    unfold flv
    rw [if_neg ht]
  obtain ⟨b1, b2, -⟩ := fr_bits (lp t) (gd t)
  unfold l_la l_ra
  rw [rg_nI (by omega), rg_nI (by omega), a3 v vn, a3 t htn, ef, if_neg (fun q => e (nI_ij (by omega) (by omega) q)), if_pos b1, b2]
  have kw : ∀ (g' : Nat → Bool) w, w ≠ v → (∀ x, x ≠ v → g' x = gd x) → flv sc (pu cu v (cu v + 1)) g' lp hs w = flv sc cu gd lp hs w := by
    intro g' w hw hg
    rw [← k1 w hw]
    unfold flv
    rw [hg w hw]
  have gw' : ∀ x, x ≠ v → pu gd v (gd v || gd t) x = gd x := fun x hx => pu_n hx
  have kv : flv sc (pu cu v (cu v + 1)) (pu gd v (gd v || gd t)) lp hs v = 1 + bv (decide (v ∈ (sc v).take (cu v))) 2 + bv (gd v || gd t) 8 := by
    unfold flv
    rw [if_pos vh, k2 e, pu_s (f := gd)]
  cases hg : gd t with
  | false =>
    rw [hg] at gw' kv
    rw [if_pos (show (if false = true then (8 : Int32) else 0) = 0 from rfl)]
    refine ⟨h.same (fun w hw => ?_), lf1.rf⟩
    by_cases q : w = v
    · rw [q, kv, Bool.or_false]
      unfold flv
      rw [if_pos vh]
    · exact kw _ w q gw'
  | true =>
    rw [hg] at gw' kv
    rw [if_neg (show ¬ (if true = true then (8 : Int32) else 0) = 0 by decide)]
    have ev : nI (flv sc cu gd lp hs v) ||| 8 = nI (1 + bv (decide (v ∈ (sc v).take (cu v))) 2 + bv true 8) := by
      unfold flv
      rw [if_pos vh]
      exact (fl_bits _ _).2.2.2.2
    rw [ev, rp_n (by omega) (by omega)]
    refine ⟨h.fl vh ?_ (fun w _ q => kw _ w q gw'), lf1.u (by decide)⟩
    rw [kv, Bool.or_true]
/-- what a vertex tells the one before it -/
theorem y_v2 {sc : Nat → List Nat} {n ne v b : Nat} {od lo cu : Nat → Nat} {gd lp : Nat → Bool} {hs pa : List Nat} {x : Nat} {gv : Bool} {τ : sS} (h : lR sc n od lo cu gd lp hs pa ne τ) (hb : b ∈ hs) (hvn : v < n) (hx : vI τ 21 v = nI x) (hx2 : x < 2 ^ 31) (hlo : lo b < 2 ^ 31) (hg : nI (flv sc cu gd lp hs v) &&& 8 = if gv then 8 else 0) : lR sc n od (pu lo b (min (lo b) x)) cu (pu gd b (gd b || gv)) lp hs pa ne (l_v2 τ (nI v) (nI b)) ∧ lf1 lL τ (l_v2 τ (nI v) (nI b)) := by
  obtain ⟨a1, a2, a3, a4, a5, a8, a9, a10, a11, a12, a13⟩ := id h
  have bn := a10 b hb
  have c21 := a9 21 (by decide) (by decide)
  have c22 := a9 22 (by decide) (by decide)
  have e1 : rp τ 21 (nI b) (mnI (rg τ 21 (nI b)) (rg τ 21 (nI v))) = uI τ 21 b (nI (min (lo b) x)) := by
    rw [rg_nI (by omega), rg_nI (by omega), a2 b hb, hx, mnI_N hlo hx2, rp_n (by omega) (by omega)]
  have h1 := h.lo (v := b) (x := min (lo b) x)
  unfold l_v2 l_hs l_ra
  rw [e1, rg_nI (by omega), rg_nI (by omega), h1.2.2.1 v hvn, h1.2.2.1 b bn, hg]
  have gb : ∀ y, y ≠ b → pu gd b (gd b || gv) y = gd y := fun y hy => pu_n hy
  have kb : flv sc cu (pu gd b (gd b || gv)) lp hs b = 1 + bv (decide (b ∈ (sc b).take (cu b))) 2 + bv (gd b || gv) 8 := by
    unfold flv
    rw [if_pos hb, pu_s]
  have kn : ∀ w, w ≠ b → flv sc cu (pu gd b (gd b || gv)) lp hs w = flv sc cu gd lp hs w := fun w hw => by
    unfold flv
    rw [gb w hw]
  cases gv with
  | false =>
    rw [if_pos (show (if (if false = true then (8 : Int32) else 0) = 0 then (0 : Int32) else 1) = 0 from rfl)]
    refine ⟨h1.same (fun w hw => ?_), lf1.u (by decide)⟩
    by_cases q : w = b
    · rw [q, kb, Bool.or_false]
      unfold flv
      rw [if_pos hb]
    · exact kn w q
  | true =>
    rw [if_neg (show ¬ (if (if true = true then (8 : Int32) else 0) = 0 then (0 : Int32) else 1) = 0 by decide)]
    have ev : nI (flv sc cu gd lp hs b) ||| 8 = nI (1 + bv (decide (b ∈ (sc b).take (cu b))) 2 + bv true 8) := by
      unfold flv
      rw [if_pos hb]
      exact (fl_bits _ _).2.2.2.2
    rw [ev, rp_n (σ := uI τ 21 b (nI (min (lo b) x))) (show b < vC τ 22 by omega) (by omega)]
    refine ⟨h1.fl hb ?_ (fun w _ q => kn w q), (lf1.u (by decide)).tr (lf1.u (by decide))⟩
    rw [kb, Bool.or_true]
theorem lR.pop {sc : Nat → List Nat} {n ne v : Nat} {od lo cu : Nat → Nat} {gd lp : Nat → Bool} {hs pr : List Nat} {τ : sS} (h : lR sc n od lo cu gd lp hs (v :: pr) ne τ) : lR sc n od lo cu gd lp hs pr ne (l_v0 τ) := by
  obtain ⟨a1, a2, a3, a4, a5, a8, a9, a10, a11, a12, a13⟩ := h
  have e : l_v0 τ = uI τ 19 6 (nI pr.length) := by
    unfold l_v0
    rw [a4.2, List.length_cons, nI_pred]
  rw [e]
  exact ⟨a1, a2, a3, ⟨a4.1.2.c (fun _ _ => rfl), rfl⟩, ⟨a5.1.c (fun _ _ => rfl), a5.2⟩, a8, a9, a10, a11, a12, a13⟩
/-- back to the one before, which is held still -/
theorem y_lvB {sc : Nat → List Nat} {mk : Nat → Bool} {fM : sS → List Int32 → Int32} {n ne v b : Nat} {od lo cu : Nat → Nat} {gd lp : Nat → Bool} {hs pr : List Nat} {τ : sS} (h : lR sc n od lo cu gd lp hs (v :: b :: pr) ne τ) (hT : TI sc mk od lo cu gd lp hs (v :: b :: pr) ne) (hl : lo v < od v) (hpl : pr.length < 3000) : lR sc n od (pu lo b (min (lo b) (lo v))) cu (pu gd b (gd b || gd v)) lp hs (b :: pr) ne (l_lv fM τ (nI v)) ∧ lf1 lL τ (l_lv fM τ (nI v)) := by
  obtain ⟨a1, a2, a3, a4, a5, a8, a9, a10, a11, a12, a13⟩ := id h
  have vh : v ∈ hs := hT.1.2.2.2.2.2.1 v List.mem_cons_self
  have bh : b ∈ hs := hT.1.2.2.2.2.2.1 b (List.mem_cons_of_mem _ List.mem_cons_self)
  have vn := a10 v vh
  have o1 := hT.1.2.2.1 v
  have o2 := hT.1.2.2.1 b
  have o3 := (hT.2.1 b bh).1
  have h0 := h.pop
  have f0 : lf1 lL τ (l_v0 τ) := lf1.u (by decide)
  have e1 : l_v1 fM τ (nI v) = l_v0 τ := by
    unfold l_v1
    rw [rg_nI (by omega), rg_nI (by omega), h0.2.1 v vh, h0.1 v vn, if_neg (fun q => by have := nI_ij (by omega) (by omega) q; omega)]
  have e2 : l_lv fM τ (nI v) = l_v2 (l_v0 τ) (nI v) (nI b) := by
    unfold l_lv l_v3
    rw [e1, h0.2.2.2.1.2, List.length_cons, if_neg (show ¬ nI (pr.length + 1) ≤ 0 from nI_ge (a := 0) (by omega) (by omega)), nI_pred, rg_nI (by omega), h0.2.2.2.1.1.1]
  rw [e2]
  have hg : nI (flv sc cu gd lp hs v) &&& 8 = if gd v then 8 else 0 := by
    unfold flv
    rw [if_pos vh]
    exact (fl_bits _ _).2.2.1
  obtain ⟨r1, r2⟩ := y_v2 h0 bh vn (h0.2.1 v vh) (by omega) (by omega) hg
  exact ⟨r1, f0.tr r2⟩
