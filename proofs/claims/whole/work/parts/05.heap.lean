/-! rules of the heap, over ab_R -/
def ab_ok (ci : Nat) (C : String) (T : u_T) (N : Nat) (ty : Nat → FieldType) : Prop := vwCl[ci]? = some (C, T, N) ∧ (∀ w ∈ u_ws C T N, w ∈ ab_tb) ∧ (∀ k, k < N → parseFieldDescriptor (T k).2.2.1 = some (ty k)) ∧ ∀ a, a < N → ∀ b, b < N → a ≠ b → (T a).2.1 ≠ (T b).2.1
theorem ab_Hs.P {κ : ab_P} {g : ab_S} {H : Heap} {a : Nat} {e : va_E} (h : ab_Hs κ g H) (he : g.1 a = some e) : va_P κ.1 vwCl [(a, ab_to κ.2.1 e)] H := by
  intro k q hq
  have hz : k < 1 := (List.getElem?_eq_some_iff.mp hq).1
  rw [show k = 0 by omega] at hq
  cases hq
  exact (h.2.2 a e he).1
theorem ab_Hs.set {κ : ab_P} {g : ab_S} {H H1 : Heap} {a : Nat} {e e' : va_E} (h : ab_Hs κ g H) (he : g.1 a = some e) (h1 : va_at κ.1 vwCl (a, ab_to κ.2.1 e') H1) (hz : H1.size = H.size) (ho : ∀ q, q ≠ a → H1[q]? = H[q]?) : ab_Hs κ (ab_up g.1 a e', g.2) H1 := by
  refine ⟨hz.trans h.1, h.2.1, fun b x hb => ?_⟩
  by_cases hba : b = a
  · subst hba
    have hx : some e' = some x := by
      have h2 : ab_up g.1 b e' b = some x := hb
      unfold ab_up at h2
      rw [if_pos rfl] at h2
      exact h2
    cases hx
    exact ⟨h1, (h.2.2 b e he).2⟩
  · have h2 : g.1 b = some x := by
      have h3 : ab_up g.1 a e' b = some x := hb
      unfold ab_up at h3
      rw [if_neg hba] at h3
      exact h3
    exact ⟨(h.2.2 b x h2).1.kept (ho b hba), (h.2.2 b x h2).2⟩
theorem ab_Hs.push {κ : ab_P} {g : ab_S} {H H1 : Heap} {e' : va_E} {c s : Nat} (h : ab_Hs κ g H) (hA : κ.2.2.2.2 g.2.1) (h1 : va_at κ.1 vwCl (g.2.1, ab_to κ.2.1 e') H1) (hz : H1.size = H.size + 1) (ho : ∀ q, q < H.size → H1[q]? = H[q]?) : ab_Hs κ (ab_up g.1 g.2.1 e', g.2.1 + 1, c, s, g.2.2.2.2) H1 := by
  refine ⟨by rw [hz, h.1], h.2.1, fun b x hb => ?_⟩
  by_cases hba : b = g.2.1
  · subst hba
    have hx : some e' = some x := by
      have h2 : ab_up g.1 g.2.1 e' g.2.1 = some x := hb
      unfold ab_up at h2
      rw [if_pos rfl] at h2
      exact h2
    cases hx
    exact ⟨h1, hA⟩
  · have h2 : g.1 b = some x := by
      have h3 : ab_up g.1 g.2.1 e' b = some x := hb
      unfold ab_up at h3
      rw [if_neg hba] at h3
      exact h3
    exact ⟨(h.2.2 b x h2).1.kept (ho b (h.2.2 b x h2).1.lt), (h.2.2 b x h2).2⟩
section ABH
variable {X : ab_M} {d pc : Nat} {lo : List (Nat × Value)} {st : List Value} {g g' : ab_S} {r : Option Value}
theorem ab_R.get {a ci idx k N : Nat} {fs : List Value} {C : String} {T : u_T} {ty : Nat → FieldType} {v : Value} (O : ab_ok ci C T N ty) (hd : decode X.2.1 pc = .ok (.getfield idx, 3)) (hk : k < N) (hl : Cond.fieldLink X.1.cls idx (T k).1 (T k).2.1 (T k).2.2.1 ∈ ab_tb) (he : g.1 a = some (.inr (ci, fs))) (hv : fs[k]? = some v)
    (h : ab_R X d (pc + 3) lo (v :: st) g r g') : ab_R X d pc lo (.ref a :: st) g r g' := by
  refine ⟨h.1, h.2.1, ?_⟩
  intro l κ p e R s m args below meth c c0 s0 H locs ls cx hdd hll hcc hss hc0 hs0 hH hS hlo
  exact va_get (D := κ.1) (ws := [(a, .inr (ci, fs))]) (C := C) (T := T) (N := N) (ci := ci) cx.1 cx.2.1 cx.2.2.2.2.2.2.2.1 O.2.1 cx.2.2.2.2.2.1 cx.2.2.2.2.2.2.2.2.1 (hH.P he) 0 rfl O.1 k hk (cx.2.2.2.2.2.2.2.1 _ hl) (fun _ h9 => h9) hv hd (h.2.2 l κ p e R s m args below meth c c0 s0 H locs ls cx hdd hll hcc hss hc0 hs0 hH hS hlo)
theorem ab_R.put {a ci idx k N : Nat} {fs : List Value} {C : String} {T : u_T} {ty : Nat → FieldType} {v : Value} (O : ab_ok ci C T N ty) (hd : decode X.2.1 pc = .ok (.putfield idx, 3)) (hk : k < N) (hl : Cond.fieldLink X.1.cls idx (T k).1 (T k).2.1 (T k).2.2.1 ∈ ab_tb) (hfin : (T k).2.2.2 = false) (hn : narrow (ty k) v = v) (hfit : fits (ty k) v = true) (hlen : k < fs.length) (he : g.1 a = some (.inr (ci, fs)))
    (h : ab_R X d (pc + 3) lo st (ab_up g.1 a (.inr (ci, fs.set k v)), g.2) r g') : ab_R X d pc lo (v :: .ref a :: st) g r g' := by
  refine ⟨h.1, h.2.1, ?_⟩
  intro l κ p e R s m args below meth c c0 s0 H locs ls cx hdd hll hcc hss hc0 hs0 hH hS hlo
  have hts := cx.2.2.2.2.2.2.2.1
  have hK := cx.2.2.2.2.2.2.2.2.1
  have hap := va_apart (own := X.1.cls) hts O.2.1 ty O.2.2.1 O.2.2.2 hK O.1
  obtain ⟨rr, h1, cell, q1, q2, q3, q4⟩ := (hH.2.2 a _ he).1
  have hr : rr = (C, T, N) := Option.some.inj (h1.symm.trans O.1)
  subst hr
  obtain ⟨hSl, hfc, kC, hkC, hkind⟩ := hK.1 ci _ O.1
  obtain ⟨cf, kf, fi, f, hi, hsl⟩ := hSl k hk
  have hlay := hts _ (O.2.1 _ (u_in_lay hk))
  unfold u_lay at hlay
  rw [if_neg (by rw [hfin]; decide)] at hlay
  have hst := (u_facts hfc hkC (u_lays hts O.2.1 hk) hi).1
  have h6 := u_store hfc hkC hkind hlay hi (O.2.2.1 k hk) hn hfit
  refine W.putK cx.1 cx.2.1 (f := f) ⟨cx.2.2.2.2.2.1, hts _ hl, ⟨_, _, _, hi⟩, hst⟩ (by rw [q2]; exact h6) q1 q3 (by rw [hsl]; exact k2_hasslot (q4 k hk)) rfl rfl hd fun H' e1 e2 e3 => ?_
  rw [hsl] at e1 ⊢
  exact h.2.2 l κ p e R s m args below meth c c0 s0 H' _ ls cx hdd hll hcc hss hc0 hs0 (hH.set he ⟨_, O.1, t_OB.to (V := updV (vp_V fs) k v) ⟨_, e1, q2, q3, t_set q4 hap hk v⟩ (fun j _ => vp_updV_set hlen v j)⟩ e2 e3) (hS.put e2 e3 (hH.2.2 a _ he).2) hlo
theorem ab_R.putF {a ci idx k N : Nat} {fs : List Value} {C : String} {T : u_T} {ty : Nat → FieldType} {v : Value} (O : ab_ok ci C T N ty) (hd : decode X.2.1 pc = .ok (.putfield idx, 3)) (hk : k < N) (hl : Cond.fieldLink X.1.cls idx (T k).1 (T k).2.1 (T k).2.2.1 ∈ ab_tb) (hfin : (T k).2.2.2 = true) (hin2 : X.1.name = "<init>") (hdecl : (T k).1 = X.1.cls) (hn : narrow (ty k) v = v) (hfit : fits (ty k) v = true) (hlen : k < fs.length) (he : g.1 a = some (.inr (ci, fs)))
    (h : ab_R X d (pc + 3) lo st (ab_up g.1 a (.inr (ci, fs.set k v)), g.2) r g') : ab_R X d pc lo (v :: .ref a :: st) g r g' := by
  refine ⟨h.1, h.2.1, ?_⟩
  intro l κ p e R s m args below meth c c0 s0 H locs ls cx hdd hll hcc hss hc0 hs0 hH hS hlo
  have hts := cx.2.2.2.2.2.2.2.1
  have hK := cx.2.2.2.2.2.2.2.2.1
  have hown := cx.2.2.2.2.2.1
  have hap := va_apart (own := X.1.cls) hts O.2.1 ty O.2.2.1 O.2.2.2 hK O.1
  obtain ⟨rr, h1, cell, q1, q2, q3, q4⟩ := (hH.2.2 a _ he).1
  have hr : rr = (C, T, N) := Option.some.inj (h1.symm.trans O.1)
  subst hr
  obtain ⟨hSl, hfc, kC, hkC, hkind⟩ := hK.1 ci _ O.1
  obtain ⟨cf, kf, fi, f, hi, hsl⟩ := hSl k hk
  have hlay := hts _ (O.2.1 _ (u_in_lay hk))
  unfold u_lay at hlay
  rw [if_pos hfin] at hlay
  have hst := (u_facts hfc hkC (u_lays hts O.2.1 hk) hi).1
  have hcf : m.cls = cf := by
    obtain ⟨_, _, c', _, _, _, -, -, hf', -, -, -, hown2, -⟩ := Cond.laysFinal_spec hlay
    have e1 : c' = cf := by have := hi.symm.trans hf'; simp at this; exact this.1.symm
    rw [hdecl] at hown2
    rw [← e1]; exact Option.some.inj (hown.symm.trans hown2)
  have h6 := u_fits hfc hkC hkind (Or.inr hlay) hi (O.2.2.1 k hk) hn hfit
  refine W.putFinK cx.1 cx.2.1 hown (hts _ hl) hi hst hcf (cx.2.2.2.2.2.2.1.trans hin2) (by rw [q2]; exact h6) q1 q3 (by rw [hsl]; exact k2_hasslot (q4 k hk)) rfl rfl hd fun H' e1 e2 e3 => ?_
  rw [hsl] at e1 ⊢
  exact h.2.2 l κ p e R s m args below meth c c0 s0 H' _ ls cx hdd hll hcc hss hc0 hs0 (hH.set he ⟨_, O.1, t_OB.to (V := updV (vp_V fs) k v) ⟨_, e1, q2, q3, t_set q4 hap hk v⟩ (fun j _ => vp_updV_set hlen v j)⟩ e2 e3) (hS.put e2 e3 (hH.2.2 a _ he).2) hlo
theorem ab_R.iald {a n : Nat} {f : Nat → Int32} {i : Int32} (hd : decode X.2.1 pc = .ok (.iaload, 1)) (he : g.1 a = some (.inl (0, n, .inl f))) (hin : vp_in i n) (h : ab_R X d (pc + 1) lo (.int (f i.toNatClampNeg) :: st) g r g') : ab_R X d pc lo (.int i :: .ref a :: st) g r g' := by
  refine ⟨h.1, h.2.1, ?_⟩
  intro l κ p e R s m args below meth c c0 s0 H locs ls cx hdd hll hcc hss hc0 hs0 hH hS hlo
  exact va_iald (D := κ.1) (cl := vwCl) (tys := ab_tys κ.2.1) (ws := [(a, .inl (κ.2.1 0, n, .inl f))]) cx.1 cx.2.1 cx.2.2.2.2.2.2.2.2.1 (hH.P he) 0 0 rfl rfl hin hd (h.2.2 l κ p e R s m args below meth c c0 s0 H locs ls cx hdd hll hcc hss hc0 hs0 hH hS hlo)
theorem ab_R.lald {a n : Nat} {f : Nat → Int64} {i : Int32} (hd : decode X.2.1 pc = .ok (.laload, 1)) (he : g.1 a = some (.inl (1, n, .inr (.inl f)))) (hin : vp_in i n) (h : ab_R X d (pc + 1) lo (.long (f i.toNatClampNeg) :: st) g r g') : ab_R X d pc lo (.int i :: .ref a :: st) g r g' := by
  refine ⟨h.1, h.2.1, ?_⟩
  intro l κ p e R s m args below meth c c0 s0 H locs ls cx hdd hll hcc hss hc0 hs0 hH hS hlo
  exact va_lald (D := κ.1) (cl := vwCl) (tys := ab_tys κ.2.1) (ws := [(a, .inl (κ.2.1 1, n, .inr (.inl f)))]) cx.1 cx.2.1 cx.2.2.2.2.2.2.2.2.1 (hH.P he) 0 1 rfl rfl hin hd (h.2.2 l κ p e R s m args below meth c c0 s0 H locs ls cx hdd hll hcc hss hc0 hs0 hH hS hlo)
theorem ab_R.zald {a n : Nat} {f : Nat → Int32} {i : Int32} (hd : decode X.2.1 pc = .ok (.baload, 1)) (he : g.1 a = some (.inl (2, n, .inl f))) (hin : vp_in i n) (h : ab_R X d (pc + 1) lo (.int (f i.toNatClampNeg) :: st) g r g') : ab_R X d pc lo (.int i :: .ref a :: st) g r g' := by
  refine ⟨h.1, h.2.1, ?_⟩
  intro l κ p e R s m args below meth c c0 s0 H locs ls cx hdd hll hcc hss hc0 hs0 hH hS hlo
  exact va_zald (D := κ.1) (cl := vwCl) (tys := ab_tys κ.2.1) (ws := [(a, .inl (κ.2.1 2, n, .inl f))]) cx.1 cx.2.1 cx.2.2.2.2.2.2.2.2.1 (hH.P he) 0 2 rfl rfl hin hd (h.2.2 l κ p e R s m args below meth c c0 s0 H locs ls cx hdd hll hcc hss hc0 hs0 hH hS hlo)
theorem ab_R.aald3 {a n : Nat} {f : Nat → Option Nat} {i : Int32} (hd : decode X.2.1 pc = .ok (.aaload, 1)) (he : g.1 a = some (.inl (3, n, .inr (.inr (.inr (.inr f)))))) (hin : vp_in i n) (h : ab_R X d (pc + 1) lo (va_rf (f i.toNatClampNeg) :: st) g r g') : ab_R X d pc lo (.int i :: .ref a :: st) g r g' := by
  refine ⟨h.1, h.2.1, ?_⟩
  intro l κ p e R s m args below meth c c0 s0 H locs ls cx hdd hll hcc hss hc0 hs0 hH hS hlo
  exact va_aldq (D := κ.1) (cl := vwCl) (tys := ab_tys κ.2.1) (ws := [(a, .inl (κ.2.1 3, n, .inr (.inr (.inr (.inr f)))))]) cx.1 cx.2.1 cx.2.2.2.2.2.2.2.2.1 (hH.P he) 0 3 rfl rfl hin hd (h.2.2 l κ p e R s m args below meth c c0 s0 H locs ls cx hdd hll hcc hss hc0 hs0 hH hS hlo)
theorem ab_R.aald4 {a n : Nat} {f : Nat → Option Nat} {i : Int32} (hd : decode X.2.1 pc = .ok (.aaload, 1)) (he : g.1 a = some (.inl (4, n, .inr (.inr (.inr (.inr f)))))) (hin : vp_in i n) (h : ab_R X d (pc + 1) lo (va_rf (f i.toNatClampNeg) :: st) g r g') : ab_R X d pc lo (.int i :: .ref a :: st) g r g' := by
  refine ⟨h.1, h.2.1, ?_⟩
  intro l κ p e R s m args below meth c c0 s0 H locs ls cx hdd hll hcc hss hc0 hs0 hH hS hlo
  exact va_aldq (D := κ.1) (cl := vwCl) (tys := ab_tys κ.2.1) (ws := [(a, .inl (κ.2.1 4, n, .inr (.inr (.inr (.inr f)))))]) cx.1 cx.2.1 cx.2.2.2.2.2.2.2.2.1 (hH.P he) 0 4 rfl rfl hin hd (h.2.2 l κ p e R s m args below meth c c0 s0 H locs ls cx hdd hll hcc hss hc0 hs0 hH hS hlo)
theorem ab_R.iast {a n : Nat} {f : Nat → Int32} {i : Int32} {x : Int32} (hd : decode X.2.1 pc = .ok (.iastore, 1)) (he : g.1 a = some (.inl (0, n, .inl f))) (hin : vp_in i n) (h : ab_R X d (pc + 1) lo st (ab_up g.1 a (.inl (0, n, .inl (upd f i.toNatClampNeg x))), g.2) r g') : ab_R X d pc lo (.int x :: .int i :: .ref a :: st) g r g' := by
  refine ⟨h.1, h.2.1, ?_⟩
  intro l κ p e R s m args below meth c c0 s0 H locs ls cx hdd hll hcc hss hc0 hs0 hH hS hlo
  have hP : H[a]? = some (vp_cell (κ.2.1 0) (n, .inl f)) := (hH.2.2 a _ he).1
  have hA := (cx.2.2.2.2.2.2.2.2.1.2 0 _ (rfl : (ab_tys κ.2.1)[0]? = _)).1 n (fun j => .int (f j))
  refine W.iast cx.1 cx.2.1 hP hA (fun q => by cases q) (by show ¬ (i < 0 ∨ (arrV _ _ _).slots.size ≤ _); rw [arrV_size]; exact hin) rfl rfl hd fun H1 e1 z oq => ?_
  refine h.2.2 l κ p e R s m args below meth c c0 s0 H1 _ ls cx hdd hll hcc hss hc0 hs0 (hH.set he ?_ z oq) (hS.put z oq (hH.2.2 a _ he).2) hlo
  show H1[a]? = some (vp_cell _ _)
  rw [e1, vp_cell_i, vp_cell_i, arrV_store]
  congr 2
  funext q
  by_cases hq : q = i.toNatClampNeg
  · subst hq
    simp [updV, upd]
    try rfl
  · simp [updV, upd, hq]
theorem ab_R.last {a n : Nat} {f : Nat → Int64} {i : Int32} {x : Int64} (hd : decode X.2.1 pc = .ok (.lastore, 1)) (he : g.1 a = some (.inl (1, n, .inr (.inl f)))) (hin : vp_in i n) (h : ab_R X d (pc + 1) lo st (ab_up g.1 a (.inl (1, n, .inr (.inl (vp_updL f i.toNatClampNeg x)))), g.2) r g') : ab_R X d pc lo (.long x :: .int i :: .ref a :: st) g r g' := by
  refine ⟨h.1, h.2.1, ?_⟩
  intro l κ p e R s m args below meth c c0 s0 H locs ls cx hdd hll hcc hss hc0 hs0 hH hS hlo
  have hP : H[a]? = some (vp_cell (κ.2.1 1) (n, .inr (.inl f))) := (hH.2.2 a _ he).1
  have hA := (cx.2.2.2.2.2.2.2.2.1.2 1 _ (rfl : (ab_tys κ.2.1)[1]? = _)).1 n (fun j => .long (f j))
  refine W.last cx.1 cx.2.1 hP hA (fun q => by cases q) (by show ¬ (i < 0 ∨ (arrV _ _ _).slots.size ≤ _); rw [arrV_size]; exact hin) rfl rfl hd fun H1 e1 z oq => ?_
  refine h.2.2 l κ p e R s m args below meth c c0 s0 H1 _ ls cx hdd hll hcc hss hc0 hs0 (hH.set he ?_ z oq) (hS.put z oq (hH.2.2 a _ he).2) hlo
  show H1[a]? = some (vp_cell _ _)
  rw [e1, vp_cell_l, vp_cell_l, arrV_store]
  congr 2
  funext q
  by_cases hq : q = i.toNatClampNeg
  · subst hq
    simp [updV, vp_updL]
    try rfl
  · simp [updV, vp_updL, hq]
theorem ab_R.zast {a n : Nat} {f : Nat → Int32} {i : Int32} {x : Int32} (hd : decode X.2.1 pc = .ok (.bastore, 1)) (he : g.1 a = some (.inl (2, n, .inl f))) (hin : vp_in i n) (h : ab_R X d (pc + 1) lo st (ab_up g.1 a (.inl (2, n, .inl (upd f i.toNatClampNeg (vp_nar .boolean x)))), g.2) r g') : ab_R X d pc lo (.int x :: .int i :: .ref a :: st) g r g' := by
  refine ⟨h.1, h.2.1, ?_⟩
  intro l κ p e R s m args below meth c c0 s0 H locs ls cx hdd hll hcc hss hc0 hs0 hH hS hlo
  have hP : H[a]? = some (vp_cell (κ.2.1 2) (n, .inl f)) := (hH.2.2 a _ he).1
  have hA := (cx.2.2.2.2.2.2.2.2.1.2 2 _ (rfl : (ab_tys κ.2.1)[2]? = _)).1 n (fun j => .int (f j))
  refine W.zast cx.1 cx.2.1 hP hA (fun q => by cases q) (by show ¬ (i < 0 ∨ (arrV _ _ _).slots.size ≤ _); rw [arrV_size]; exact hin) rfl rfl hd fun H1 e1 z oq => ?_
  refine h.2.2 l κ p e R s m args below meth c c0 s0 H1 _ ls cx hdd hll hcc hss hc0 hs0 (hH.set he ?_ z oq) (hS.put z oq (hH.2.2 a _ he).2) hlo
  show H1[a]? = some (vp_cell _ _)
  rw [e1, vp_cell_i, vp_cell_i, arrV_store]
  congr 2
  funext q
  by_cases hq : q = i.toNatClampNeg
  · subst hq
    simp [updV, upd, vp_nar]
    try rfl
  · simp [updV, upd, vp_nar, hq]
theorem ab_R.aast3 {a n v : Nat} {f : Nat → Option Nat} {vs : List Value} {i : Int32} (hd : decode X.2.1 pc = .ok (.aastore, 1)) (he : g.1 a = some (.inl (3, n, .inr (.inr (.inr (.inr f)))))) (hv : g.1 v = some (.inr (0, vs))) (hin : vp_in i n) (h : ab_R X d (pc + 1) lo st (ab_up g.1 a (.inl (3, n, .inr (.inr (.inr (.inr (va_up f i.toNatClampNeg (some v))))))), g.2) r g') : ab_R X d pc lo (.ref v :: .int i :: .ref a :: st) g r g' := by
  refine ⟨h.1, h.2.1, ?_⟩
  intro l κ p e R s m args below meth c c0 s0 H locs ls cx hdd hll hcc hss hc0 hs0 hH hS hlo
  have hlt : i.toNatClampNeg < n := Nat.not_le.mp fun q => hin (Or.inr q)
  have h0 : ¬ i < 0 := fun q => hin (Or.inl q)
  have hP : H[a]? = some (vp_cell (κ.2.1 3) (n, .inr (.inr (.inr (.inr f))))) := (hH.2.2 a _ he).1
  obtain ⟨r', hr', cellV, g1, g2, g3, -⟩ := (hH.2.2 v _ hv).1
  have hcls := (cx.2.2.2.2.2.2.2.2.1.1 0 _ (rfl : vwCl[0]? = _)).2
  obtain ⟨kA, comp, k1, k2, k3, -⟩ := (cx.2.2.2.2.2.2.2.2.1.2 3 _ (rfl : (ab_tys κ.2.1)[3]? = _)).2
  have hcomp : comp = κ.1.1 0 := Option.some.inj (k3.symm.trans hcls.1)
  subst hcomp
  obtain ⟨kC, hkC, -⟩ := hcls.2
  refine W.aast cx.1 cx.2.1 hP (fun q h => by cases h) (fun h => by cases h) k1 k2 rfl hkC ⟨h0, by show _ < (arrV _ _ _).slots.size; rw [arrV_size]; exact hlt⟩ g1 (fun q h => by rw [g3] at h; cases h) (by rw [g2]; exact hkC) (by rw [g2]; exact va_assign hcls) rfl rfl hd fun H1 e1 z oq => ?_
  refine h.2.2 l κ p e R s m args below meth c c0 s0 H1 _ ls cx hdd hll hcc hss hc0 hs0 (hH.set he ?_ z oq) (hS.put z oq (hH.2.2 a _ he).2) hlo
  show H1[a]? = some (vp_cell _ _)
  rw [e1, vp_cell_q, vp_cell_q, arrV_store]
  congr 2
  funext q
  by_cases hq : q = i.toNatClampNeg
  · subst hq
    simp [updV, va_up, va_rf]
  · simp [updV, va_up, hq]
theorem ab_R.aast4 {a n v : Nat} {f : Nat → Option Nat} {vs : List Value} {i : Int32} (hd : decode X.2.1 pc = .ok (.aastore, 1)) (he : g.1 a = some (.inl (4, n, .inr (.inr (.inr (.inr f)))))) (hv : g.1 v = some (.inr (1, vs))) (hin : vp_in i n) (h : ab_R X d (pc + 1) lo st (ab_up g.1 a (.inl (4, n, .inr (.inr (.inr (.inr (va_up f i.toNatClampNeg (some v))))))), g.2) r g') : ab_R X d pc lo (.ref v :: .int i :: .ref a :: st) g r g' := by
  refine ⟨h.1, h.2.1, ?_⟩
  intro l κ p e R s m args below meth c c0 s0 H locs ls cx hdd hll hcc hss hc0 hs0 hH hS hlo
  have hlt : i.toNatClampNeg < n := Nat.not_le.mp fun q => hin (Or.inr q)
  have h0 : ¬ i < 0 := fun q => hin (Or.inl q)
  have hP : H[a]? = some (vp_cell (κ.2.1 4) (n, .inr (.inr (.inr (.inr f))))) := (hH.2.2 a _ he).1
  obtain ⟨r', hr', cellV, g1, g2, g3, -⟩ := (hH.2.2 v _ hv).1
  have hcls := (cx.2.2.2.2.2.2.2.2.1.1 1 _ (rfl : vwCl[1]? = _)).2
  obtain ⟨kA, comp, k1, k2, k3, -⟩ := (cx.2.2.2.2.2.2.2.2.1.2 4 _ (rfl : (ab_tys κ.2.1)[4]? = _)).2
  have hcomp : comp = κ.1.1 1 := Option.some.inj (k3.symm.trans hcls.1)
  subst hcomp
  obtain ⟨kC, hkC, -⟩ := hcls.2
  refine W.aast cx.1 cx.2.1 hP (fun q h => by cases h) (fun h => by cases h) k1 k2 rfl hkC ⟨h0, by show _ < (arrV _ _ _).slots.size; rw [arrV_size]; exact hlt⟩ g1 (fun q h => by rw [g3] at h; cases h) (by rw [g2]; exact hkC) (by rw [g2]; exact va_assign hcls) rfl rfl hd fun H1 e1 z oq => ?_
  refine h.2.2 l κ p e R s m args below meth c c0 s0 H1 _ ls cx hdd hll hcc hss hc0 hs0 (hH.set he ?_ z oq) (hS.put z oq (hH.2.2 a _ he).2) hlo
  show H1[a]? = some (vp_cell _ _)
  rw [e1, vp_cell_q, vp_cell_q, arrV_store]
  congr 2
  funext q
  by_cases hq : q = i.toNatClampNeg
  · subst hq
    simp [updV, va_up, va_rf]
  · simp [updV, va_up, hq]
theorem ab_R.alen {a : Nat} {t0 : Nat} {ty : FieldType} {x : vp_A} (hd : decode X.2.1 pc = .ok (.arraylength, 1)) (ht : ∀ dA, (ab_tys dA)[t0]? = some (dA t0, ty)) (he : g.1 a = some (.inl (t0, x))) (h : ab_R X d (pc + 1) lo (.int (Int32.ofNat x.1) :: st) g r g') : ab_R X d pc lo (.ref a :: st) g r g' := by
  refine ⟨h.1, h.2.1, ?_⟩
  intro l κ p e R s m args below meth c c0 s0 H locs ls cx hdd hll hcc hss hc0 hs0 hH hS hlo
  exact va_alen (D := κ.1) (cl := vwCl) (tys := ab_tys κ.2.1) (ws := [(a, .inl (κ.2.1 t0, x))]) cx.1 cx.2.1 cx.2.2.2.2.2.2.2.2.1 (hH.P he) 0 t0 rfl (ht κ.2.1) rfl hd (h.2.2 l κ p e R s m args below meth c c0 s0 H locs ls cx hdd hll hcc hss hc0 hs0 hH hS hlo)
theorem ab_R.new {ci idx N : Nat} {fs : List Value} {C : String} {T : u_T} {ty : Nat → FieldType} (O : ab_ok ci C T N ty) (hd : decode X.2.1 pc = .ok (.new idx, 3)) (hcl : Cond.classLink X.1.cls idx C ∈ ab_tb) (hin : Cond.instantiable C N ∈ ab_tb) (hini : Cond.initialized C ∈ ab_tb) (hfs : ∀ j, j < N → defaultValue (ty j) = vp_V fs j)
    (h : ab_R X d (pc + 3) lo (.ref g.2.1 :: st) (ab_up g.1 g.2.1 (.inr (ci, fs)), g.2.1 + 1, g.2.2.1 + 1, g.2.2.2.1 + N, g.2.2.2.2) r g') : ab_R X d pc lo st g r g' := by
  have h1 : g.2.2.1 + 1 ≤ g'.2.2.1 := h.1
  have h2 : g.2.2.2.1 + N ≤ g'.2.2.2.1 := h.2.1
  refine ⟨by omega, by omega, ?_⟩
  intro l κ p e R s m args below meth c c0 s0 H locs ls cx hdd hll hcc hss hc0 hs0 hH hS hlo
  have hts := cx.2.2.2.2.2.2.2.1
  have hKn := cx.2.2.2.2.2.2.2.2.1.1 ci _ O.1
  refine W.newcK cx.1 cx.2.1 cx.2.2.2.2.2.1 (hts _ hcl) (hts _ hin) (hts _ hini) rfl hd (by omega) (by omega) hKn.2.1 hH.1 fun H1 kC hkC e1 z1 o1 => ?_
  refine W.cs (cells' := g.2.2.1 + 1 - c0) (slots' := g.2.2.2.1 + N - s0) (by omega) (by omega) ?_
  have hz : H1.size = H.size + 1 := by rw [z1, hH.1]
  exact h.2.2 l κ p e R s m args below meth c c0 s0 H1 locs ls cx hdd hll hcc hss (by show c0 ≤ g.2.2.1 + 1; omega) (by show s0 ≤ g.2.2.2.1 + N; omega) (hH.push (cx.2.2.2.2.2.2.2.2.2.1 _ (by rw [← hH.1]; exact hS.1)) ⟨_, O.1, (u_born ty hts O.2.1 hKn hkC e1 O.2.2.1).to hfs⟩ hz (fun q hq => o1 q (by rw [← hH.1]; exact hq))) ⟨Nat.le_trans hS.1 (by omega), fun x h1 h2 => (o1 x (by rw [← hH.1]; exact Nat.lt_of_lt_of_le h1 hS.1)).trans (hS.2.1 x h1 h2), hS.2.2⟩ hlo
theorem ab_R.newa {at0 : ArrayType} {t0 N : Nat} {ty : FieldType} {n : Int32} {a0 : vp_A} (hty : newarray.typeOf at0 = ty) (hd : decode X.2.1 pc = .ok (.newarray at0, 2)) (hw : Cond.arrayClass ty ∈ ab_tb) (ht : ∀ dA, (ab_tys dA)[t0]? = some (dA t0, ty)) (hra : ∀ (U : State) (cA : ClassId), va_RA U cA ty → U.vm.findClass ("[" ++ ty.toString) = some cA) (ha : ∀ cA : ClassId, vp_cell cA a0 = arrV cA N (fun _ => defaultValue ty)) (hn : ¬ n < 0) (hN : n.toNatClampNeg = N) (hb : N * componentBytes ty ≤ 536870912)
    (h : ab_R X d (pc + 2) lo (.ref g.2.1 :: st) (ab_up g.1 g.2.1 (.inl (t0, a0)), g.2.1 + 1, g.2.2.1 + 1, g.2.2.2.1 + N, g.2.2.2.2) r g') : ab_R X d pc lo (.int n :: st) g r g' := by
  have h1 : g.2.2.1 + 1 ≤ g'.2.2.1 := h.1
  have h2 : g.2.2.2.1 + N ≤ g'.2.2.2.1 := h.2.1
  refine ⟨by omega, by omega, ?_⟩
  intro l κ p e R s m args below meth c c0 s0 H locs ls cx hdd hll hcc hss hc0 hs0 hH hS hlo
  have hts := cx.2.2.2.2.2.2.2.1
  subst hty
  refine va_newaK cx.1 cx.2.1 (hts _ hw) rfl hd rfl hn hN hb (by omega) (by omega) hH.1 fun H1 cA e1 z1 o1 hAr hNm => ?_
  have hc : cA = κ.2.1 t0 := Option.some.inj (hNm.symm.trans (hra _ _ (cx.2.2.2.2.2.2.2.2.1.2 t0 _ (ht κ.2.1)).2))
  subst hc
  refine W.cs (cells' := g.2.2.1 + 1 - c0) (slots' := g.2.2.2.1 + N - s0) (by omega) (by omega) ?_
  have hz : H1.size = H.size + 1 := by rw [z1, hH.1]
  refine h.2.2 l κ p e R s m args below meth c c0 s0 H1 locs ls cx hdd hll hcc hss (by show c0 ≤ g.2.2.1 + 1; omega) (by show s0 ≤ g.2.2.2.1 + N; omega) (hH.push (cx.2.2.2.2.2.2.2.2.2.1 _ (by rw [← hH.1]; exact hS.1)) ?_ hz (fun q hq => o1 q (by rw [← hH.1]; exact hq))) ⟨Nat.le_trans hS.1 (by omega), fun x h1 h2 => (o1 x (by rw [← hH.1]; exact Nat.lt_of_lt_of_le h1 hS.1)).trans (hS.2.1 x h1 h2), hS.2.2⟩ hlo
  show H1[g.2.1]? = some (vp_cell _ _)
  rw [ha]
  exact e1
theorem ab_R.anew {idx t0 N : Nat} {C : String} {n : Int32} (hd : decode X.2.1 pc = .ok (.anewarray idx, 3)) (hcl : Cond.classLink X.1.cls idx C ∈ ab_tb) (hover : ∀ (l : Launch) (κ : ab_P) (s : State), ab_K l κ s → va_AO C s) (ht : ∀ dA, (ab_tys dA)[t0]? = some (dA t0, .object C)) (hn : ¬ n < 0) (hN : n.toNatClampNeg = N) (hb : N * 4 ≤ 536870912)
    (h : ab_R X d (pc + 3) lo (.ref g.2.1 :: st) (ab_up g.1 g.2.1 (.inl (t0, N, .inr (.inr (.inr (.inr (fun _ => none)))))), g.2.1 + 1, g.2.2.1 + 1, g.2.2.2.1 + N, g.2.2.2.2) r g') : ab_R X d pc lo (.int n :: st) g r g' := by
  have h1 : g.2.2.1 + 1 ≤ g'.2.2.1 := h.1
  have h2 : g.2.2.2.1 + N ≤ g'.2.2.2.1 := h.2.1
  refine ⟨by omega, by omega, ?_⟩
  intro l κ p e R s m args below meth c c0 s0 H locs ls cx hdd hll hcc hss hc0 hs0 hH hS hlo
  have hts := cx.2.2.2.2.2.2.2.1
  subst hN
  refine W.anew cx.1 cx.2.1 cx.2.2.2.2.2.1 (hts _ hcl) (va_AO.use (hover l κ s cx.2.2.2.2.2.2.2.2)) rfl hd rfl hn hb (by omega) (by omega) fun cA kA comp f1 f2 f3 f4 => ?_
  generalize hH1 : H.push ({ cls := cA, slots := Array.replicate n.toNatClampNeg .null, vm := .none } : Cell) = H1
  have z1 : H1.size = H.size + 1 := by rw [← hH1, Array.size_push]
  have e1 : H1[H.size]? = some (arrV cA n.toNatClampNeg (fun _ => .null)) := by rw [← hH1, Array.getElem?_push_size, ← arrV_new]
  have o1 : ∀ q : Nat, q < H.size → H1[q]? = H[q]? := fun q hq => by rw [← hH1, Array.getElem?_push, if_neg (Nat.ne_of_lt hq)]
  obtain ⟨kB, cB, b1, b2, b3, b4⟩ := (cx.2.2.2.2.2.2.2.2.1.2 t0 _ (ht κ.2.1)).2
  have hc : cA = κ.2.1 t0 := Option.some.inj (f1.symm.trans b4)
  subst hc
  refine W.cs (cells' := g.2.2.1 + 1 - c0) (slots' := g.2.2.2.1 + n.toNatClampNeg - s0) (by omega) (by omega) ?_
  have hgs := hH.1
  rw [hgs]
  rw [hgs] at e1
  refine h.2.2 l κ p e R s m args below meth c c0 s0 H1 locs ls cx hdd hll hcc hss (by show c0 ≤ g.2.2.1 + 1; omega) (by show s0 ≤ g.2.2.2.1 + n.toNatClampNeg; omega) (hH.push (cx.2.2.2.2.2.2.2.2.2.1 _ (by rw [← hH.1]; exact hS.1)) ?_ z1 o1) ⟨Nat.le_trans hS.1 (by omega), fun x h1 h2 => (o1 x (Nat.lt_of_lt_of_le h1 hS.1)).trans (hS.2.1 x h1 h2), hS.2.2⟩ hlo
  show H1[g.2.1]? = some (vp_cell _ _)
  rw [vp_cell_q]
  exact e1
end ABH
