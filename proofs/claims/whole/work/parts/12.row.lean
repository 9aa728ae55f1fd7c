/-! Row, and the JDK's copyOf: over the cells themselves -/
def ab_I (a b : ab_S) : Prop := a = b
theorem ab_nn (z : Int32) (hz : ¬ z < 0) : z.toInt = (z.toNatClampNeg : Int) := by
  have hz0 : (0 : Int) ≤ z.toInt := by
    have := Int32.not_lt.mp hz
    simpa using Int32.le_iff_toInt_le.mp this
  show z.toInt = ((z.toInt.toNat : Nat) : Int)
  omega
section ABW
variable {X : ab_M} {d pc idx a ci k N n : Nat} {lo : List (Nat × Value)} {st : List Value} {g : ab_S} {Q : Option Value → ab_S → Prop} {fs : List Value} {C : String} {T : u_T} {ty : Nat → FieldType} {v : Value} {f : Nat → Int32} {i x : Int32}
theorem m_get (O : ab_ok ci C T N ty) (hd : decode X.2.1 pc = .ok (.getfield idx, 3)) (hk : k < N) (hl : Cond.fieldLink X.1.cls idx (T k).1 (T k).2.1 (T k).2.2.1 ∈ ab_tb) (he : g.1 a = some (.inr (ci, fs))) (hv : fs[k]? = some v) (K : ab_E ab_I X d (pc + 3) lo (v :: st) g Q) : ab_E ab_I X d pc lo (.ref a :: st) g Q :=
  ab_E.hp (fun g1 hg => ⟨g1, hg, fun r g' h => by cases hg; exact ab_R.get O hd hk hl he hv h⟩) K
theorem m_put (O : ab_ok ci C T N ty) (hd : decode X.2.1 pc = .ok (.putfield idx, 3)) (hk : k < N) (hl : Cond.fieldLink X.1.cls idx (T k).1 (T k).2.1 (T k).2.2.1 ∈ ab_tb) (hfin : (T k).2.2.2 = false) (hn : narrow (ty k) v = v) (hfit : fits (ty k) v = true) (hlen : k < fs.length) (he : g.1 a = some (.inr (ci, fs))) (K : ab_E ab_I X d (pc + 3) lo st (ab_up g.1 a (.inr (ci, fs.set k v)), g.2) Q) : ab_E ab_I X d pc lo (v :: .ref a :: st) g Q :=
  ab_E.hp (fun g1 hg => ⟨_, rfl, fun r g' h => by cases hg; exact ab_R.put O hd hk hl hfin hn hfit hlen he h⟩) K
theorem m_putF (O : ab_ok ci C T N ty) (hd : decode X.2.1 pc = .ok (.putfield idx, 3)) (hk : k < N) (hl : Cond.fieldLink X.1.cls idx (T k).1 (T k).2.1 (T k).2.2.1 ∈ ab_tb) (hfin : (T k).2.2.2 = true) (hin2 : X.1.name = "<init>") (hdecl : (T k).1 = X.1.cls) (hn : narrow (ty k) v = v) (hfit : fits (ty k) v = true) (hlen : k < fs.length) (he : g.1 a = some (.inr (ci, fs))) (K : ab_E ab_I X d (pc + 3) lo st (ab_up g.1 a (.inr (ci, fs.set k v)), g.2) Q) : ab_E ab_I X d pc lo (v :: .ref a :: st) g Q :=
  ab_E.hp (fun g1 hg => ⟨_, rfl, fun r g' h => by cases hg; exact ab_R.putF O hd hk hl hfin hin2 hdecl hn hfit hlen he h⟩) K
theorem m_iald (hd : decode X.2.1 pc = .ok (.iaload, 1)) (he : g.1 a = some (.inl (0, n, .inl f))) (hin : vp_in i n) (K : ab_E ab_I X d (pc + 1) lo (.int (f i.toNatClampNeg) :: st) g Q) : ab_E ab_I X d pc lo (.int i :: .ref a :: st) g Q :=
  ab_E.hp (fun g1 hg => ⟨g1, hg, fun r g' h => by cases hg; exact ab_R.iald hd he hin h⟩) K
theorem m_iast (hd : decode X.2.1 pc = .ok (.iastore, 1)) (he : g.1 a = some (.inl (0, n, .inl f))) (hin : vp_in i n) (K : ab_E ab_I X d (pc + 1) lo st (ab_up g.1 a (.inl (0, n, .inl (upd f i.toNatClampNeg x))), g.2) Q) : ab_E ab_I X d pc lo (.int x :: .int i :: .ref a :: st) g Q :=
  ab_E.hp (fun g1 hg => ⟨_, rfl, fun r g' h => by cases hg; exact ab_R.iast hd he hin h⟩) K
theorem m_alen (hd : decode X.2.1 pc = .ok (.arraylength, 1)) (he : g.1 a = some (.inl (0, n, .inl f))) (K : ab_E ab_I X d (pc + 1) lo (.int (nI n) :: st) g Q) : ab_E ab_I X d pc lo (.ref a :: st) g Q :=
  ab_E.hp (fun g1 hg => ⟨g1, hg, fun r g' h => by cases hg; exact ab_R.alen (t0 := 0) (ty := .int) hd (fun _ => rfl) he h⟩) K
theorem m_newI (hd : decode X.2.1 pc = .ok (.newarray .int, 2)) (hn : ¬ i < 0) (hN : i.toNatClampNeg = n) (hb : n * 4 ≤ 536870912) (K : ab_E ab_I X d (pc + 2) lo (.ref g.2.1 :: st) (ab_up g.1 g.2.1 (.inl (0, n, .inl (fun _ => 0))), g.2.1 + 1, g.2.2.1 + 1, g.2.2.2.1 + n, g.2.2.2.2) Q) : ab_E ab_I X d pc lo (.int i :: st) g Q :=
  ab_E.hp (fun g1 hg => ⟨_, rfl, fun r g' h => by cases hg; exact ab_R.newa (at0 := .int) (t0 := 0) (ty := .int) (a0 := (n, .inl (fun _ => 0))) rfl hd ac_int (fun _ => rfl) (fun _ _ q => q) (fun cA => by rw [vp_cell_i]; rfl) hn hN hb h⟩) K
theorem ab_R.copy {g' : ab_S} {r : Option Value} {a0 n0 n1 : Nat} {f0 f1 : Nat → Int32} (h0 : 1 ≤ d) (hw : Cond.methodLink X.1.cls idx arraycopyName ∈ ab_tb) (hnat : Cond.native arraycopyName ∈ ab_tb) (hstat : Cond.static arraycopyName ∈ ab_tb) (hini : Cond.initialized "java/lang/System" ∈ ab_tb) (hd : decode X.2.1 pc = .ok (.invokestatic idx, 3)) (hst : (st.map fun v => v.category).sum ≤ 8)
    (e0 : g.1 a0 = some (.inl (0, n0, .inl f0))) (e1 : g.1 a = some (.inl (0, n1, .inl f1))) {sp dp m0 : Int32} (h1 : ¬ sp < 0) (h2 : ¬ dp < 0) (h3 : ¬ m0 < 0) (h4 : sp.toNatClampNeg + m0.toNatClampNeg ≤ n0) (h5 : dp.toNatClampNeg + m0.toNatClampNeg ≤ n1)
    (h : ab_R X d (pc + 3) lo st (ab_up g.1 a (.inl (0, n1, .inl (va_cpy f0 f1 sp.toNatClampNeg dp.toNatClampNeg m0.toNatClampNeg))), g.2) r g') : ab_R X d pc lo (.int m0 :: .int dp :: .ref a :: .int sp :: .ref a0 :: st) g r g' := by
  refine ⟨h.1, h.2.1, ?_⟩
  intro l κ p e R s m args below meth c c0 s0 H locs ls cx hdd hll hcc hss hc0 hs0 hH hS hlo
  have hts := cx.2.2.2.2.2.2.2.1
  have hnf : nativeFrameWords "java/lang/System" "arraycopy" 5 + 11 ≤ 32 := by decide +kernel
  intro T hT Y
  have hc0 : H[a0]? = some (vp_cell (κ.2.1 0) (n0, .inl f0)) := (hH.2.2 a0 _ e0).1
  have hc1 : H[a]? = some (vp_cell (κ.2.1 0) (n1, .inl f1)) := (hH.2.2 a _ e1).1
  have hK := (cx.2.2.2.2.2.2.2.2.1.2 0 _ (rfl : (ab_tys κ.2.1)[0]? = _)).1
  obtain ⟨-, k0, hk0, cm0, hkk0⟩ := hK n0 (fun j => .int (f0 j))
  obtain ⟨-, k1, hk1, cm1, hkk1⟩ := hK n1 (fun j => .int (f1 j))
  obtain ⟨vm', Y', step⟩ := Y.arraycopy cx.1 cx.2.2.2.2.2.1 (hts _ hw) (hts _ hnat) (hts _ hstat) (hts _ hini) (src := a0) (dst := a) (cs := vp_cell (κ.2.1 0) (n0, .inl f0)) (cd := vp_cell (κ.2.1 0) (n1, .inl f1)) (srcPos := sp) (destPos := dp) (n := m0) (by rw [hT]; exact hc0) (by rw [hT]; exact hc1)
    (fun _ h => by cases h) (fun _ h => by cases h) (fun h => by cases h) (fun h => by cases h) hk0 hk1 hkk0 hkk1 (by simp [refKind]) h1 h2 h3
    (by rw [ab_nn sp h1, ab_nn m0 h3]; show ¬ _ > ((arrV (κ.2.1 0) n0 (fun j => .int (f0 j))).slots.size : Int); rw [arrV_size]; omega)
    (by rw [ab_nn dp h2, ab_nn m0 h3]; show ¬ _ > ((arrV (κ.2.1 0) n1 (fun j => .int (f1 j))).slots.size : Int); rw [arrV_size]; omega)
    (fun vm₁ _ i hi => by
      have e : (vp_cell (κ.2.1 0) (n0, .inl f0)).slots.getD (sp.toNatClampNeg + i) .null = .int (f0 (sp.toNatClampNeg + i)) := by
        show (arrV (κ.2.1 0) n0 (fun j => .int (f0 j))).slots.getD _ _ = _
        rw [Array.getD_eq_getD_getElem?, arrV_read _ _ (by omega)]
        rfl
      refine ⟨?_, ?_⟩
      · rw [e]
        rfl
      · rw [e]
        exact trivial)
    (g := F0 m pc ls (.int m0 :: .int dp :: .ref a :: .int sp :: .ref a0 :: st)) rfl (hlo.1.trans cx.2.2.1.symm) (rest := st) rfl (by rw [cx.2.1]; exact hd) (Nat.le_trans h0 hdd) (by show 2 * 0 + _ + _ ≤ _; omega)
  have e1' : copied (vp_cell (κ.2.1 0) (n0, .inl f0)) (vp_cell (κ.2.1 0) (n1, .inl f1)) sp dp m0 = vp_cell (κ.2.1 0) (n1, .inl (va_cpy f0 f1 sp.toNatClampNeg dp.toNatClampNeg m0.toNatClampNeg)) := va_copied (fun z => .int z) (κ.2.1 0) (κ.2.1 0) f0 f1 h4
  rw [e1'] at Y' step
  have hl : a < H.size := (Array.getElem?_eq_some_iff.mp hc1).1
  have hheap : ((T.setVm vm').setCell a (vp_cell (κ.2.1 0) (n1, .inl (va_cpy f0 f1 sp.toNatClampNeg dp.toNatClampNeg m0.toNatClampNeg)))).heap = H.setIfInBounds a (vp_cell (κ.2.1 0) (n1, .inl (va_cpy f0 f1 sp.toNatClampNeg dp.toNatClampNeg m0.toNatClampNeg))) := by rw [← hT]; rfl
  have oq : ∀ q : Nat, q ≠ a → (H.setIfInBounds a (vp_cell (κ.2.1 0) (n1, .inl (va_cpy f0 f1 sp.toNatClampNeg dp.toNatClampNeg m0.toNatClampNeg))))[q]? = H[q]? := fun q hq => by simp [Array.getElem?_setIfInBounds, Ne.symm hq]
  have hA := (hH.2.2 a _ e1).2
  obtain ⟨t, b0, b1⟩ := h.2.2 l κ p e R s m args below meth c c0 s0 _ _ ls cx hdd hll hcc hss ‹_› hs0 (hH.set e1 (show (H.setIfInBounds a _)[a]? = some _ by simp [Array.getElem?_setIfInBounds, hl]) (by simp) oq) ⟨by simp; exact hS.1, fun q g1 g2 => by
      rw [oq q (fun e => g2 (by rw [e]; exact hA))]
      exact hS.2.1 q g1 g2, fun q hq => by
      rcases List.mem_append.mp hq with h | h
      · exact hS.2.2 q h
      · obtain ⟨z, -, hz⟩ := List.mem_map.mp h
        rw [← hz]
        exact hA⟩ hlo _ hheap Y'
  exact ⟨t, step t b0, b1⟩
end ABW
