/-! letter: what OddRanks.letter throws, the law's letter catches -/
/-- counted as more -/
def uW (σ : sS) (c s : Nat) : sS := (σ.1, σ.2.1, σ.2.2.1, σ.2.2.2.1, σ.2.2.2.2.1, c, s)
/-- a cell more that nobody sees: what was thrown -/
def uT (σ : sS) : sS := uW σ ((vk σ).1 + 1) ((vk σ).2 + 6)
def q_let (σ : sS) (i : Int32) : Bool := !decide (vI σ 56 6 = 0) && (decide (0 ≤ i) && decide (i < vI σ 56 7 + vI σ 56 8))
/-- the law's letter: 1 where OddRanks.letter throws, else 0, and the letter lies in the row of longs -/
def L_letter (i : Int32) (σ : sS) : Option (Int32 × sS) := if q_let σ i = true then some (0, uL σ 80 0 (rg σ 61 i).toInt64) else some (1, uT σ)
def hh_let : List (Nat × Nat × Nat × Nat) := [(0, 9, 12, 13)]
abbrev mL_letter : ab_M := (yL_letter, cL_letter, 4, some .int)
def ab_wsW (Y : ab_M) (hh : List (Nat × Nat × Nat × Nat)) : List Cond := Cond.codeWith Y.1 Y.2.1 Y.2.2.1 Y.2.2.2 hh :: ab_tb
/-- a contract of a method with an exception table -/
def ab_XW (Rp : sS → ab_S → Prop) (d : Nat) (Y : ab_M) (hh : List (Nat × Nat × Nat × Nat)) (av : List Value) (σ : sS) (r0 : Option Value) (σ0 : sS) : Prop := ∀ g, Rp σ g → ∃ g', Rp σ0 g' ∧ g.2.2.1 ≤ g'.2.2.1 ∧ g.2.2.2.1 ≤ g'.2.2.2.1 ∧ ∀ (l : Launch) (κ : ab_P), Met l Y.1 (ab_wsW Y hh) (ab_rm d (g'.2.2.1 - g.2.2.1) (g'.2.2.2.1 - g.2.2.2.1)) (ab_Pc l κ g av) (ab_Q κ r0 g') (g'.2.2.1 - g.2.2.1) (g'.2.2.2.1 - g.2.2.2.1) κ.2.2.2.2
theorem lt_k : Cond.classLink "OddRanks" 278 "java/util/NoSuchElementException" ∈ ab_tb := ab_m6 5 rfl rfl
theorem lt_i : Cond.initialized "java/util/NoSuchElementException" ∈ ab_tb := ab_m1 25 rfl rfl
theorem lt_l : Cond.classLink "OddRanksLaw" 13 "java/util/NoSuchElementException" ∈ ab_tb := ab_m6 0 rfl rfl
theorem lt_c : Cond.castable "java/util/NoSuchElementException" "java/util/NoSuchElementException" ∈ ab_nb := List.mem_filter.mpr ⟨(ab_s6 _ (List.mem_of_getElem? (i := 7) rfl)), rfl⟩
theorem lt_cw : Cond.codeWith yL_letter cL_letter 4 (some .int) hh_let ∈ ab_tb := List.mem_filter.mpr ⟨(ab_s5 _ (List.mem_of_getElem? (i := 239) rfl)), rfl⟩
theorem lt_st : Cond.static yL_letter ∈ ab_tb := List.mem_filter.mpr ⟨(ab_s5 _ (List.mem_of_getElem? (i := 238) rfl)), rfl⟩
theorem x_callSW {ad : Nat → Nat} {X : ab_M} {d pc idx : Nat} {lo : List (Nat × Value)} {st0 rest : List Value} {σ σ0 : sS} {Q : Option Value → sS → Prop} {v : Value} {a : Nat} {i : Int32} {b : Nat} (hd : decode X.2.1 pc = .ok (.invokestatic idx, 3)) (hw : Cond.methodLink X.1.cls idx yL_letter ∈ ab_tb) (hdd : 10 ≤ d) (hst : st0 = [Value.ref a, .int i, .ref b].reverse ++ rest) (hr : (rest.map fun v => v.category).sum ≤ 8) (hC : ab_XW (sR ad) 9 mL_letter hh_let [.ref a, .int i, .ref b] σ (some v) σ0) (K : ab_E (sR ad) X d (pc + 3) lo (v :: rest) σ0 Q) : ab_E (sR ad) X d pc lo st0 σ Q := by
  intro g hg
  obtain ⟨g1, hg1, m1, m2, hM⟩ := hC g hg
  obtain ⟨r, g', σ', ⟨h1, h2, h3⟩, h4, h5⟩ := K g1 hg1
  refine ⟨r, g', σ', ⟨Nat.le_trans m1 h1, Nat.le_trans m2 h2, ?_⟩, h4, h5⟩
  intro l κ p e R s m args below meth c c0 s0 H locs ls cx hf hlc hcc hss hc0 hs0 hH hS hlo
  have hts := cx.2.2.2.2.2.2.2.1
  refine ab_back (r := some v) (g1 := g1) (mc := g1.2.2.1 - g.2.2.1) (ms := g1.2.2.2.1 - g.2.2.2.1) (vx_runSW (As := [Value.ref a, .int i, .ref b]) (rest := rest) (hh := hh_let) ⟨cx.1, cx.2.1, cx.2.2.1, cx.2.2.2.2.2.1, hts⟩ (hM l κ) (vx_cwSW (rm := ab_rm 9 (g1.2.2.1 - g.2.2.1) (g1.2.2.2.1 - g.2.2.2.1)) 3 hts (ab_gA (by
      intro w h
      simp only [List.mem_cons, List.not_mem_nil, or_false] at h
      rcases h with rfl | rfl | rfl
      · exact ab_gw hw
      · exact ab_gw lt_st
      · exact ab_gw wi_L) (by
      intro w hw2
      have hm : w ∈ ab_tb := by
        rcases List.mem_cons.mp hw2 with rfl | h2
        · exact lt_cw
        · exact h2
      exact ⟨hm, good_of_word (List.mem_filter.mp hm).2⟩)) rfl rfl rfl ⟨by decide, by decide, by decide +kernel⟩ ⟨by show 9 + 1 ≤ R.frames; omega, by show 8 + (4 + 11) + 40 * 9 ≤ R.locals; omega⟩) ⟨ab_blind, ab_pre cx.2.2.2.2.2.2.2.2 hH hS⟩ rfl rfl hlo.1 hst (lv_room hr) hd ⟨by omega, by omega⟩) hS (fun H1 locs1 hH1 hS1 => ?_)
  refine W.cs (cells' := g1.2.2.1 - c0) (slots' := g1.2.2.2.1 - s0) (by omega) (by omega) ?_
  exact h3 l κ p e R s m args below meth c c0 s0 H1 locs1 ls cx hf hlc hcc hss (by omega) (by omega) hH1 hS1 hlo
theorem q_let_of {σ : sS} {i : Int32} (h : q_let σ i = true) : ¬ vI σ 56 6 = 0 ∧ 0 ≤ i ∧ i < vI σ 56 7 + vI σ 56 8 := by simpa [q_let] using h
theorem c_X11_letter {ad : Nat → Nat} (σ : sS) {i : Int32} (hq : q_let σ i = true) : ab_X (sR ad) 2 mX11_letter [.ref (ad 0), .int i] σ (some (.int (rg σ 61 i))) σ := by
  obtain ⟨h1, q2, h3⟩ := q_let_of hq
  have h2 : ¬ i < 0 := Int32.not_lt.mpr q2
  refine ab_X.of (by decide) (Nat.le_of_ble_eq_true rfl) ?_
  refine r_aload_n dX11_letter_0 0 rfl ?_
  refine s_getR (b := 56) ok_X11 dX11_letter_1 (k := 8) (by decide) fl_X11_56 rfl rfl rfl ?_
  refine s_getI ok_X8 dX11_letter_4 (k := 6) (by decide) fl_X11_268 rfl rfl ?_
  refine r_if_eq (t := 33) dX11_letter_7 (by decide) (fun hh => absurd hh h1) (fun _ => ?_)
  refine r_iload_n dX11_letter_10 1 rfl ?_
  refine r_if_lt (t := 33) dX11_letter_11 (by decide) (fun hh => absurd hh h2) (fun _ => ?_)
  refine r_iload_n dX11_letter_14 1 rfl ?_
  refine r_aload_n dX11_letter_15 0 rfl ?_
  refine s_getR (b := 56) ok_X11 dX11_letter_16 (k := 8) (by decide) fl_X11_56 rfl rfl rfl ?_
  refine s_getI ok_X8 dX11_letter_19 (k := 7) (by decide) fl_X11_272 rfl rfl ?_
  refine r_aload_n dX11_letter_22 0 rfl ?_
  refine s_getR (b := 56) ok_X11 dX11_letter_23 (k := 8) (by decide) fl_X11_56 rfl rfl rfl ?_
  refine s_getI ok_X8 dX11_letter_26 (k := 8) (by decide) fl_X11_275 rfl rfl ?_
  refine r_iadd dX11_letter_29 ?_
  refine r_icmp_lt (t := 41) dX11_letter_30 (by decide) (fun _ => ?_) (fun hh => absurd h3 hh)
  refine r_aload_n dX11_letter_41 0 rfl ?_
  refine s_getR (b := 56) ok_X11 dX11_letter_42 (k := 8) (by decide) fl_X11_56 rfl rfl rfl ?_
  refine s_getR (b := 61) ok_X8 dX11_letter_45 (k := 5) (by decide) fl_X11_281 rfl rfl rfl ?_
  refine r_iload_n dX11_letter_48 1 rfl ?_
  refine x_callV (Y := mX7_get) (d' := 1) dX11_letter_49 ml_X11_284 yv_X7_get (by omega) rfl rfl (by simp [Value.category]) (sR_isR rfl) (c_get rfl i) ?_
  refine r_iret rfl dX11_letter_52 ?_
  exact ⟨rfl, rfl⟩
theorem e_L_letter {ad : Nat → Nat} (σ : sS) {i : Int32} (hq : q_let σ i = true) : ab_E (sR ad) mL_letter 9 0 [(0, .ref (ad 0)), (1, .int i), (2, .ref (ad 80))] [] σ (fun r9 σ9 => r9 = some (.int 0) ∧ σ9 = uL σ 80 0 (rg σ 61 i).toInt64) := by
  refine r_aload_n dL_letter_0 2 rfl ?_
  refine r_iconst (v := 0) dL_letter_1 (by decide) ?_
  refine r_aload_n dL_letter_2 0 rfl ?_
  refine r_iload_n dL_letter_3 1 rfl ?_
  refine x_callV (Y := mX11_letter) (d' := 2) dL_letter_4 ml_L_7 yv_X11_letter (by omega) rfl rfl (by simp [Value.category]) (sR_is rfl rfl) (c_X11_letter σ hq) ?_
  refine r_i2l dL_letter_7 ?_
  refine s_last dL_letter_8 rfl (inb_of (by decide)) ?_
  refine r_goto (t := 15) dL_letter_9 (by decide) ?_
  refine r_iconst (v := 0) dL_letter_15 (by decide) ?_
  refine r_iret rfl dL_letter_16 ?_
  exact ⟨rfl, rfl⟩
theorem ab_XW.of {Rp : sS → ab_S → Prop} {d : Nat} {Y : ab_M} {hh : List (Nat × Nat × Nat × Nat)} {av : List Value} {σ σ0 : sS} {r0 : Option Value} (hy : plainName Y.1.cls = true) (hn : (lg_sl av).length ≤ Y.2.2.1) (hE : ab_E Rp Y d 0 (lv_args 0 av) [] σ (fun r σ' => r = r0 ∧ σ' = σ0)) : ab_XW Rp d Y hh av σ r0 σ0 := by
  intro g hg
  obtain ⟨r, g', σ', ⟨h1, h2, h3⟩, h4, rfl, rfl⟩ := hE g hg
  refine ⟨g', h4, h1, h2, fun l κ => ?_⟩
  refine va_MetW (cc := Y.2.1) (maxL := Y.2.2.1) (ret := Y.2.2.2) (hh := hh) hy rfl ?_
  intro p e s m args below meth c s₁ B hml hv
  obtain ⟨rfl, hK, hHs⟩ := hv
  have hts := atoms_spec (ws := ab_wsW Y hh) B.pre
  have hl := lv_entry av (n := Y.2.2.1) hn
  rw [lg_entry_eq]
  have h6 := h3 l κ p e (headSpec (ab_wsW Y hh) (ab_rm d (g'.2.2.1 - g.2.2.1) (g'.2.2.2.1 - g.2.2.2.1))).room s m av.toArray below meth c g.2.2.1 g.2.2.2.1 s.heap [] _ ⟨B.exec, B.bytes, hml, B.returns, B.notSynchronized, findClass_of_methodNamed B.named, (name_of_methodNamed B.named B.method).1, fun w hw => hts w (List.mem_cons_of_mem _ hw), hK⟩ (Nat.le_refl _) (Nat.le_refl _) rfl rfl (Nat.le_refl _) (Nat.le_refl _) hHs va_S.rf hl
  rw [Nat.sub_self, Nat.sub_self] at h6
  exact h6
/-- (follows the starting text's vx_throw0, with the heap's new size told) -/
theorem th_throw0 {p : Program} {l : Launch} {e : Env} {R : Room} {s : State} {m : MethodId} {args : Array Value} {below : List Frame} {meth : Method} {c : Code} {H : Heap} {locs : List Loc} {cells slots : Nat} {free : Addr → Prop} {ls : Array Slot} {rest : List Value} {Qc : Array Value → State → Outcome → State → Prop} {XC : String → State → State → Prop} {cc : ByteArray} {pc : Nat} (hexec : p.tables.exec = Jvm.exec) (hb : c.code = cc) (hl : l.stackTraces = false) {own cls : String} {names : List String} {ik ic mc ms : Nat} {A : Nat → Prop}
    (hown : s.vm.findClass own = some m.cls) (hcls : Bundle.fit cls = true) (hnames : ∀ n ∈ names, Bundle.fit n = true)
    (hk : (Cond.classLink own ik cls).before args s = true) (hini : (Cond.initialized cls).before args s = true) (hat : ∀ w ∈ vx_at0 own ic cls names, w.before args s = true)
    (hgood : ∀ w ∈ Cond.classLink own ik cls :: Cond.initialized cls :: vx_at0 own ic cls names, vx_ot w = true)
    (hU : vx_Zq Bundle.tN "UNASSIGNED_STACK" Bundle.steD A s s.heap) (hN : vx_Zq Bundle.tN "SUPPRESSED_SENTINEL" Bundle.listD A s s.heap) (hS : va_S A s.heap H locs) (hsize : ls.size = c.maxLocals)
    (d0 : decode cc pc = .ok (.new ik, 3)) (d3 : decode cc (pc + 3) = .ok (.dup, 1)) (d4 : decode cc (pc + 4) = .ok (.invokespecial ic, 3)) (d7 : decode cc (pc + 7) = .ok (.athrow, 1))
    (hout : ∀ x ∈ c.exceptionTable.toList, covers x (pc + 7) = false)
    (hRframes : names.length + 3 < R.frames) (hRlocals : (rest.map fun v => v.category).sum + (13 * (names.length + 1) + 42) ≤ R.locals) (hRcells : cells + 1 ≤ R.cells) (hRslots : slots + 6 ≤ R.slots) (hlocks : meth.locks = false)
    (hx : ∀ t : State, s.vm.Alike t.vm → t.heap.size = H.size + 1 → (∀ q : Nat, q < H.size → t.heap[q]? = H[q]?) → XC cls s t)
    (hf : ∀ z ∈ locs, free z.base) (hc : cells + 1 ≤ mc) (hs : slots + 6 ≤ ms) :
    W p l e R s m args below meth c H locs cells slots (vx_MQ below Qc XC args s mc ms free) (F0 m pc ls rest) := by
  intro T hT X
  have htr : e.platform.stackTraces = false := (show e.platform.stackTraces = l.stackTraces by rw [X.admits.platform]).trans hl
  have Y := vx_rebase X (R' := { frames := R.frames, locals := R.locals, cells := 1, slots := 6 }) (Nat.le_refl _) (Nat.le_refl _) hRcells hRslots
  obtain ⟨s', hA⟩ : ∃ z, z = (T.setVm s.vm).setFrames (.invoking m args :: below) := ⟨_, rfl⟩
  rw [← hA] at Y
  have hvm : s'.vm = s.vm := by rw [hA]; rfl
  have hhp : s'.heap = H := by rw [hA]; exact hT
  have hW0 : s.WarmedH s'.vm := by rw [hvm]; exact State.WarmedH.refl s
  have hat' : ∀ w ∈ vx_at0 own ic cls names, w.before args s' = true := fun w hw => vx_ot_at hW0 hvm.symm (hgood w (List.mem_cons_of_mem _ (List.mem_cons_of_mem _ hw))) (hat w hw)
  have hk' : (Cond.classLink own ik cls).before args s' = true := vx_ot_at hW0 hvm.symm (hgood _ List.mem_cons_self) hk
  have hini' : (Cond.initialized cls).before args s' = true := vx_ot_at hW0 hvm.symm (hgood _ (List.mem_cons_of_mem _ List.mem_cons_self)) hini
  have hU' : vx_Zq Bundle.tN "UNASSIGNED_STACK" Bundle.steD A s' s'.heap := by rw [hhp]; exact vx_Zq.moved hW0.alike (hU.kept hS.2.1)
  have hN' : vx_Zq Bundle.tN "SUPPRESSED_SENTINEL" Bundle.listD A s' s'.heap := by rw [hhp]; exact vx_Zq.moved hW0.alike (hN.kept hS.2.1)
  have h : ∀ w ∈ Bundle.ownAtoms0 own ic cls names, w.before args s' = true := vx_own hat' (vx_isRefq hU'.1) (vx_isRefq hN'.1) hU'.2.word hN'.2.word
  have hown' : s'.vm.findClass own = some m.cls := by rw [hvm]; exact hown
  have hins : (Cond.instantiable cls 6).before args s' = true := h _ (by simp [Bundle.ownAtoms0])
  obtain ⟨vm₁, cX, kX, hfX, hkX, -, -, X₁, st1⟩ := Y.newCold hexec (own := own) (C := cls) (index := ik) (n := 6) hown' hk' hins hini'
    (g := F0 m pc ls rest) rfl (by rw [hb]; exact d0) (Nat.le_refl _) (Nat.le_refl _)
  generalize hT1 : (T.setVm vm₁).pushCell { cls := cX, slots := kX.instanceTypes.map defaultValue, vm := .none } = T1 at X₁ st1
  have hcat : (Value.ref T.heap.size).category = 1 := rfl
  have hcellA : T1.heap[T.heap.size]? = some (freshCell cX kX) := by rw [← hT1]; exact State.heap_pushCell_size _ _
  have d3' : decode c.code (pc + 3) = .ok (.dup, 1) := by rw [hb]; exact d3
  obtain ⟨U, hsteps, hrun, hend, hW, hsame, ce, hce, hO⟩ := X₁.ctorThrow0 hexec htr (own := own) (cls := cls) (names := names) (ic := ic) hown' hcls hnames h (fun x hx => nomatch hx) hfX hkX hcellA (by rw [hhp, hT]; exact Nat.le_refl _)
    (g := { method := m, pc := pc + 4, locals := ls, stack := .ref T.heap.size :: .ref T.heap.size :: rest, locked := none }) rfl hsize rfl rfl (rest := rest) rfl
    (by rw [hb]; exact d4) (by rw [hb]; exact d7) hout hRframes (by simp only [List.map_cons, List.sum_cons, hcat]; omega) hlocks
  obtain ⟨f1, f2⟩ := vx_frame hsame
  rw [hhp] at f1 f2
  have f9 : U.heap.size = H.size + 1 := by
    have g1 : T.heap.size < U.heap.size := (Array.getElem?_eq_some_iff.mp hce).1
    have g2 : U.heap.size ≤ s'.heap.size + (0 + 1) := hsame.2.2.1
    rw [hhp] at g2
    rw [hT] at g1
    omega
  have hWs : s.WarmedH U.vm := State.WarmedH.trans hW0 hW
  have hcl : s.vm.findClass cls = some ce.cls := by
    have h9 := hO.cls
    rw [hvm] at h9
    exact h9
  have hall : s.sameButNew ({ U with vm := s.vm } : State) locs mc ms := by
    subst hA
    obtain ⟨e1, e2⟩ := hsame
    rw [State.setFrames_setFrames] at e1
    have h2 : (T.setVm s.vm).sameButNew ({ U with vm := s.vm } : State) [] (0 + 1) (0 + 6) := ⟨e1, e2⟩
    have h3 := X.same.trans h2
    rw [List.append_nil] at h3
    exact h3.mono hc hs
  refine ⟨U, ?_, .threw T.heap.size, hrun, hend, Or.inr ⟨T.heap.size, rfl, cls, ce, locs, hx U hWs.alike f9 (fun q hq => f2 q hq (fun z hz => nomatch hz)), hce, hO.vm, hcl, hWs, hall, hf⟩⟩
  refine st1 _ ?_
  show Steps p.tables e below (T1.setTop { method := m, pc := pc + 3, locals := ls, stack := .ref T.heap.size :: rest, locked := none }) _
  jvm_step X₁.here [X₁.here.top, hexec, d3', Value.category]
  exact hsteps
theorem w_get {l : Launch} {X : ab_M} {κ : ab_P} {p : Program} {e : Env} {R : Room} {s : State} {m : MethodId} {args : Array Value} {below : List Frame} {meth : Method} {c : Code} {H : Heap} {locs : List Loc} {cells slots : Nat} {Qq : State → Prop} {ls : Array Slot} {g : ab_S} {pc a ci idx k N : Nat} {fs st : List Value} {C : String} {T : u_T} {ty : Nat → FieldType} {v : Value} (cx : ab_cx l X κ p s m args meth c) (hH : ab_Hs κ g H) (O : ab_ok ci C T N ty) (hd : decode X.2.1 pc = .ok (.getfield idx, 3)) (hk : k < N) (hl : Cond.fieldLink X.1.cls idx (T k).1 (T k).2.1 (T k).2.2.1 ∈ ab_tb) (he : g.1 a = some (.inr (ci, fs))) (hv : fs[k]? = some v) (h : W p l e R s m args below meth c H locs cells slots Qq (F0 m (pc + 3) ls (v :: st))) : W p l e R s m args below meth c H locs cells slots Qq (F0 m pc ls (.ref a :: st)) :=
  va_get (D := κ.1) (ws := [(a, .inr (ci, fs))]) (C := C) (T := T) (N := N) (ci := ci) cx.1 cx.2.1 cx.2.2.2.2.2.2.2.1 O.2.1 cx.2.2.2.2.2.1 cx.2.2.2.2.2.2.2.2.1 (hH.P he) 0 rfl O.1 k hk (cx.2.2.2.2.2.2.2.1 _ hl) (fun _ h9 => h9) hv hd h
theorem w_letter {l : Launch} {κ : ab_P} {p : Program} {e : Env} {R : Room} {s : State} {m : MethodId} {args : Array Value} {below : List Frame} {meth : Method} {c : Code} {H : Heap} {locs : List Loc} {cells slots : Nat} {Qq : State → Prop} {ls : Array Slot} {g : ab_S} {ad : Nat → Nat} {σ : sS} {i : Int32} (cx : ab_cx l mX11_letter κ p s m args meth c) (hH : ab_Hs κ g H) (hg : sR ad σ g) (hl : lv_has ls 2 [(0, .ref (ad 0)), (1, .int i)]) (hq : ¬ q_let σ i = true) (K : W p l e R s m args below meth c H locs cells slots Qq (F0 m 33 ls [])) : W p l e R s m args below meth c H locs cells slots Qq (F0 m 0 ls []) := by
  obtain ⟨ar, hg⟩ := hg
  have c0 : g.1 (ad 0) = some (.inr (10, fv ad σ 0 10)) := hg.cell (la_ne (a := 0) (t := 1) (n := 10) rfl (by decide)) (ce_obj rfl)
  have c5 : g.1 (ad 56) = some (.inr (7, fv ad σ 56 7)) := hg.cell (la_ne (a := 56) (t := 1) (n := 7) rfl (by decide)) (ce_obj rfl)
  have v8 : (fv ad σ 0 10)[8]? = some (.ref (ad 56)) := (fv_at (t := 2) rfl).trans (by simp [fw, sr, sr_tab, va_rf])
  have v6 : (fv ad σ 56 7)[6]? = some (.int (vI σ 56 6)) := fv_at (t := 0) rfl
  have v7 : (fv ad σ 56 7)[7]? = some (.int (vI σ 56 7)) := fv_at (t := 0) rfl
  have v9 : (fv ad σ 56 7)[8]? = some (.int (vI σ 56 8)) := fv_at (t := 0) rfl
  refine lv_aload_n cx.1 cx.2.1 dX11_letter_0 rfl (lv_at hl 0 rfl) ?_
  refine w_get cx hH ok_X11 dX11_letter_1 (k := 8) (by decide) fl_X11_56 c0 v8 ?_
  refine w_get cx hH ok_X8 dX11_letter_4 (k := 6) (by decide) fl_X11_268 c5 v6 ?_
  refine lv_if_eq (tgt := 33) cx.1 cx.2.1 dX11_letter_7 (by decide) (fun _ => K) (fun h1 => ?_)
  refine lv_iload_n cx.1 cx.2.1 dX11_letter_10 rfl (lv_at hl 1 rfl) ?_
  refine lv_if_lt (tgt := 33) cx.1 cx.2.1 dX11_letter_11 (by decide) (fun _ => K) (fun h2 => ?_)
  refine lv_iload_n cx.1 cx.2.1 dX11_letter_14 rfl (lv_at hl 1 rfl) ?_
  refine lv_aload_n cx.1 cx.2.1 dX11_letter_15 rfl (lv_at hl 0 rfl) ?_
  refine w_get cx hH ok_X11 dX11_letter_16 (k := 8) (by decide) fl_X11_56 c0 v8 ?_
  refine w_get cx hH ok_X8 dX11_letter_19 (k := 7) (by decide) fl_X11_272 c5 v7 ?_
  refine lv_aload_n cx.1 cx.2.1 dX11_letter_22 rfl (lv_at hl 0 rfl) ?_
  refine w_get cx hH ok_X11 dX11_letter_23 (k := 8) (by decide) fl_X11_56 c0 v8 ?_
  refine w_get cx hH ok_X8 dX11_letter_26 (k := 8) (by decide) fl_X11_275 c5 v9 ?_
  refine lv_iadd cx.1 cx.2.1 dX11_letter_29 ?_
  refine lv_icmp_lt (tgt := 41) cx.1 cx.2.1 dX11_letter_30 (by decide) (fun h3 => absurd (by simp [q_let, h1, Int32.not_lt.mp h2, h3]) hq) (fun _ => K)
def xc_let (E : String) (st t : State) : Prop := E = "java/util/NoSuchElementException" ∧ t.heap.size = st.heap.size + 1 ∧ ∀ q : Nat, q < st.heap.size → t.heap[q]? = st.heap[q]?
def nm_let : List String := ["java/lang/RuntimeException", "java/lang/Exception"]
theorem lt_at0 {args : Array Value} {s : State} (hts : ∀ w ∈ ab_tb, w.before args s = true) (hnb : ∀ w ∈ ab_nb, va_Nw w s) : ∀ w ∈ vx_at0 "OddRanks" 280 "java/util/NoSuchElementException" nm_let, w.before args s = true := by
  have h : (vx_at0 "OddRanks" 280 "java/util/NoSuchElementException" nm_let).all (fun w => ab_tb.contains w || ab_nb.contains w) = true := by decide +kernel
  intro w hw
  rcases Bool.or_eq_true_iff.mp (List.all_eq_true.mp h w hw) with h1 | h1
  · exact hts w (List.contains_iff_mem.mp h1)
  · exact va_Nw.use (ab_nb_on w (List.contains_iff_mem.mp h1)) (hnb w (List.contains_iff_mem.mp h1))
theorem m_letter {l : Launch} {κ : ab_P} {ad : Nat → Nat} {σ : sS} {g : ab_S} {i : Int32} (hg : sR ad σ g) (hq : ¬ q_let σ i = true) : vx_Met l mX11_letter.1 (ab_ws mX11_letter) (ab_rm 7 1 6) (ab_Pc l κ g [.ref (ad 0), .int i]) (fun _ _ _ _ => False) xc_let 1 6 κ.2.2.2.2 := by
  refine vx_ofW (cc := mX11_letter.2.1) (maxL := mX11_letter.2.2.1) (ret := mX11_letter.2.2.2) (by decide) rfl ?_
  intro p e s m args below meth c s₁ B hml hT hv
  obtain ⟨rfl, hK, hHs⟩ := hv
  have hts := atoms_spec (ws := ab_ws mX11_letter) B.pre
  have hts' : ∀ w ∈ ab_tb, w.before [Value.ref (ad 0), .int i].toArray s = true := fun w hw => hts w (List.mem_cons_of_mem _ hw)
  have cx : ab_cx l mX11_letter κ p s m [Value.ref (ad 0), .int i].toArray meth c := ⟨B.exec, B.bytes, hml, B.returns, B.notSynchronized, findClass_of_methodNamed B.named, (name_of_methodNamed B.named B.method).1, hts', hK⟩
  have hl := lv_entry [Value.ref (ad 0), .int i] (n := 2) (Nat.le_of_ble_eq_true rfl)
  rw [lg_entry_eq]
  generalize (lg_sl ([Value.ref (ad 0), .int i]) ++ List.replicate (2 - (lg_sl ([Value.ref (ad 0), .int i])).length) Slot.unset).toArray = ls at hl ⊢
  have hl : lv_has ls 2 [(0, .ref (ad 0)), (1, .int i)] := hl
  obtain ⟨qf, qU, qN⟩ := hK.2.2.2.2.2.2.2.2.2.2.2
  refine w_letter cx hHs hg hl hq ?_
  exact th_throw0 (names := nm_let) (ik := 278) (ic := 280) (A := κ.2.2.2.2) cx.1 cx.2.1 qf cx.2.2.2.2.2.1 (by decide +kernel) (by decide +kernel) (hts' _ lt_k) (hts' _ lt_i) (lt_at0 hts' hK.2.2.1) (by decide +kernel) qU qN va_S.rf (hl.1.trans hml.symm) dX11_letter_33 dX11_letter_36 dX11_letter_37 dX11_letter_40 (fun x hx => absurd (hT x hx) id) (by show 2 + 3 < 7; decide) (by show 0 + (13 * (2 + 1) + 42) ≤ 40 * 7; decide) (Nat.le_refl _) (Nat.le_refl _) cx.2.2.2.2.1 (fun t _ h1 h2 => ⟨rfl, h1, h2⟩) (fun z hz => nomatch hz) (Nat.le_refl _) (Nat.le_refl _)
theorem ab_Hs.grow {κ : ab_P} {g : ab_S} {H H1 : Heap} {c s : Nat} (h : ab_Hs κ g H) (hz : H1.size = H.size + 1) (ho : ∀ q, q < H.size → H1[q]? = H[q]?) : ab_Hs κ (g.1, g.2.1 + 1, c, s, g.2.2.2.2) H1 :=
  ⟨by rw [hz, h.1], h.2.1, fun b x h2 => ⟨(h.2.2 b x h2).1.kept (ho b (h.2.2 b x h2).1.lt), (h.2.2 b x h2).2⟩⟩
theorem lc_L_letter {ad : Nat → Nat} {i r : Int32} {σ τ : sS} (h : L_letter i σ = some (r, τ)) : ab_XW (sR ad) 9 mL_letter hh_let [.ref (ad 0), .int i, .ref (ad 80)] σ (some (.int r)) τ := by
  unfold L_letter at h
  by_cases hq : q_let σ i = true
  · rw [if_pos hq] at h
    cases h
    exact ab_XW.of (by decide) (Nat.le_of_ble_eq_true rfl) (e_L_letter σ hq)
  · rw [if_neg hq] at h
    cases h
    intro g hg
    refine ⟨(g.1, g.2.1 + 1, g.2.2.1 + 1, g.2.2.2.1 + 6, g.2.2.2.2), ?_, Nat.le_succ _, Nat.le_add_right _ _, fun l κ => ?_⟩
    · obtain ⟨ar, q1, q2, q3, q4, q5, q6, q7, q8⟩ := hg
      refine ⟨ar, q1, q2, q3, q4, q5, fun q hq => Nat.lt_succ_of_lt (q6 q hq), ?_, q8⟩
      have e := q7
      show (g.2.2.1 + 1, g.2.2.2.1 + 6) = vk (uT σ)
      show _ = ((vk σ).1 + 1, (vk σ).2 + 6)
      rw [← e]
    show Met l mL_letter.1 (ab_wsW mL_letter hh_let) (ab_rm 9 (g.2.2.1 + 1 - g.2.2.1) (g.2.2.2.1 + 6 - g.2.2.2.1)) (ab_Pc l κ g [.ref (ad 0), .int i, .ref (ad 80)]) (ab_Q κ (some (.int 1)) (g.1, g.2.1 + 1, g.2.2.1 + 1, g.2.2.2.1 + 6, g.2.2.2.2)) (g.2.2.1 + 1 - g.2.2.1) (g.2.2.2.1 + 6 - g.2.2.2.1) κ.2.2.2.2
    rw [Nat.add_sub_cancel_left, Nat.add_sub_cancel_left]
    refine va_MetW (cc := mL_letter.2.1) (maxL := mL_letter.2.2.1) (ret := mL_letter.2.2.2) (hh := hh_let) (by decide) rfl ?_
    intro p e s m args below meth c s₁ B hml hv
    obtain ⟨rfl, hK, hHs⟩ := hv
    have hts := atoms_spec (ws := ab_wsW mL_letter hh_let) B.pre
    have hts' : ∀ w ∈ ab_tb, w.before [Value.ref (ad 0), .int i, .ref (ad 80)].toArray s = true := fun w hw => hts w (List.mem_cons_of_mem _ hw)
    have cx : ab_cx l mL_letter κ p s m [Value.ref (ad 0), .int i, .ref (ad 80)].toArray meth c := ⟨B.exec, B.bytes, hml, B.returns, B.notSynchronized, findClass_of_methodNamed B.named, (name_of_methodNamed B.named B.method).1, hts', hK⟩
    have htab : c.exceptionTable.toList = tableOf hh_let := vx_table (x := yL_letter) B (hts _ List.mem_cons_self)
    have hl := lv_entry [Value.ref (ad 0), .int i, .ref (ad 80)] (n := 4) (Nat.le_of_ble_eq_true rfl)
    rw [lg_entry_eq]
    generalize (lg_sl ([Value.ref (ad 0), .int i, .ref (ad 80)]) ++ List.replicate (4 - (lg_sl ([Value.ref (ad 0), .int i, .ref (ad 80)])).length) Slot.unset).toArray = ls at hl ⊢
    have hl : lv_has ls 4 [(0, .ref (ad 0)), (1, .int i), (2, .ref (ad 80))] := hl
    refine lv_aload_n cx.1 cx.2.1 dL_letter_0 rfl (lv_at hl 2 rfl) ?_
    refine lv_iconst (v := 0) cx.1 cx.2.1 dL_letter_1 (by decide) ?_
    refine lv_aload_n cx.1 cx.2.1 dL_letter_2 rfl (lv_at hl 0 rfl) ?_
    refine lv_iload_n cx.1 cx.2.1 dL_letter_3 rfl (lv_at hl 1 rfl) ?_
    have hrun := vx_runV (Ts := ab_tb) (own := RL) (C := RX11) (As := [.int i]) (b := ad 0) (rest := [.int 0, .ref (ad 80)]) (g := F0 m 4 ls [.int i, .ref (ad 0), .int 0, .ref (ad 80)]) (cells := 0) (slots := 0) (H := s.heap) (locs := []) (R := (headSpec (ab_wsW mL_letter hh_let) (ab_rm 9 1 6)).room) (below := below) (e := e) (l := l) (meth := meth) ⟨cx.1, cx.2.1, cx.2.2.1, cx.2.2.2.2.2.1, hts'⟩ (m_letter (κ := κ) hg hq) (cwV (rm := ab_rm 7 1 6) 1 hts' (ab_gA (by
      intro w h
      simp only [List.mem_cons, List.not_mem_nil, or_false] at h
      rcases h with rfl | rfl | rfl | rfl
      · exact ab_gw ml_L_7
      · exact ab_gw yv_X11_letter.2.1
      · exact ab_gw yv_X11_letter.2.2
      · exact ab_gw wi_X11) (ab_gi yb_X11_letter.2.1)) rfl rfl rfl ⟨rfl, yb_X11_letter.2.2.2⟩ ⟨by show 7 + 1 ≤ 9; decide, by show 8 + (2 + 11) + 40 * 7 ≤ 40 * 9; decide⟩) ⟨ab_blind, (by obtain ⟨ar, hg⟩ := hg; exact va_recv hK.1 (hHs.P (hg.cell (la_ne (a := 0) (t := 1) (n := 10) rfl (by decide)) (ce_obj rfl))) (ci := 10) (q0 := 0) rfl rfl), ab_pre hK hHs va_S.rf⟩ rfl rfl hl.1 rfl (by simp [F0, JFrame.monitorRoom, Value.category]) dL_letter_4 ⟨by decide, by decide⟩
    intro T hT X
    rcases hrun T hT X with ⟨v, st₀, t, T', L, h0, X', hL, e1, e2, hF, st⟩ | ⟨q, st₀, t, T', L, E, ce, h0, X', hL, e1, e2, ⟨rfl, hz, hk⟩, hce, hcv, hcl, st⟩
    · exact hF.elim
    · rw [h0] at hz hk
      have hH1 : ab_Hs κ (g.1, g.2.1 + 1, g.2.2.1 + 1, g.2.2.2.1 + 6, g.2.2.2.2) T'.heap := hHs.grow (by rw [e1]; exact hz) (fun q hq => by rw [e1]; exact hk q hq)
      have hS1 : va_S κ.2.2.2.2 s.heap T'.heap ([] ++ L) := ⟨by rw [e1, hz]; exact Nat.le_succ _, fun q hq _ => by rw [e1]; exact hk q hq, fun z hz => hL z hz⟩
      have hcatch : vx_W p l e (headSpec (ab_wsW mL_letter hh_let) (ab_rm 9 1 6)).room s m [Value.ref (ad 0), .int i, .ref (ad 80)].toArray below meth c T'.heap ([] ++ L) (0 + 1) (0 + 6) (MQ below (ab_Q κ (some (.int 1)) (g.1, g.2.1 + 1, g.2.2.1 + 1, g.2.2.2.1 + 6, g.2.2.2.2)) [Value.ref (ad 0), .int i, .ref (ad 80)].toArray s 1 6 κ.2.2.2.2) (F0 m 4 ls [.int 0, .ref (ad 80)]) q := by
        refine vx_catch (own := RL) (name := "java/util/NoSuchElementException") cx.2.2.2.2.2.1 [] _ [] htab (fun z hz => nomatch hz) rfl (by decide) (hts' _ lt_l) (va_Nw.use rfl (hK.2.2.1 _ lt_c)) (by rw [e1]; exact hce) hcv hcl ?_
        refine lv_astore_n (lv' := [(3, .ref q), (0, .ref (ad 0)), (1, .int i), (2, .ref (ad 80))]) cx.1 cx.2.1 dL_letter_12 rfl hl (by decide) rfl (fun ls' hl' => ?_)
        refine lv_iconst (v := 1) cx.1 cx.2.1 dL_letter_13 (by decide) ?_
        exact W.iret cx.1 cx.2.1 cx.2.2.2.1 (fun t ht hW => ⟨rfl, by rw [ht]; exact hH1, hS1.F ht⟩) hS1.2.2 dL_letter_14 (hlocks := cx.2.2.2.2.1)
      obtain ⟨t2, a1, b1⟩ := hcatch T' rfl X'
      exact ⟨t2, st.trans a1, b1⟩
