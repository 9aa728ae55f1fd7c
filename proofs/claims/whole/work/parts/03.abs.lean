/-! THE ABSTRACT MACHINE over the kit's W: a heap is a function from addresses to cells, a contract tells the exact end; rules go goal first -/
/-- the tables' words that last -/
def ab_tb : List Cond := lw_tbl.filter goodWord
abbrev ab_H : Type := Nat → Option va_E
abbrev ab_S : Type := ab_H × Nat × Nat × Nat × (Nat → Nat)
def ab_to (dA : Nat → ClassId) (e : va_E) : va_E := match e with
  | .inl a => .inl (dA a.1, a.2)
  | .inr o => .inr o
def ab_tys (dA : Nat → ClassId) : List (ClassId × FieldType) := [(dA 0, .int), (dA 1, .long), (dA 2, .boolean), (dA 3, .object "OddRanks$Automaton"), (dA 4, .object "OddRanks$Complement")]
def ab_up (h : ab_H) (a : Nat) (e : va_E) : ab_H := fun b => if b = a then some e else h b
/-- a launch's numbers: classes and slots, array classes, the String constants' cells and their bytes', what may be written -/
abbrev ab_P : Type := va_G × (Nat → ClassId) × (Nat → Nat) × (Nat → Nat) × (Nat → Prop)
def ab_Hs (κ : ab_P) (g : ab_S) (H : Heap) : Prop := H.size = g.2.1 ∧ κ.2.2.1 = g.2.2.2.2 ∧ ∀ (a : Nat) (e : va_E), g.1 a = some e → va_at κ.1 vwCl (a, ab_to κ.2.1 e) H ∧ κ.2.2.2.2 a
/-- what lasts: the nest's links, the arrays of objects, the String constants, two statics -/
def ab_isN : Cond → Bool
  | .methodLinkNest _ _ _ _ => true
  | .declares _ => true
  | .castable _ _ => true
  | _ => false
def ab_nb : List Cond := lw_tbl.filter ab_isN
theorem ab_nb_on : ∀ w ∈ ab_nb, w.onTables = true := by
  intro w hw
  have h := (List.mem_filter.mp hw).2
  cases w <;> first | rfl | (simp [ab_isN] at h)
theorem ab_nb_warm {s U : State} (hW : s.WarmedH U.vm) : ∀ w ∈ ab_nb, va_Nw w s → va_Nw w U := by
  intro w hw hZ
  have h := (List.mem_filter.mp hw).2
  cases w <;> first | exact va_Nw.warmM hW hZ | exact va_Nw.warmD hW hZ | exact va_Nw.warmC hW hZ | (simp [ab_isN] at h)
def ab_sr : List (String × Nat × String × Nat) := [("OddRanks$Reader", 66, "letters", 0), ("OddRanks$Reader", 76, "auto", 1), ("OddRanks$Reader", 101, "states", 2), ("OddRanks$Reader", 81, "start", 3), ("OddRanks$Reader", 87, "final", 4), ("OddRanks$Reader", 89, "edge", 5), ("OddRanksModel", 227, "letters", 0), ("OddRanksModel", 229, "auto", 1), ("OddRanksModel", 231, "states", 2), ("OddRanksModel", 232, "start", 3), ("OddRanksModel", 233, "final", 4), ("OddRanksModel", 235, "edge", 5)]
def ab_len : List Nat := [7, 4, 6, 5, 5, 4]
def ab_byt : List (List Int32) := [[108, 101, 116, 116, 101, 114, 115], [97, 117, 116, 111], [115, 116, 97, 116, 101, 115], [115, 116, 97, 114, 116], [102, 105, 110, 97, 108], [101, 100, 103, 101]]
/-- what a throw wants: no stack traces, two statics of Throwable -/
def ab_thr (l : Launch) (κ : ab_P) (U : State) : Prop := l.stackTraces = false ∧ vx_Zq Bundle.tN "UNASSIGNED_STACK" Bundle.steD κ.2.2.2.2 U U.heap ∧ vx_Zq Bundle.tN "SUPPRESSED_SENTINEL" Bundle.listD κ.2.2.2.2 U U.heap
/-- the law's script: its cell, its length and its ints are told by the places -/
def ab_scr (κ : ab_P) (U : State) : Prop := va_X (κ.2.2.1 1000) (κ.2.2.1 1001) (fun j => Int32.ofNat (κ.2.2.1 (2000 + j))) U U.heap ∧ κ.2.2.1 1000 < U.heap.size ∧ ¬ κ.2.2.2.2 (κ.2.2.1 1000)
def ab_K (l : Launch) (κ : ab_P) (U : State) : Prop := va_K κ.1 vwCl (ab_tys κ.2.1) U ∧ (∀ q, U.heap.size ≤ q → κ.2.2.2.2 q) ∧ (∀ w ∈ ab_nb, va_Nw w U) ∧ va_AO "OddRanks$Automaton" U ∧ va_AO "OddRanks$Complement" U ∧ (∀ x ∈ ab_sr, vk_R x.1 x.2.1 x.2.2.1 (κ.2.2.1 x.2.2.2) U) ∧ vk_S 6 ab_len ab_byt κ.2.2.1 κ.2.2.2.1 κ.2.2.2.2 U U.heap ∧ va_Z "java/lang/String" "COMPACT_STRINGS" "Z" (.int 1) κ.2.2.2.2 U U.heap ∧ va_Zq "jdk/internal/util/Preconditions" "SIOOBE_FORMATTER" "Ljava/util/function/BiFunction;" κ.2.2.2.2 U U.heap ∧ (∀ i, i < 6 → κ.2.2.1 (100 + i) = κ.2.2.2.1 i) ∧ ab_scr κ U ∧ ab_thr l κ U
abbrev ab_M : Type := MethodName × ByteArray × Nat × Option FieldType
def ab_cx (l : Launch) (X : ab_M) (κ : ab_P) (p : Program) (s : State) (m : MethodId) (args : Array Value) (meth : Method) (c : Code) : Prop :=
  p.tables.exec = Jvm.exec ∧ c.code = X.2.1 ∧ c.maxLocals = X.2.2.1 ∧ meth.sig.returnType = X.2.2.2 ∧ meth.locks = false ∧ s.vm.findClass X.1.cls = some m.cls ∧ meth.name = X.1.name ∧ (∀ w ∈ ab_tb, w.before args s = true) ∧ ab_K l κ s
def ab_Q (κ : ab_P) (r : Option Value) (g' : ab_S) : Array Value → State → Outcome → State → Prop := fun _ st oc t => oc = .returned r ∧ ab_Hs κ g' t.heap ∧ va_F κ.2.2.2.2 st t
def ab_R (X : ab_M) (d pc : Nat) (lo : List (Nat × Value)) (st : List Value) (g : ab_S) (r : Option Value) (g' : ab_S) : Prop :=
  g.2.2.1 ≤ g'.2.2.1 ∧ g.2.2.2.1 ≤ g'.2.2.2.1 ∧
  ∀ (l : Launch) (κ : ab_P) (p : Program) (e : Env) (R : Room) (s : State) (m : MethodId) (args : Array Value) (below : List Frame) (meth : Method) (c : Code) (c0 s0 : Nat) (H : Heap) (locs : List Loc) (ls : Array Slot),
    ab_cx l X κ p s m args meth c → d ≤ R.frames → 40 * d ≤ R.locals → R.cells = g'.2.2.1 - c0 → R.slots = g'.2.2.2.1 - s0 → c0 ≤ g.2.2.1 → s0 ≤ g.2.2.2.1 → ab_Hs κ g H → va_S κ.2.2.2.2 s.heap H locs → lv_has ls X.2.2.1 lo →
    W p l e R s m args below meth c H locs (g.2.2.1 - c0) (g.2.2.2.1 - s0) (MQ below (ab_Q κ r g') args s (g'.2.2.1 - c0) (g'.2.2.2.1 - s0) κ.2.2.2.2) (F0 m pc ls st)
def ab_E {S : Type} (Rp : S → ab_S → Prop) (X : ab_M) (d pc : Nat) (lo : List (Nat × Value)) (st : List Value) (σ : S) (Q : Option Value → S → Prop) : Prop := ∀ g, Rp σ g → ∃ r g' σ', ab_R X d pc lo st g r g' ∧ Rp σ' g' ∧ Q r σ'
def ab_ws (Y : ab_M) : List Cond := Cond.code Y.1 Y.2.1 Y.2.2.1 Y.2.2.2 :: ab_tb
def ab_rm (d c s : Nat) : Room := { frames := d, cells := c, slots := s, locals := 40 * d }
def ab_Pc (l : Launch) (κ : ab_P) (g : ab_S) (av : List Value) : Array Value → State → Prop := va_Pc av (fun U => ab_K l κ U ∧ ab_Hs κ g U.heap)
def ab_Mt (d : Nat) (Y : ab_M) (av : List Value) (g : ab_S) (r : Option Value) (g' : ab_S) : Prop :=
  g.2.2.1 ≤ g'.2.2.1 ∧ g.2.2.2.1 ≤ g'.2.2.2.1 ∧ ∀ (l : Launch) (κ : ab_P),
    Met l Y.1 (ab_ws Y) (ab_rm d (g'.2.2.1 - g.2.2.1) (g'.2.2.2.1 - g.2.2.2.1)) (ab_Pc l κ g av) (ab_Q κ r g') (g'.2.2.1 - g.2.2.1) (g'.2.2.2.1 - g.2.2.2.1) κ.2.2.2.2
def ab_C {S : Type} (Rp : S → ab_S → Prop) (d : Nat) (Y : ab_M) (av : List Value) (σ : S) (Q : Option Value → S → Prop) : Prop := ∀ g, Rp σ g → ∃ r g' σ', ab_Mt d Y av g r g' ∧ Rp σ' g' ∧ Q r σ'
theorem ab_gi {Y : ab_M} (h : Cond.code Y.1 Y.2.1 Y.2.2.1 Y.2.2.2 ∈ ab_tb) : GoodIn ab_tb (ab_ws Y) := by
  intro w hw
  have hm : w ∈ ab_tb := by
    rcases List.mem_cons.mp hw with rfl | h2
    · exact h
    · exact h2
  exact ⟨hm, good_of_word (List.mem_filter.mp hm).2⟩
theorem ab_E.mono {S : Type} {Rp : S → ab_S → Prop} {X : ab_M} {d pc : Nat} {lo : List (Nat × Value)} {st : List Value} {σ : S} {Q Q' : Option Value → S → Prop} (h : ab_E Rp X d pc lo st σ Q) (hq : ∀ r σ', Q r σ' → Q' r σ') : ab_E Rp X d pc lo st σ Q' := by
  intro g hg
  obtain ⟨r, g', σ', h1, h2, h3⟩ := h g hg
  exact ⟨r, g', σ', h1, h2, hq _ _ h3⟩
theorem ab_C.mono {S : Type} {Rp : S → ab_S → Prop} {d : Nat} {Y : ab_M} {av : List Value} {σ : S} {Q Q' : Option Value → S → Prop} (h : ab_C Rp d Y av σ Q) (hq : ∀ r σ', Q r σ' → Q' r σ') : ab_C Rp d Y av σ Q' := by
  intro g hg
  obtain ⟨r, g', σ', h1, h2, h3⟩ := h g hg
  exact ⟨r, g', σ', h1, h2, hq _ _ h3⟩
/-- a step that leaves the heap alone -/
theorem ab_E.go {S : Type} {Rp : S → ab_S → Prop} {X : ab_M} {d pc pc' : Nat} {lo lo' : List (Nat × Value)} {st st' : List Value} {σ : S} {Q : Option Value → S → Prop}
    (h : ∀ (l : Launch) (κ : ab_P) (p : Program) (e : Env) (R : Room) (s : State) (m : MethodId) (args : Array Value) (below : List Frame) (meth : Method) (c : Code) (H : Heap) (locs : List Loc) (cells slots : Nat) (Qq : State → Prop) (ls : Array Slot),
      ab_cx l X κ p s m args meth c → d ≤ R.frames → 40 * d ≤ R.locals → cells ≤ R.cells → slots ≤ R.slots → lv_has ls X.2.2.1 lo → (∀ ls', lv_has ls' X.2.2.1 lo' → W p l e R s m args below meth c H locs cells slots Qq (F0 m pc' ls' st')) → W p l e R s m args below meth c H locs cells slots Qq (F0 m pc ls st))
    (k : ab_E Rp X d pc' lo' st' σ Q) : ab_E Rp X d pc lo st σ Q := by
  intro g hg
  obtain ⟨r, g', σ', ⟨h1, h2, h3⟩, h4, h5⟩ := k g hg
  refine ⟨r, g', σ', ⟨h1, h2, ?_⟩, h4, h5⟩
  intro l κ p e R s m args below meth c c0 s0 H locs ls cx hd hl hc hs hc0 hs0 hH hS hlo
  exact h l κ p e R s m args below meth c H locs _ _ _ ls cx hd hl (by omega) (by omega) hlo (fun ls' hlo' => h3 l κ p e R s m args below meth c c0 s0 H locs ls' cx hd hl hc hs hc0 hs0 hH hS hlo')
theorem ab_C.of {S : Type} {Rp : S → ab_S → Prop} {d : Nat} {Y : ab_M} {av : List Value} {σ : S} {Q : Option Value → S → Prop} (hy : plainName Y.1.cls = true) (hn : (lg_sl av).length ≤ Y.2.2.1) (hE : ab_E Rp Y d 0 (lv_args 0 av) [] σ Q) : ab_C Rp d Y av σ Q := by
  intro g hg
  obtain ⟨r, g', σ', ⟨h1, h2, h3⟩, h4, h5⟩ := hE g hg
  refine ⟨r, g', σ', ⟨h1, h2, fun l κ => ?_⟩, h4, h5⟩
  refine Met.ofW (cc := Y.2.1) (maxL := Y.2.2.1) (ret := Y.2.2.2) hy rfl ?_
  intro p e s m args below meth c s₁ B hml hv
  obtain ⟨rfl, hK, hHs⟩ := hv
  have hts := atoms_spec (ws := ab_ws Y) B.pre
  have hl := lv_entry av (n := Y.2.2.1) hn
  rw [lg_entry_eq]
  have h6 := h3 l κ p e (headSpec (ab_ws Y) (ab_rm d (g'.2.2.1 - g.2.2.1) (g'.2.2.2.1 - g.2.2.2.1))).room s m av.toArray below meth c g.2.2.1 g.2.2.2.1 s.heap [] _ ⟨B.exec, B.bytes, hml, B.returns, B.notSynchronized, findClass_of_methodNamed B.named, (name_of_methodNamed B.named B.method).1, fun w hw => hts w (List.mem_cons_of_mem _ hw), hK⟩ (Nat.le_refl _) (Nat.le_refl _) rfl rfl (Nat.le_refl _) (Nat.le_refl _) hHs va_S.rf hl
  rw [Nat.sub_self, Nat.sub_self] at h6
  exact h6
/-- behind a call -/
theorem ab_back {p : Program} {l : Launch} {e : Env} {R : Room} {s : State} {m : MethodId} {args : Array Value} {below : List Frame} {meth : Method} {c : Code} {H : Heap} {locs : List Loc} {cells slots mc ms pc : Nat} {Q : State → Prop} {ls : Array Slot} {rest st0 : List Value} {a : Array Value} {κ : ab_P} {r : Option Value} {g1 : ab_S}
    (hr : va_Run p l e R s m args below meth c H locs cells slots mc ms (F0 m pc ls st0) rest (ab_Q κ r g1 a) κ.2.2.2.2) (hS : va_S κ.2.2.2.2 s.heap H locs)
    (kk : ∀ (H1 : Heap) (locs1 : List Loc), ab_Hs κ g1 H1 → va_S κ.2.2.2.2 s.heap H1 locs1 → W p l e R s m args below meth c H1 locs1 (cells + mc) (slots + ms) Q (F0 m (pc + 3) ls (r.toList ++ rest))) : W p l e R s m args below meth c H locs cells slots Q (F0 m pc ls st0) := by
  intro T hT X
  obtain ⟨v, st₀, t, T', L, h0, X', hL, e1, e2, ⟨hv, hh, hz, hk⟩, st⟩ := hr T hT X
  cases hv
  rw [h0] at hz hk
  obtain ⟨t2, a1, b1⟩ := kk T'.heap (locs ++ L) (by rw [e1]; exact hh)
    ⟨Nat.le_trans hS.1 (by rw [e1]; exact hz), fun q h1 h2 => by rw [e1, hk q (Nat.lt_of_lt_of_le h1 hS.1) h2]; exact hS.2.1 q h1 h2, fun q hq => by
      rcases List.mem_append.mp hq with h | h
      · exact hS.2.2 q h
      · exact hL q h⟩ T' rfl X'
  exact ⟨t2, st t2 a1, b1⟩
theorem ab_blind {l : Launch} {κ : ab_P} {g : ab_S} {av : List Value} : FrameBlind (ab_Pc l κ g av) := by
  intro a U gg mk q
  obtain ⟨q0, ⟨qK, qA, qN, q1, q2, q3, q4, q5, q6, q8⟩, q7⟩ := q
  refine ⟨q0, ⟨va_K.moved (u := U) (U := U.calling gg mk a) (Vm.Alike.refl U.vm) qK, qA, fun w hw => va_Nw.same (u := U) (U := U.calling gg mk a) (ab_nb_on w hw) rfl (qN w hw), va_AO.moved (u := U) (U := U.calling gg mk a) (Vm.Alike.refl U.vm) q1, va_AO.moved (u := U) (U := U.calling gg mk a) (Vm.Alike.refl U.vm) q2, fun x hx => vk_R.same (u := U) (U := U.calling gg mk a) rfl (q3 x hx), vk_S.moved (u := U) (U := U.calling gg mk a) (Vm.Alike.refl U.vm) q4, va_Z.moved (u := U) (U := U.calling gg mk a) (Vm.Alike.refl U.vm) q5, va_Zq.moved (u := U) (U := U.calling gg mk a) (Vm.Alike.refl U.vm) q6, q8.1, ⟨va_X.moved (u := U) (U := U.calling gg mk a) (Vm.Alike.refl U.vm) q8.2.1.1, q8.2.1.2⟩, q8.2.2.1, vx_Zq.moved (u := U) (U := U.calling gg mk a) (Vm.Alike.refl U.vm) q8.2.2.2.1, vx_Zq.moved (u := U) (U := U.calling gg mk a) (Vm.Alike.refl U.vm) q8.2.2.2.2⟩, q7⟩
theorem ab_Kmoved {l : Launch} {κ : ab_P} {s U : State} {H : Heap} {locs : List Loc} (hK : ab_K l κ s) (hS : va_S κ.2.2.2.2 s.heap H locs) (hU : U.heap = H) (hW : s.WarmedH U.vm) : ab_K l κ U := by
  obtain ⟨qK, qA, qN, q1, q2, q3, q4, q5, q6, q8⟩ := hK
  have hq : ∀ a : Nat, a < s.heap.size → ¬ κ.2.2.2.2 a → U.heap[a]? = s.heap[a]? := fun a h1 h2 => by rw [hU]; exact hS.2.1 a h1 h2
  exact ⟨va_K.moved hW.alike qK, fun q h => qA q (Nat.le_trans hS.1 (by rw [hU] at h; exact h)), fun w hw => ab_nb_warm hW w hw (qN w hw), va_AO.moved hW.alike q1, va_AO.moved hW.alike q2, fun x hx => vk_R.warm hW (q3 x hx), (vk_S.moved hW.alike q4).kept hq, (va_Z.moved hW.alike q5).kept hq, (va_Zq.moved hW.alike q6).kept hq, q8.1, ⟨(va_X.moved hW.alike q8.2.1.1).kept (hq _ q8.2.1.2.1 q8.2.1.2.2), Nat.lt_of_lt_of_le q8.2.1.2.1 (by rw [hU]; exact hS.1), q8.2.1.2.2⟩, q8.2.2.1, (vx_Zq.moved hW.alike q8.2.2.2.1).kept hq, (vx_Zq.moved hW.alike q8.2.2.2.2).kept hq⟩
theorem ab_pre {l : Launch} {κ : ab_P} {g : ab_S} {av : List Value} {s : State} {H : Heap} {locs : List Loc} (hK : ab_K l κ s) (hH : ab_Hs κ g H) (hS : va_S κ.2.2.2.2 s.heap H locs) : ∀ U : State, U.heap = H → s.WarmedH U.vm → ab_Pc l κ g av av.toArray U :=
  fun U hU hW => ⟨rfl, ab_Kmoved hK hS hU hW, by rw [hU]; exact hH⟩
/-- a call, by what the tables give of it at any state -/
theorem ab_E.call {S : Type} {Rp : S → ab_S → Prop} {X Y : ab_M} {d d' pc : Nat} {lo : List (Nat × Value)} {st0 rest av : List Value} {σ : S} {Q Q' : Option Value → S → Prop}
    (hC : ab_C Rp d' Y av σ Q')
    (hrun : ∀ (g : ab_S) (r : Option Value) (g1 : ab_S), Rp σ g → ab_Mt d' Y av g r g1 → ∀ (l : Launch) (κ : ab_P) (p : Program) (e : Env) (R : Room) (s : State) (m : MethodId) (args : Array Value) (below : List Frame) (meth : Method) (c : Code) (H : Heap) (locs : List Loc) (cells slots : Nat) (ls : Array Slot),
      ab_cx l X κ p s m args meth c → d ≤ R.frames → 40 * d ≤ R.locals → cells + (g1.2.2.1 - g.2.2.1) ≤ R.cells → slots + (g1.2.2.2.1 - g.2.2.2.1) ≤ R.slots → ab_Hs κ g H → va_S κ.2.2.2.2 s.heap H locs → lv_has ls X.2.2.1 lo →
      va_Run p l e R s m args below meth c H locs cells slots (g1.2.2.1 - g.2.2.1) (g1.2.2.2.1 - g.2.2.2.1) (F0 m pc ls st0) rest (ab_Q κ r g1 av.toArray) κ.2.2.2.2)
    (k : ∀ r σ', Q' r σ' → ab_E Rp X d (pc + 3) lo (r.toList ++ rest) σ' Q) : ab_E Rp X d pc lo st0 σ Q := by
  intro g hg
  obtain ⟨r1, g1, σ1, hM, hg1, hq1⟩ := hC g hg
  obtain ⟨r, g', σ', ⟨h1, h2, h3⟩, h4, h5⟩ := k r1 σ1 hq1 g1 hg1
  have hM1 := hM.1
  have hM2 := hM.2.1
  refine ⟨r, g', σ', ⟨Nat.le_trans hM1 h1, Nat.le_trans hM2 h2, ?_⟩, h4, h5⟩
  intro l κ p e R s m args below meth c c0 s0 H locs ls cx hd hl hc hs hc0 hs0 hH hS hlo
  refine ab_back (hrun g r1 g1 hg hM l κ p e R s m args below meth c H locs _ _ ls cx hd hl (by omega) (by omega) hH hS hlo) hS (fun H1 locs1 hH1 hS1 => ?_)
  refine W.cs (cells' := g1.2.2.1 - c0) (slots' := g1.2.2.2.1 - s0) (by omega) (by omega) ?_
  exact h3 l κ p e R s m args below meth c c0 s0 H1 locs1 ls cx hd hl hc hs (by omega) (by omega) hH1 hS1 hlo
