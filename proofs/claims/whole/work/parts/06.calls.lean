/-! calls -/
def ab_yD (Y : ab_M) (n : Nat) : Prop := Y.1.cls ≠ "java/lang/invoke/MethodHandle" ∧ Y.1.cls ≠ "java/lang/invoke/VarHandle" ∧ (parseMethodDescriptor Y.1.desc).map (fun d => d.parameters.length) = some n
def ab_yB (Y : ab_M) (n : Nat) : Prop := Cond.initialized Y.1.cls ∈ ab_tb ∧ Cond.code Y.1 Y.2.1 Y.2.2.1 Y.2.2.2 ∈ ab_tb ∧ Y.2.2.1 ≤ 21 ∧ ab_yD Y n
def ab_yV (Y : ab_M) (n : Nat) : Prop := ab_yB Y n ∧ Cond.instanceMethod Y.1 ∈ ab_tb ∧ Cond.selects Y.1.cls Y.1 Y.1 ∈ ab_tb
def ab_yS (Y : ab_M) (n : Nat) : Prop := ab_yB Y n ∧ Cond.static Y.1 ∈ ab_tb
def ab_yI (Y : ab_M) (n : Nat) : Prop := ab_yB Y n ∧ Cond.instanceMethod Y.1 ∈ ab_tb ∧ Y.1.name = "<init>" ∧ Y.2.2.2 = none
def ab_yU (x : MethodName) (Y : ab_M) (n : Nat) : Prop := ab_yB Y n ∧ Cond.instanceMethod Y.1 ∈ ab_tb ∧ Cond.sameMethod x.cls x.cls x.name x.desc ∈ ab_tb ∧ Cond.selects Y.1.cls x Y.1 ∈ ab_tb ∧ Cond.declares x ∈ ab_nb ∧ x.cls ≠ "java/lang/invoke/MethodHandle" ∧ x.cls ≠ "java/lang/invoke/VarHandle" ∧ (parseMethodDescriptor x.desc).map (fun d => d.parameters.length) = some n
theorem ab_gA {big a b : List Cond} (ha : ∀ w ∈ a, w ∈ big ∧ goodWord w = true) (hb : GoodIn big b) : GoodIn big (a ++ b) := fun w h => (List.mem_append.mp h).elim (fun h => ⟨(ha w h).1, good_of_word (ha w h).2⟩) (hb w)
theorem ab_gw {w : Cond} (h : w ∈ ab_tb) : w ∈ ab_tb ∧ goodWord w = true := ⟨h, (List.mem_filter.mp h).2⟩
/-- an object of a class stands there, whatever the picture's cells are -/
def ab_is {S : Type} (Rp : S → ab_S → Prop) (σ : S) (a : Nat) (C : String) : Prop := ∀ g, Rp σ g → ∃ (ci : Nat) (fs : List Value) (T : u_T) (N : Nat), g.1 a = some (.inr (ci, fs)) ∧ vwCl[ci]? = some (C, T, N)
section ABC
variable {S : Type} {Rp : S → ab_S → Prop} {X Y : ab_M} {d d' pc idx n a : Nat} {lo : List (Nat × Value)} {st0 rest As : List Value} {σ : S} {Q Q' : Option Value → S → Prop}
theorem r_callV (hd : decode X.2.1 pc = .ok (.invokevirtual idx, 3)) (hw : Cond.methodLink X.1.cls idx Y.1 ∈ ab_tb) (y : ab_yV Y n) (hdd : d' + 1 ≤ d) (hn : As.length = n) (hst : st0 = As.reverse ++ .ref a :: rest) (hr : (rest.map fun v => v.category).sum ≤ 8) (hcl : ab_is Rp σ a Y.1.cls) (hC : ab_C Rp d' Y (.ref a :: As) σ Q')
    (k : ∀ r σ', Q' r σ' → ab_E Rp X d (pc + 3) lo (r.toList ++ rest) σ' Q) : ab_E Rp X d pc lo st0 σ Q := by
  refine ab_E.call hC ?_ k
  intro g r g1 hg hM l κ p e R s m args below meth c H locs cells slots ls cx hf hlc hcc hss hH hS hlo
  obtain ⟨ci, fs, T, N, he, hci⟩ := hcl g hg
  obtain ⟨⟨yi, yc, ym, yd⟩, y1, y2⟩ := y
  have hts := cx.2.2.2.2.2.2.2.1
  exact va_runV (As := As) (rest := rest) ⟨cx.1, cx.2.1, cx.2.2.1, cx.2.2.2.2.2.1, hts⟩ (hM.2.2 l κ) (cwV (rm := ab_rm d' (g1.2.2.1 - g.2.2.1) (g1.2.2.2.1 - g.2.2.2.1)) n hts (ab_gA (by
      intro w h
      simp only [List.mem_cons, List.not_mem_nil, or_false] at h
      rcases h with rfl | rfl | rfl | rfl
      · exact ab_gw hw
      · exact ab_gw y1
      · exact ab_gw y2
      · exact ab_gw yi) (ab_gi yc)) rfl rfl rfl ⟨rfl, yd⟩ ⟨Nat.le_trans hdd hf, by show 8 + (Y.2.2.1 + 11) + 40 * d' ≤ R.locals; omega⟩) ⟨ab_blind, va_recv cx.2.2.2.2.2.2.2.2.1 (hH.P he) (ci := ci) (q0 := 0) hci rfl, ab_pre cx.2.2.2.2.2.2.2.2 hH hS⟩ rfl hn hlo.1 hst (lv_room hr) hd ⟨hcc, hss⟩
theorem r_callU {x : MethodName} (hd : decode X.2.1 pc = .ok (.invokevirtual idx, 3)) (hw : Cond.methodLink X.1.cls idx x ∈ ab_tb) (y : ab_yU x Y n) (hdd : d' + 1 ≤ d) (hn : As.length = n) (hst : st0 = As.reverse ++ .ref a :: rest) (hr : (rest.map fun v => v.category).sum ≤ 8) (hcl : ab_is Rp σ a Y.1.cls) (hC : ab_C Rp d' Y (.ref a :: As) σ Q')
    (k : ∀ r σ', Q' r σ' → ab_E Rp X d (pc + 3) lo (r.toList ++ rest) σ' Q) : ab_E Rp X d pc lo st0 σ Q := by
  refine ab_E.call hC ?_ k
  intro g r g1 hg hM l κ p e R s m args below meth c H locs cells slots ls cx hf hlc hcc hss hH hS hlo
  obtain ⟨ci, fs, T, N, he, hci⟩ := hcl g hg
  obtain ⟨⟨yi, yc, ym, -⟩, y1, y2, y3, y4, yd⟩ := y
  have hts := cx.2.2.2.2.2.2.2.1
  exact va_runU (As := As) (rest := rest) (x := x) (owner := x.cls) ⟨cx.1, cx.2.1, cx.2.2.1, cx.2.2.2.2.2.1, hts⟩ (hM.2.2 l κ) (va_cwA (rm := ab_rm d' (g1.2.2.1 - g.2.2.1) (g1.2.2.2.1 - g.2.2.2.1)) n hts (ab_gA (by
      intro w h
      simp only [List.mem_cons, List.not_mem_nil, or_false] at h
      rcases h with rfl | rfl | rfl | rfl | rfl
      · exact ab_gw hw
      · exact ab_gw y2
      · exact ab_gw y3
      · exact ab_gw y1
      · exact ab_gw yi) (ab_gi yc)) rfl rfl rfl (cx.2.2.2.2.2.2.2.2.2.2.1 _ y4) yd ⟨Nat.le_trans hdd hf, by show 8 + (Y.2.2.1 + 11) + 40 * d' ≤ R.locals; omega⟩) ⟨ab_blind, va_recv cx.2.2.2.2.2.2.2.2.1 (hH.P he) (ci := ci) (q0 := 0) hci rfl, ab_pre cx.2.2.2.2.2.2.2.2 hH hS⟩ rfl hn hlo.1 hst (lv_room hr) hd ⟨hcc, hss⟩
theorem r_callS (hd : decode X.2.1 pc = .ok (.invokestatic idx, 3)) (hw : Cond.methodLink X.1.cls idx Y.1 ∈ ab_tb) (y : ab_yS Y n) (hdd : d' + 1 ≤ d) (hn : As.length = n) (hst : st0 = As.reverse ++ rest) (hr : (rest.map fun v => v.category).sum ≤ 8) (hC : ab_C Rp d' Y As σ Q')
    (k : ∀ r σ', Q' r σ' → ab_E Rp X d (pc + 3) lo (r.toList ++ rest) σ' Q) : ab_E Rp X d pc lo st0 σ Q := by
  refine ab_E.call hC ?_ k
  intro g r g1 hg hM l κ p e R s m args below meth c H locs cells slots ls cx hf hlc hcc hss hH hS hlo
  obtain ⟨⟨yi, yc, ym, yd⟩, y1⟩ := y
  have hts := cx.2.2.2.2.2.2.2.1
  exact va_runS (As := As) (rest := rest) ⟨cx.1, cx.2.1, cx.2.2.1, cx.2.2.2.2.2.1, hts⟩ (hM.2.2 l κ) (va_cwS (rm := ab_rm d' (g1.2.2.1 - g.2.2.1) (g1.2.2.2.1 - g.2.2.2.1)) n hts (ab_gA (by
      intro w h
      simp only [List.mem_cons, List.not_mem_nil, or_false] at h
      rcases h with rfl | rfl | rfl
      · exact ab_gw hw
      · exact ab_gw y1
      · exact ab_gw yi) (ab_gi yc)) rfl rfl rfl yd ⟨Nat.le_trans hdd hf, by show 8 + (Y.2.2.1 + 11) + 40 * d' ≤ R.locals; omega⟩) ⟨ab_blind, ab_pre cx.2.2.2.2.2.2.2.2 hH hS⟩ rfl hn hlo.1 hst (lv_room hr) hd ⟨hcc, hss⟩
theorem r_callSN {host : String} (hd : decode X.2.1 pc = .ok (.invokestatic idx, 3)) (hw : Cond.methodLinkNest X.1.cls idx Y.1 host ∈ ab_nb) (y : ab_yS Y n) (hdd : d' + 1 ≤ d) (hn : As.length = n) (hst : st0 = As.reverse ++ rest) (hr : (rest.map fun v => v.category).sum ≤ 8) (hC : ab_C Rp d' Y As σ Q')
    (k : ∀ r σ', Q' r σ' → ab_E Rp X d (pc + 3) lo (r.toList ++ rest) σ' Q) : ab_E Rp X d pc lo st0 σ Q := by
  refine ab_E.call hC ?_ k
  intro g r g1 hg hM l κ p e R s m args below meth c H locs cells slots ls cx hf hlc hcc hss hH hS hlo
  obtain ⟨⟨yi, yc, ym, yd⟩, y1⟩ := y
  have hts := cx.2.2.2.2.2.2.2.1
  exact va_runSN (As := As) (rest := rest) (host := host) ⟨cx.1, cx.2.1, cx.2.2.1, cx.2.2.2.2.2.1, hts⟩ (hM.2.2 l κ) ⟨va_cnB (rm := ab_rm d' (g1.2.2.1 - g.2.2.1) (g1.2.2.2.1 - g.2.2.2.1)) n hts (ab_gi yc) rfl rfl rfl (cx.2.2.2.2.2.2.2.2.2.2.1 _ hw) (hts _ yi) yd ⟨Nat.le_trans hdd hf, by show 8 + (Y.2.2.1 + 11) + 40 * d' ≤ R.locals; omega⟩, hts _ y1, trivial⟩ ⟨ab_blind, ab_pre cx.2.2.2.2.2.2.2.2 hH hS⟩ rfl hn hlo.1 hst (lv_room hr) hd ⟨hcc, hss⟩
theorem r_callI (hd : decode X.2.1 pc = .ok (.invokespecial idx, 3)) (hw : Cond.methodLink X.1.cls idx Y.1 ∈ ab_tb) (y : ab_yI Y n) (hdd : d' + 1 ≤ d) (hn : As.length = n) (hst : st0 = As.reverse ++ .ref a :: rest) (hr : (rest.map fun v => v.category).sum ≤ 8) (hC : ab_C Rp d' Y (.ref a :: As) σ Q')
    (k : ∀ r σ', Q' r σ' → ab_E Rp X d (pc + 3) lo (r.toList ++ rest) σ' Q) : ab_E Rp X d pc lo st0 σ Q := by
  refine ab_E.call hC ?_ k
  intro g r g1 hg hM l κ p e R s m args below meth c H locs cells slots ls cx hf hlc hcc hss hH hS hlo
  obtain ⟨⟨yi, yc, ym, yd⟩, y1, y2, y3⟩ := y
  have hts := cx.2.2.2.2.2.2.2.1
  exact va_runI (As := As) (rest := rest) ⟨cx.1, cx.2.1, cx.2.2.1, cx.2.2.2.2.2.1, hts⟩ (hM.2.2 l κ) (cwI (rm := ab_rm d' (g1.2.2.1 - g.2.2.1) (g1.2.2.2.1 - g.2.2.2.1)) n hts (ab_gi yc) (by unfold ab_ws; rw [y3]) rfl rfl (hts _ yi) (hts _ hw) (hts _ y1) y2 yd ⟨Nat.le_trans hdd hf, by show 8 + (Y.2.2.1 + 11) + 40 * d' ≤ R.locals; omega⟩) ⟨ab_blind, ab_pre cx.2.2.2.2.2.2.2.2 hH hS⟩ rfl hn hlo.1 hst (lv_room hr) hd ⟨hcc, hss⟩
theorem r_callIN {host : String} (hd : decode X.2.1 pc = .ok (.invokespecial idx, 3)) (hw : Cond.methodLinkNest X.1.cls idx Y.1 host ∈ ab_nb) (y : ab_yI Y n) (hdd : d' + 1 ≤ d) (hn : As.length = n) (hst : st0 = As.reverse ++ .ref a :: rest) (hr : (rest.map fun v => v.category).sum ≤ 8) (hC : ab_C Rp d' Y (.ref a :: As) σ Q')
    (k : ∀ r σ', Q' r σ' → ab_E Rp X d (pc + 3) lo (r.toList ++ rest) σ' Q) : ab_E Rp X d pc lo st0 σ Q := by
  refine ab_E.call hC ?_ k
  intro g r g1 hg hM l κ p e R s m args below meth c H locs cells slots ls cx hf hlc hcc hss hH hS hlo
  obtain ⟨⟨yi, yc, ym, yd⟩, y1, y2, y3⟩ := y
  have hts := cx.2.2.2.2.2.2.2.1
  exact va_runIN (As := As) (rest := rest) (host := host) ⟨cx.1, cx.2.1, cx.2.2.1, cx.2.2.2.2.2.1, hts⟩ (hM.2.2 l κ) ⟨va_cnB (rm := ab_rm d' (g1.2.2.1 - g.2.2.1) (g1.2.2.2.1 - g.2.2.2.1)) n hts (ab_gi yc) (by unfold ab_ws; rw [y3]) rfl rfl (cx.2.2.2.2.2.2.2.2.2.2.1 _ hw) (hts _ yi) yd ⟨Nat.le_trans hdd hf, by show 8 + (Y.2.2.1 + 11) + 40 * d' ≤ R.locals; omega⟩, y2, hts _ y1⟩ ⟨ab_blind, ab_pre cx.2.2.2.2.2.2.2.2 hH hS⟩ rfl hn hlo.1 hst (lv_room hr) hd ⟨hcc, hss⟩
/-- Object's constructor -/
theorem r_obj (hd : decode X.2.1 pc = .ok (.invokespecial idx, 3)) (h0 : 1 ≤ d) (hw : Cond.methodLink X.1.cls idx Lib.objectInit ∈ ab_tb) (hi : Cond.instanceMethod Lib.objectInit ∈ ab_tb) (hc : Cond.code Lib.objectInit ⟨#[0xb1]⟩ 1 none ∈ ab_tb) (hr : (rest.map fun v => v.category).sum ≤ 8) (K : ab_E Rp X d (pc + 3) lo rest σ Q) : ab_E Rp X d pc lo (.ref a :: rest) σ Q :=
  ab_E.go (fun l κ p e R s m args below meth c H locs cells slots Qq ls cx hdd hll hcc hss hl kk => W.objInit cx.1 cx.2.1 cx.2.2.2.2.2.1 (cx.2.2.2.2.2.2.2.1 _ hw) (cx.2.2.2.2.2.2.2.1 _ hi) (cx.2.2.2.2.2.2.2.1 _ hc) rfl (hl.1.trans cx.2.2.1.symm) rfl hd (Nat.le_trans h0 hdd) (by have := lv_room (m := m) (pc := pc) (ls := ls) (rest := .ref a :: rest) hr; omega) (kk ls hl)) K
end ABC
/-- a step of the heap, by what it does to the cells behind the picture -/
theorem ab_E.hp {S : Type} {Rp : S → ab_S → Prop} {X : ab_M} {d pc pc' : Nat} {lo lo' : List (Nat × Value)} {st st' : List Value} {σ σ2 : S} {Q : Option Value → S → Prop}
    (h : ∀ g, Rp σ g → ∃ g2, Rp σ2 g2 ∧ ∀ r g', ab_R X d pc' lo' st' g2 r g' → ab_R X d pc lo st g r g') (k : ab_E Rp X d pc' lo' st' σ2 Q) : ab_E Rp X d pc lo st σ Q := by
  intro g hg
  obtain ⟨g2, hg2, hR⟩ := h g hg
  obtain ⟨r, g', σ', h1, h2, h3⟩ := k g2 hg2
  exact ⟨r, g', σ', hR r g' h1, h2, h3⟩
