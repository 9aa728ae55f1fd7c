/-! the law: from its entry to its loop; the claim -/
def gC (b : Nat) (kk : Nat → Nat) (σ : cS) : ab_S := (hC b σ.1, b + σ.1.length, σ.2.1, σ.2.2, kk)
theorem pC_I {b : Nat} {kk : Nat → Nat} {d : Nat} {Y : ab_M} {av : List Value} {σ τ : cS} {r : Option Value} (h : ab_X (pC b kk) d Y av σ r τ) : ab_X ab_I d Y av (gC b kk σ) r (gC b kk τ) := by
  intro g hg
  cases hg
  obtain ⟨r1, g', σ', h1, h2, h3, h4⟩ := h (gC b kk σ) rfl
  subst h4
  exact ⟨r1, g', g', h1, rfl, h3, h2⟩
theorem i_new {b : Nat} {kk : Nat → Nat} {X : ab_M} {d pc idx ci N : Nat} {lo : List (Nat × Value)} {st : List Value} {σ : cS} {Q : Option Value → ab_S → Prop} {C : String} {T : u_T} {ty : Nat → FieldType} {fs : List Nat} (O : ab_ok ci C T N ty) (hd : decode X.2.1 pc = .ok (.new idx, 3)) (hcl : Cond.classLink X.1.cls idx C ∈ ab_tb) (hin : Cond.instantiable C N ∈ ab_tb) (hini : Cond.initialized C ∈ ab_tb) (hfs : ∀ j, j < N → defaultValue (ty j) = vp_V (fs.map (vd b)) j) (K : ab_E ab_I X d (pc + 3) lo (.ref (b + σ.1.length) :: st) (gC b kk (cNew ci N fs σ)) Q) : ab_E ab_I X d pc lo st (gC b kk σ) Q :=
  ab_E.hp (fun g hg => ⟨gC b kk (cNew ci N fs σ), rfl, fun r g' h => by
    cases hg
    refine ab_R.new (fs := fs.map (vd b)) O hd hcl hin hini hfs ?_
    show ab_R X d (pc + 3) lo (.ref (b + σ.1.length) :: st) (ab_up (hC b σ.1) (b + σ.1.length) (.inr (ci, fs.map (vd b))), b + σ.1.length + 1, σ.2.1 + 1, σ.2.2 + N, kk) r g'
    rw [hC_push (b := b) (L := σ.1) (c := (0, ci, fs)) (e := .inr (ci, fs.map (vd b))) rfl]
    have e : gC b kk (cNew ci N fs σ) = (hC b (σ.1 ++ [(0, ci, fs)]), b + σ.1.length + 1, σ.2.1 + 1, σ.2.2 + N, kk) := by
      show (_, b + (σ.1 ++ [(0, ci, fs)]).length, _, _, _) = _
      rw [List.length_append]
      rfl
    rw [e] at h
    exact h⟩) K
theorem i_newL {b : Nat} {kk : Nat → Nat} {X : ab_M} {d pc : Nat} {lo : List (Nat × Value)} {st : List Value} {σ : cS} {Q : Option Value → ab_S → Prop} (hd : decode X.2.1 pc = .ok (.newarray .long, 2)) (K : ab_E ab_I X d (pc + 2) lo (.ref (b + σ.1.length) :: st) (gC b kk (cArr 2 1 [] σ)) Q) : ab_E ab_I X d pc lo (.int 1 :: st) (gC b kk σ) Q :=
  ab_E.hp (fun g hg => ⟨gC b kk (cArr 2 1 [] σ), rfl, fun r g' h => by
    cases hg
    refine ab_R.newa (at0 := .long) (t0 := 1) (ty := .long) (N := 1) (a0 := (1, .inr (.inl (fun _ => 0)))) rfl hd ac_long (fun _ => rfl) (fun _ _ q => q) (fun cA => by rw [vp_cell_l]; rfl) (by decide) (by decide) (by decide) ?_
    show ab_R X d (pc + 2) lo (.ref (b + σ.1.length) :: st) (ab_up (hC b σ.1) (b + σ.1.length) (.inl (1, 1, .inr (.inl (fun _ => 0)))), b + σ.1.length + 1, σ.2.1 + 1, σ.2.2 + 1, kk) r g'
    rw [hC_push (b := b) (L := σ.1) (c := (2, 1, [])) (e := .inl (1, 1, .inr (.inl (fun _ => 0)))) rfl]
    have e : gC b kk (cArr 2 1 [] σ) = (hC b (σ.1 ++ [(2, 1, [])]), b + σ.1.length + 1, σ.2.1 + 1, σ.2.2 + 1, kk) := by
      show (_, b + (σ.1 ++ [(2, 1, [])]).length, _, _, _) = _
      rw [List.length_append]
      rfl
    rw [e] at h
    exact h⟩) K
theorem i_sw {b : Nat} {kk ad : Nat → Nat} {X : ab_M} {d pc : Nat} {lo : List (Nat × Value)} {st : List Value} {σ : cS} {s0 : sS} {Q : Option Value → sS → Prop} (hs : ∀ g, pC b kk σ g → sR ad s0 g) (K : ab_E (sR ad) X d pc lo st s0 Q) : ab_E ab_I X d pc lo st (gC b kk σ) (fun r g' => ∃ σ', sR ad σ' g' ∧ Q r σ') := by
  intro g hg
  cases hg
  obtain ⟨r, g', σ', h1, h2, h3⟩ := K _ (hs _ rfl)
  exact ⟨r, g', g', h1, rfl, σ', h2, h3⟩
/-- the law's end: its room is counted up to the claim's -/
def lawK (σ : sS) : Option (Int32 × sS) := if (vk σ).1 ≤ 601024 ∧ (vk σ).2 ≤ 7293034 then some (1, uW σ 601024 7293034) else none
/-- the pure part -/
theorem law_pure (sn : Nat) (sq : Nat → Int32) (hn : sn ≤ 3072) : ∃ (F : Nat) (z : Int32 × sS), L_L_law_23 F sn sq lawK F 0 s00 = some z ∧ z.1 = 1 ∧ vk z.2 = (601024, 7293034) := by
  obtain ⟨b, A, σ, e1, e2, e3, e4⟩ := lw_loop (F := 40000001) (sq := sq) (kx := lawK) (by omega) hn (sn / 6) 0 40000001 (143, 316186) A00 s00 (by omega) (by omega) (by omega) s0_lw
  obtain ⟨r1, r2⟩ := lw_room e2
  have e3' : b.1 ≤ 143 + sn / 6 := e3
  have e4' : b.2 ≤ 316186 + 6 * (sn / 6) := e4
  refine ⟨40000001, (1, uW σ 601024 7293034), e1.trans ?_, rfl, rfl⟩
  unfold lawK
  rw [if_pos ⟨by omega, by omega⟩]
theorem e_law {ad : Nat → Nat} {sn : Nat} {sq : Nat → Int32} (hsn : ad 1201 = sn) (hsq : ∀ j, Int32.ofNat (ad (2200 + j)) = sq j) (hn : sn ≤ 3072) : ab_E (sR ad) mL_law 14 23 [(4, .int 0), (0, .ref (ad 1200)), (1, .ref (ad 0)), (2, .ref (ad 90)), (3, .ref (ad 80))] [] s00 (fun r9 σ9 => r9 = some (.int 1) ∧ vk σ9 = (601024, 7293034)) := by
  obtain ⟨F, z, h1, h2, h3⟩ := law_pure sn sq hn
  refine ab_E.mono (l_L_law_23 (z := z) hsn hsq (kx := lawK) (fun σ hk => ?_) F 0 s00 h1) (fun r σ' q => ?_)
  · unfold lawK at hk
    by_cases hc : (vk σ).1 ≤ 601024 ∧ (vk σ).2 ≤ 7293034
    · rw [if_pos hc] at hk
      refine r_wid hc.1 hc.2 ?_
      refine r_iconst (v := 1) dL_law_1484 (by decide) ?_
      refine r_zret rfl (by decide) dL_law_1485 ?_
      exact lfI hk
    · rw [if_neg hc] at hk; cases hk
  · obtain ⟨q1, q2⟩ := q
    rw [q1, q2, h2]
    exact ⟨rfl, h3⟩
theorem e_start {b0 b L : Nat} {kk : Nat → Nat} {xs : Nat → Int32} (hL : L ≤ 3072) (hb : kk 1000 = b) (hl : kk 1001 = L) (hx : ∀ j, Int32.ofNat (kk (2000 + j)) = xs j) : ab_E ab_I mL_law 14 0 [(0, .ref b)] [] (gC b0 kk ([], 0, 0)) (fun r g' => ∃ σ', sR (ad0 b0 kk) σ' g' ∧ r = some (.int 1) ∧ vk σ' = (601024, 7293034)) := by
  obtain ⟨Lf, e1, e2, e3⟩ := c_fin_ok
  unfold c_fin at e1
  obtain ⟨σ1, f1, e1⟩ := bd_at e1
  obtain ⟨σ2, f2, e1⟩ := bd_at e1
  have hm : σ1.1.length = 104 := by
    have h : (match C_X11_init 0 (cNew 10 12 [1, 1, 1, 1, 1, 1, 1, 1, 1, 0, 0, 0] ([], 0, 0)) with | none => false | some x => decide (x.1.length = 104)) = true := by decide +kernel
    rw [f1] at h
    exact of_decide_eq_true h
  have ho : σ2.1.length = 142 := by
    have e4 : (cArr 2 1 [] σ2).1.length = 143 := by rw [Option.some.inj e1]; exact e2
    have e5 : (cArr 2 1 [] σ2).1.length = σ2.1.length + 1 := by
      show (σ2.1 ++ [_]).length = _
      rw [List.length_append]
      rfl
    omega
  have hd := (Option.some.inj e1)
  refine i_new (fs := [1, 1, 1, 1, 1, 1, 1, 1, 1, 0, 0, 0]) ok_X11 dL_law_0 cl_L_8 in_X11 wi_X11 df_X11 ?_
  refine r_dup dL_law_3 rfl ?_
  refine x_callI0 (Y := mX11_init) (d' := 5) dL_law_4 ml_L_15 yi_X11_init (by omega) rfl rfl (by simp [Value.category]) (pC_I (lC_X11_init f1)) ?_
  refine r_astore_n (lo' := [(1, .ref (b0 + 0)), (0, .ref b)]) dL_law_7 (by decide) rfl ?_
  refine i_new (fs := [0, 0, 0, 1, 0, 0, 0, 0, 0, 0, 0, 0, 0, 2, 1, 1, 1, 1, 1, 0, 0, 0, 0, 1, 1, 1, 1, 1, 1, 1, 1, 1, 0, 0, 0, 0, 1, 0, 0, 1, 1, 0, 0, 1, 1, 1, 1, 0, 0, 1, 1, 1, 1, 0, 1, 1, 1, 1, 1, 1, 1, 0, 0, 0, 1, 1, 1, 1, 0, 0, 0, 0]) ok_X12 dL_law_8 cl_L_16 in_X12 wi_X12 df_X12 ?_
  rw [hm]
  refine r_dup dL_law_11 rfl ?_
  refine x_callI0 (Y := mX12_init) (d' := 2) dL_law_12 ml_L_18 yi_X12_init (by omega) rfl rfl (by simp [Value.category]) (pC_I (lC_X12_init f2)) ?_
  refine r_astore_n (lo' := [(2, .ref (b0 + 104)), (1, .ref (b0 + 0)), (0, .ref b)]) dL_law_15 (by decide) rfl ?_
  refine r_iconst (v := 1) dL_law_16 (by decide) ?_
  refine i_newL dL_law_17 ?_
  rw [ho, hd]
  refine r_astore_n (lo' := [(3, .ref (b0 + 142)), (2, .ref (b0 + 104)), (1, .ref (b0 + 0)), (0, .ref b)]) dL_law_19 (by decide) rfl ?_
  refine r_iconst (v := 0) dL_law_20 (by decide) ?_
  refine r_istore (lo' := [(4, .int 0), (3, .ref (b0 + 142)), (2, .ref (b0 + 104)), (1, .ref (b0 + 0)), (0, .ref b)]) dL_law_21 (by decide) rfl ?_
  refine i_sw (ad := ad0 b0 kk) (s0 := s00) (fun g hg => fin_sR e2 e3 hg) ?_
  have h := e_law (ad := ad0 b0 kk) (sn := L) (sq := xs) hl (fun j => by
    have e : ad0 b0 kk (2200 + j) = kk (2000 + j) := by
      unfold ad0
      rw [if_neg (by omega), show 2200 + j - 200 = 2000 + j by omega]
    rw [e]
    exact hx j) hL
  have g0 : ad0 b0 kk 1200 = b := hb
  rw [g0] at h
  exact ab_E.lo [0, 4, 3, 2, 1] rfl h
/-- from the entry, for every script of at most 3072 ints, the law comes to its end with true -/
theorem whole_start {p : Program} {e : Env} {s : State} {m : MethodId} {below : List Frame} {meth : Method} {c : Code} (l : Launch) (hflags : l.flags = flags0) {b L : Nat} {xs : Nat → Int32} (hL : L ≤ 3072) (hname : meth.name = x.name) (C0 : lw_At p s m meth c b L xs) : W p l e room_1 s m #[Value.ref b] below meth c s.heap [] 0 0 (lw_Z below #[Value.ref b] s) (entryFrame m ([Value.ref b] : List Value).toArray 7) := by
  obtain ⟨κ, hK, kA, kb, kL, kx⟩ := start_K l hflags C0
  obtain ⟨hx, hb, hr, hml, hown, hts, hX, hbl, hlocks, hgv⟩ := id C0
  obtain ⟨r, g', g2, ⟨h1, h2, h3⟩, h4, σ', h5, h6, h7⟩ := e_start (b0 := s.heap.size) hL kb kL kx (gC s.heap.size κ.2.2.1 ([], 0, 0)) rfl
  have hg' : g'.2.2.1 = 601024 ∧ g'.2.2.2.1 = 7293034 := by
    cases h4
    obtain ⟨ar, q1, q2, q3, q4, q5, q6, q7, q8⟩ := h5
    rw [h7] at q7
    exact ⟨congrArg Prod.fst q7, congrArg Prod.snd q7⟩
  have hl := lv_entry ([.ref b]) (n := 7) (Nat.le_of_ble_eq_true rfl)
  rw [lg_entry_eq]
  have hH : ab_Hs κ (gC s.heap.size κ.2.2.1 ([], 0, 0)) s.heap := ⟨rfl, rfl, fun a x hax => by
    have hax : hC s.heap.size [] a = some x := hax
    unfold hC at hax
    split at hax
    · cases hax
    · cases hax⟩
  have hw := h3 l κ p e room_1 s m #[Value.ref b] below meth c 0 0 s.heap [] _ ⟨hx, hb, hml, hr, hlocks, hown, hname, fun w hw => hts w (List.mem_filter.mp hw).1, hK⟩ (by decide) (by decide) (by rw [hg'.1]; rfl) (by rw [hg'.2]; rfl) (Nat.le_refl _) (Nat.le_refl _) hH va_S.rf hl
  intro T hT X
  obtain ⟨t, a1, o, b1, b2, b3, Ls, b4, b5⟩ := hw T hT X
  obtain ⟨c1, c2, c3⟩ := b4
  have c4 := c3.weaken (l' := []) (fun y hy hlt => absurd hlt (Nat.not_lt.mpr (by have := b5 y hy; rw [kA] at this; exact this))) (Nat.le_refl _) (Nat.le_refl _)
  rw [hg'.1, hg'.2] at c4
  refine ⟨t, a1, o, b1, b2, ?_, c1, c2, c4⟩
  rw [b3.1, h6]
set_option maxHeartbeats 4000000 in
theorem lw_walk (l : Launch) (hflags : l.flags = flags0) (b : Addr) (xs : List Int32) : MetFree l x (headSpec (Jvm.Cond.code x code maxLocals ret :: tables_1) room_1) (lw_P b xs) (fun _ _ _ _ _ => True) lw_Q := by
  refine MetFree.of_bodyS (code := code) (maxLocals := maxLocals) (ret := ret) (by decide) ?_ ?_
  · intro args s m h hn
    obtain ⟨meth, c, h1, h2, h3, h4, h5, h6, -, -⟩ := Cond.code_spec hn (atoms_spec (ws := Jvm.Cond.code x code maxLocals ret :: tables_1) h _ List.mem_cons_self)
    exact ⟨meth, c, h1, h2, h3, h4, h5, h6⟩
  · intro p e s m args below meth c s₁ B hml0 hP _
    obtain ⟨rfl, hx, hbd, hgv⟩ := hP
    obtain ⟨scr, harrAt, hlist, hof, hsmall⟩ := hx
    obtain ⟨hcb, hkn, -, -⟩ := State.arrayAt?_spec harrAt
    have hown : s.vm.findClass R_law = some m.cls := findClass_of_methodNamed B.named
    have hts0 : ∀ c ∈ (Jvm.Cond.code x code maxLocals ret :: tables_1), c.before #[Value.ref b] s = true := atoms_spec (ws := Jvm.Cond.code x code maxLocals ret :: tables_1) B.pre
    have hts : ∀ w ∈ lw_tbl, w.before #[Value.ref b] s = true := k2_hts_sels lw_privs (fun w hw => hts0 w (List.mem_cons_of_mem _ hw)) lw_privs_ok
    have hml : c.maxLocals = 7 := B.maxLocals_eq (hts0 _ List.mem_cons_self)
    have X₀ : Stand p l e room_1 s m #[Value.ref b] below meth c s₁ [] 0 0 := Stand.of_body B
    have hh0 : s₁.heap = s.heap := by rw [B.state]; rfl
    have hsz : scr.slots.size = xs.length := by rw [← Array.length_toList, hlist, List.length_map]
    have hval : ∀ j : Nat, j < xs.length → scr.slots[j]? = some (.int (xs.getD j 0)) := fun j hj => by
      rw [← Array.getElem?_toList, hlist]
      simp [hj]
    have hbl : b < s.heap.size := (Array.getElem?_eq_some_iff.mp hcb).1
    have hX : va_X b xs.length (fun j => xs.getD j 0) s s.heap := ⟨scr, hcb, hof, hkn, hsz, hval⟩
    have K : W p l e room_1 s m #[Value.ref b] below meth c s₁.heap [] 0 0 (lw_Z below #[Value.ref b] s) (entryFrame m ([Value.ref b] : List Value).toArray 7) := by
      rw [hh0]
      exact whole_start l hflags hbd (name_of_methodNamed B.named B.method).1 ⟨B.exec, B.bytes, B.returns, hml, hown, hts, hX, hbl, B.notSynchronized, hgv⟩
    obtain ⟨t, a1, o, b1, b2, b3⟩ := K s₁ rfl X₀
    exact ⟨t, o, a1, b1, b2, b3⟩
theorem lw_pre_spec {args : Array Value} {s : State} (h : (Jvm.Cond.and given_1 narrow_1).before args s = true) (hr : rest_1_c.before args s = true) : ∃ (b : Addr) (xs : List Int32), lw_P b xs args s := by
  have hs := flat_of_before _ h
  have hq := flat_of_before _ hr
  have hc : (Cond.count 1).before args s = true := hs _ (by decide +kernel)
  have harr : (Cond.arrayOf (.arg 0) .int).before args s = true := hs _ (by decide +kernel)
  have hle : (Cond.le (.length (.arg 0)) (.int 3072)).before args s = true := hs _ (by decide +kernel)
  have hlen : (Cond.isInt (.length (.arg 0))).before args s = true := hq _ (by decide +kernel)
  have hall : (Cond.all (.arg 0) (.isInt (.elem (.arg 0) (.index 0)))).before args s = true := hq _ (by decide +kernel)
  obtain ⟨b, xs, hb, hx⟩ := State.ints_of_pre rfl harr hlen hall
  have hsm : xs.length < 2 ^ 31 := hx.choose_spec.2.2.2
  have hev : (Term.length (.arg 0)).eval args s none [] s = some (.int xs.length.toInt32) := hx.length_eval hb
  have hv := Cond.le_ints hev (show (Term.int 3072).eval args s none [] s = some (.int 3072) from rfl)
  have hd : xs.length.toInt32 ≤ 3072 := by
    simpa [Cond.before, Cond.holds, hv] using hle
  have hN : xs.length ≤ 3072 := (Int32.ofNat_le_ofNat hsm (by decide)).mp (show Int32.ofNat xs.length ≤ Int32.ofNat 3072 from hd)
  exact ⟨b, xs, Cond.one_arg hc (show args[0]? = some (.ref b) from hb), hx, hN, h⟩
theorem lw_comes (l : Launch) (hflags : l.flags = flags0) : Comes l x (Jvm.Cond.code x code maxLocals ret :: tables_1) room_1 (fun tb e args s => Calls_1 tb e args s ∧ rest_1 tb e args s ∧ Pre_1 tb e args s)
    (fun _ _ args s o t => lw_Q args s o t) := by
  intro p e ha hc hk s m args below hf hfit hheap happ hpre
  obtain ⟨b, xs, hP⟩ := lw_pre_spec hpre.2.2 hpre.2.1
  obtain ⟨k, o, h1, h2, h3, hQ⟩ := lw_walk l hflags b xs p e ha hc hk s m args below hf ((Spec.applies_iff_loose hf).mp happ).1 hP trivial
  exact ⟨k, o, h1, h2, h3, hQ⟩
theorem lw_frame {s t : State} {o : Outcome} {args : Array Value} (h : Framed s o t [] 601024 7293034) :
    Framed s o t (fieldLocs frame_1_writes args s ++ arrayLocs frame_1_arrays args s ++ staticLocs frame_1_statics s) 601024 7293034 := h
theorem lw_limb (L : Cond) (hL : ∀ (args : Array Value) (s t : State), L.after args s (.returned (some (.int 1))) t = true) :
    ArmFor flags0 classFile x code maxLocals ret World_1 tables_1 room_1 Calls_1 rest_1 Pre_1
      (fun tb e a s o t => postC L tb e a s o t ∧ Framed s o t (fieldLocs frame_1_writes a s ++ arrayLocs frame_1_arrays a s ++ staticLocs frame_1_statics s) 601024 7293034) := by
  intro l hflags _ _ p e ha hc hk s m args below hf hfit hheap happ hpre
  obtain ⟨k, o, h1, h2, h3, rfl, hF⟩ := lw_comes l hflags p e ha hc hk s m args below hf hfit hheap happ hpre
  exact ⟨k, _, h1, h2, h3, hL args s _, lw_frame hF⟩
theorem i_vc : Claimed_1_1 ∧ Claimed_1_2 := ⟨lw_limb limb_1_1 (fun args s t => by simp [limb_1_1, Cond.after, Cond.holds, Cond.value]), lw_limb limb_1_2 (fun args s t => Cond.after_iff.mpr (by
  first | (rw [show limb_1_2 = Cond.eq .result (.int 1) from rfl, Cond.eq_ints (x := 1) (y := 1) rfl rfl]; simp; done) | (simp [limb_1_2, Cond.value, Term.eval]; done)))⟩
