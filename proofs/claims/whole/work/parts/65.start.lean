/-! the start of the law (its first rows: the starting text kit/laws/SKELETON) -/
def R_law : String := "OddRanksLaw"
def lw_P (b : Addr) (xs : List Int32) (args : Array Value) (s : State) : Prop := args = #[.ref b] ∧ s.IntsAt b xs ∧ xs.length ≤ 3072 ∧ (Jvm.Cond.and given_1 narrow_1).before args s = true
def lw_Q (_ : Array Value) (s : State) (o : Outcome) (t : State) : Prop := o = .returned (some (.int 1)) ∧ Framed s o t [] 601024 7293034
def lw_Z (below : List Frame) (a : Array Value) (s : State) : State → Prop := fun t => ∃ o, t.status = .running ∧ Ended t below o ∧ lw_Q a s o t
/-- the law's own end, with 1 on the stack, nothing written that was there before, its room as the claim has it -/
theorem lw_ret {p : Program} {l : Launch} {e : Env} {s : State} {m : MethodId} {below : List Frame} {meth : Method} {c : Code} {b : Nat} (hx : p.tables.exec = Jvm.exec) (hb : c.code = code) (hr : meth.sig.returnType = ret) (hlocks : meth.locks = false) {pc : Nat} {H : Heap} {ls : Array Slot} (hdg : decode code pc = .ok (.ireturn, 1)) : W p l e room_1 s m #[Value.ref b] below meth c H [] 601024 7293034 (lw_Z below #[Value.ref b] s) (F0 m pc ls [.int 1]) := by
  intro T hT X
  obtain ⟨fs, hret, hrun, hended, hW, hframe⟩ := X.leave (v := some (.int 1)) (hlocks := hlocks) (fun h => by rw [hr] at h; cases h)
  have hmeth' : T.vm.method? m = some meth := X.method'
  refine ⟨T.setFrames fs, ?_, .returned (some (.int 1)), hrun, hended, rfl, ⟨_, rfl⟩, hW, hframe⟩
  jvm_step X.here [X.here.top, hx, hb, hdg, hmeth', hr, ret, narrow_b1]
  (try refine ⟨rfl, ?_⟩); (try refine ⟨rfl, ?_⟩)
  first | (intro acts; rw [hret _ acts rfl rfl rfl]) | rw [hret _ _ rfl rfl rfl]
  exact Steps.refl _
/-- what holds at the law's entry: the machine, the code, the tables' words (any of lw_tbl by 'hts w (by decide +kernel)'), the script of L ints xs at the cell b, what the Statement gives of the start (any of its parts by flat_of_before) -/
def lw_At (p : Program) (s : State) (m : MethodId) (meth : Method) (c : Code) (b L : Nat) (xs : Nat → Int32) : Prop :=
  p.tables.exec = Jvm.exec ∧ c.code = code ∧ meth.sig.returnType = ret ∧ c.maxLocals = 7 ∧ s.vm.findClass R_law = some m.cls ∧ (∀ w ∈ lw_tbl, w.before #[Value.ref b] s = true) ∧ va_X b L xs s s.heap ∧ b < s.heap.size ∧ meth.locks = false ∧ (Jvm.Cond.and given_1 narrow_1).before #[Value.ref b] s = true
theorem st_known {s : State} {args : Array Value} (htb : ∀ w ∈ ab_tb, w.before args s = true) : ∃ D : va_G, ∀ (k : Nat) (q : vw_C), vwCl[k]? = some q → u_Kn s q.1 q.2.1 q.2.2 (D.1 k) (D.2 k) := by
  obtain ⟨c0, iS0, h0⟩ := u_known (ws := ab_tb) htb ok_X0.2.1 (htb _ in_X0)
  obtain ⟨c1, iS1, h1⟩ := u_known (ws := ab_tb) htb ok_X1.2.1 (htb _ in_X1)
  obtain ⟨c2, iS2, h2⟩ := u_known (ws := ab_tb) htb ok_X3.2.1 (htb _ in_X3)
  obtain ⟨c3, iS3, h3⟩ := u_known (ws := ab_tb) htb ok_X4.2.1 (htb _ in_X4)
  obtain ⟨c4, iS4, h4⟩ := u_known (ws := ab_tb) htb ok_X5.2.1 (htb _ in_X5)
  obtain ⟨c5, iS5, h5⟩ := u_known (ws := ab_tb) htb ok_X6.2.1 (htb _ in_X6)
  obtain ⟨c6, iS6, h6⟩ := u_known (ws := ab_tb) htb ok_X7.2.1 (htb _ in_X7)
  obtain ⟨c7, iS7, h7⟩ := u_known (ws := ab_tb) htb ok_X8.2.1 (htb _ in_X8)
  obtain ⟨c8, iS8, h8⟩ := u_known (ws := ab_tb) htb ok_X9.2.1 (htb _ in_X9)
  obtain ⟨c9, iS9, h9⟩ := u_known (ws := ab_tb) htb ok_X10.2.1 (htb _ in_X10)
  obtain ⟨c10, iS10, h10⟩ := u_known (ws := ab_tb) htb ok_X11.2.1 (htb _ in_X11)
  obtain ⟨c11, iS11, h11⟩ := u_known (ws := ab_tb) htb ok_X12.2.1 (htb _ in_X12)
  refine ⟨(fun k => if k = 0 then c0 else if k = 1 then c1 else if k = 2 then c2 else if k = 3 then c3 else if k = 4 then c4 else if k = 5 then c5 else if k = 6 then c6 else if k = 7 then c7 else if k = 8 then c8 else if k = 9 then c9 else if k = 10 then c10 else c11, fun k => if k = 0 then iS0 else if k = 1 then iS1 else if k = 2 then iS2 else if k = 3 then iS3 else if k = 4 then iS4 else if k = 5 then iS5 else if k = 6 then iS6 else if k = 7 then iS7 else if k = 8 then iS8 else if k = 9 then iS9 else if k = 10 then iS10 else iS11), ?_⟩
  intro k q hq
  match k, hq with
  | 0, hq => cases hq; exact h0
  | 1, hq => cases hq; exact h1
  | 2, hq => cases hq; exact h2
  | 3, hq => cases hq; exact h3
  | 4, hq => cases hq; exact h4
  | 5, hq => cases hq; exact h5
  | 6, hq => cases hq; exact h6
  | 7, hq => cases hq; exact h7
  | 8, hq => cases hq; exact h8
  | 9, hq => cases hq; exact h9
  | 10, hq => cases hq; exact h10
  | 11, hq => cases hq; exact h11
  | k + 12, hq => simp [vwCl] at hq
theorem st_arr {s : State} {args : Array Value} (htb : ∀ w ∈ ab_tb, w.before args s = true) (h3 : va_AO "OddRanks$Automaton" s) (h4 : va_AO "OddRanks$Complement" s) : ∃ dA : Nat → ClassId, ∀ (k : Nat) (q : ClassId × FieldType), (ab_tys dA)[k]? = some q → ArrOfT s q.1 q.2 ∧ va_RA s q.1 q.2 := by
  obtain ⟨c0, k0, m0, a0, b0, d0⟩ := Cond.arrayClass_spec (htb _ ac_int)
  obtain ⟨c1, k1, m1, a1, b1, d1⟩ := Cond.arrayClass_spec (htb _ ac_long)
  obtain ⟨c2, k2, m2, a2, b2, d2⟩ := Cond.arrayClass_spec (htb _ ac_boolean)
  obtain ⟨m3, c3, k3, e3, f3, b3, d3, a3⟩ := Cond.arrayOver_spec h3
  obtain ⟨m4, c4, k4, e4, f4, b4, d4, a4⟩ := Cond.arrayOver_spec h4
  refine ⟨fun k => if k = 0 then c0 else if k = 1 then c1 else if k = 2 then c2 else if k = 3 then c3 else c4, ?_⟩
  intro k q hq
  match k, hq with
  | 0, hq => cases hq; exact ⟨fun n z => ⟨fun k h => (by cases h), k0, b0, m0, d0⟩, a0⟩
  | 1, hq => cases hq; exact ⟨fun n z => ⟨fun k h => (by cases h), k1, b1, m1, d1⟩, a1⟩
  | 2, hq => cases hq; exact ⟨fun n z => ⟨fun k h => (by cases h), k2, b2, m2, d2⟩, a2⟩
  | 3, hq => cases hq; exact ⟨fun n z => ⟨fun k h => (by cases h), k3, b3, m3, d3⟩, k3, m3, b3, d3, e3, a3⟩
  | 4, hq => cases hq; exact ⟨fun n z => ⟨fun k h => (by cases h), k4, b4, m4, d4⟩, k4, m4, b4, d4, e4, a4⟩
  | k + 5, hq => simp [ab_tys] at hq
theorem st_eqr {args : Array Value} {s : State} {a b : Term} {y : Value} (h : (Cond.eq a b).holds args s none s [] = true) (ha : a.eval args s none [] s = some y) (hy : y.isRef = true) : b.eval args s none [] s = some y := by
  simp only [Cond.holds, Cond.value, ha] at h
  cases hb : b.eval args s none [] s with
  | none => cases y <;> simp [hb] at h
  | some x => cases x <;> cases y <;> simp [hb, Value.isRef] at h hy ⊢ <;> exact h.symm
theorem st_eqi {args : Array Value} {s : State} {t : Term} {n : Int32} (h : (Cond.eq t (.int n)).before args s = true) : t.eval args s none [] s = some (.int n) := by
  have h : (Cond.eq t (.int n)).holds args s none s [] = true := h
  have hb : (Term.int n).eval args s none [] s = some (.int n) := rfl
  simp only [Cond.holds, Cond.value, hb] at h
  cases ha : t.eval args s none [] s with
  | none => simp [ha] at h
  | some x => cases x <;> simp [ha] at h ⊢ <;> exact h
def st_ix : List Nat := [66, 76, 101, 81, 87, 89]
def st_iy : List Nat := [227, 229, 231, 232, 233, 235]
def st_tm (i : Nat) : Term := .string "OddRanks$Reader" (st_ix.getD i 0)
def st_fl : List Cond := flatC (Jvm.Cond.and given_1 narrow_1)
theorem st_ex : ∀ i : Nat, i < 6 → Cond.exactly (st_tm i) "java/lang/String" ∈ st_fl := by decide +kernel
theorem st_co : ∀ i : Nat, i < 6 → Cond.eq (.field (st_tm i) "java/lang/String" "coder" "B") (.int 0) ∈ st_fl := by decide +kernel
theorem st_ar : ∀ i : Nat, i < 6 → Cond.arrayOf (.field (st_tm i) "java/lang/String" "value" "[B") .byte ∈ st_fl := by decide +kernel
theorem st_le : ∀ i : Nat, i < 6 → Cond.eq (.length (.field (st_tm i) "java/lang/String" "value" "[B")) (.int (Int32.ofNat (ab_len.getD i 0))) ∈ st_fl := by decide +kernel
theorem st_el : ∀ i : Nat, i < 6 → ∀ j : Nat, j < ab_len.getD i 0 → Cond.eq (.elem (.field (st_tm i) "java/lang/String" "value" "[B") (.int (Int32.ofNat j))) (.int ((ab_byt.getD i []).getD j 0)) ∈ st_fl := by decide +kernel
theorem st_ne : ∀ i : Nat, i < 6 → ∀ j : Nat, j < 6 → i ≠ j → (Cond.not (Cond.eq (st_tm i) (st_tm j)) ∈ st_fl ∨ Cond.not (Cond.eq (st_tm j) (st_tm i)) ∈ st_fl) := by decide +kernel
theorem st_mo : ∀ i : Nat, i < 6 → Cond.eq (st_tm i) (.string "OddRanksModel" (st_iy.getD i 0)) ∈ st_fl := by decide +kernel
theorem st_sr : ∀ x ∈ ab_sr, Cond.stringRef x.1 x.2.1 x.2.2.1 ∈ tables_1_3 ∨ Cond.stringRef x.1 x.2.1 x.2.2.1 ∈ tables_1_7 := by decide +kernel
theorem st_src : ∀ x ∈ ab_sr, x.2.2.2 < 6 ∧ ((x.1 = "OddRanks$Reader" ∧ x.2.1 = st_ix.getD x.2.2.2 0) ∨ (x.1 = "OddRanksModel" ∧ x.2.1 = st_iy.getD x.2.2.2 0)) := by decide +kernel
theorem st_cs : Cond.eq (.static "java/lang/String" "COMPACT_STRINGS" "Z") (.int 1) ∈ st_fl := by decide +kernel
theorem st_si : Cond.isRef (.static "jdk/internal/util/Preconditions" "SIOOBE_FORMATTER" "Ljava/util/function/BiFunction;") ∈ st_fl := by decide +kernel
theorem st_us : Cond.isRef (.static "java/lang/Throwable" "UNASSIGNED_STACK" "[Ljava/lang/StackTraceElement;") ∈ st_fl := by decide +kernel
theorem st_ss : Cond.isRef (.static "java/lang/Throwable" "SUPPRESSED_SENTINEL" "Ljava/util/List;") ∈ st_fl := by decide +kernel
theorem start_K {p : Program} {s : State} {m : MethodId} {meth : Method} {c : Code} {b L : Nat} {xs : Nat → Int32} (l : Launch) (hflags : l.flags = flags0) (C0 : lw_At p s m meth c b L xs) : ∃ κ : ab_P, ab_K l κ s ∧ κ.2.2.2.2 = (fun q => s.heap.size ≤ q) ∧ κ.2.2.1 1000 = b ∧ κ.2.2.1 1001 = L ∧ ∀ j, Int32.ofNat (κ.2.2.1 (2000 + j)) = xs j := by
  obtain ⟨hx, hb, hr, hml, hown, hts, hX, hbl, hlocks, hgv⟩ := id C0
  have hfl : ∀ w ∈ st_fl, w.before #[Value.ref b] s = true := flat_of_before _ hgv
  have htb : ∀ w ∈ ab_tb, w.before #[Value.ref b] s = true := fun w hw => hts w (List.mem_filter.mp hw).1
  have hA : ∀ a : Nat, a < s.heap.size → ¬ (fun q : Nat => s.heap.size ≤ q) a := fun a h => Nat.not_le.mpr h
  have h3 : va_AO "OddRanks$Automaton" s := va_AO.of (A := #[Value.ref b]) (hts _ (ab_s1 _ (List.mem_of_getElem? (i := 110) rfl)))
  have h4 : va_AO "OddRanks$Complement" s := va_AO.of (A := #[Value.ref b]) (hts _ (ab_s1 _ (List.mem_of_getElem? (i := 207) rfl)))
  obtain ⟨D, hD⟩ := st_known htb
  obtain ⟨dA, hdA⟩ := st_arr htb h3 h4
  obtain ⟨adK, adV, hS, hev⟩ := vk_Sof (args := #[Value.ref b]) (s := s) (N := 6) (tm := st_tm) (len := ab_len) (byt := ab_byt) (A := fun q => s.heap.size ≤ q) (by decide) (fun i hi => hfl _ (st_ex i hi)) (fun i hi => hfl _ (st_co i hi)) (fun i hi => hfl _ (st_ar i hi)) (fun i hi => hfl _ (st_le i hi)) (fun i hi j hj => hfl _ (st_el i hi j hj)) (fun i j hi hj hij => (st_ne i hi j hj hij).imp (hfl _) (hfl _)) hA
  obtain ⟨kk, hkk⟩ : ∃ f : Nat → Nat, f = fun i => if i < 6 then adK i else if i < 106 then adV (i - 100) else if i = 1000 then b else if i = 1001 then L else (xs (i - 2000)).toUInt32.toNat := ⟨_, rfl⟩
  have k6 : ∀ i, i < 6 → kk i = adK i := fun i hi => by rw [hkk]; simp [hi]
  have k1 : ∀ i, i < 6 → kk (100 + i) = adV i := fun i hi => by
    rw [hkk]
    show (if 100 + i < 6 then _ else if 100 + i < 106 then _ else _) = _
    rw [if_neg (by omega), if_pos (by omega), Nat.add_sub_cancel_left]
  have kb : kk 1000 = b := by rw [hkk]; rfl
  have kL : kk 1001 = L := by rw [hkk]; rfl
  have kx : ∀ j, Int32.ofNat (kk (2000 + j)) = xs j := fun j => by
    rw [hkk]
    show Int32.ofNat (if 2000 + j < 6 then _ else if 2000 + j < 106 then _ else if 2000 + j = 1000 then _ else if 2000 + j = 1001 then _ else (xs (2000 + j - 2000)).toUInt32.toNat) = _
    rw [if_neg (by omega), if_neg (by omega), if_neg (by omega), if_neg (by omega), Nat.add_sub_cancel_left]
    apply Int32.toBitVec_inj.mp
    show BitVec.ofNat 32 (xs j).toBitVec.toNat = _
    simp
  have hS' : vk_S 6 ab_len ab_byt kk adV (fun q => s.heap.size ≤ q) s s.heap := by
    obtain ⟨q1, q2⟩ := hS
    exact ⟨fun i hi => by rw [k6 i hi]; exact q1 i hi, fun i j hi hj h => q2 i j hi hj (by rw [← k6 i hi, ← k6 j hj]; exact h)⟩
  refine ⟨(D, dA, kk, adV, fun q => s.heap.size ≤ q), ⟨⟨hD, hdA⟩, fun q h => h, fun w hw => va_Nw.of (A := #[Value.ref b]) (ab_nb_on w hw) (hts w (List.mem_filter.mp hw).1), h3, h4, fun x hx => ?_, hS', ?_, ?_, k1, ⟨?_, ?_, ?_⟩, ?_, ?_, ?_⟩, rfl, kb, kL, kx⟩
  · obtain ⟨q1, q2⟩ := st_src x hx
    have hw : (Cond.stringRef x.1 x.2.1 x.2.2.1).before #[Value.ref b] s = true := by
      rcases st_sr x hx with h | h
      · exact hts _ (ab_s3 _ h)
      · exact hts _ (ab_s7 _ h)
    have he : (Term.string "OddRanks$Reader" (st_ix.getD x.2.2.2 0)).eval #[Value.ref b] s none [] s = some (.ref (kk x.2.2.2)) := by rw [k6 _ q1]; exact hev _ q1
    rcases q2 with ⟨q3, q4⟩ | ⟨q3, q4⟩
    · rw [q3, q4] at hw ⊢
      exact vk_R.of hw he
    · rw [q3, q4] at hw ⊢
      exact vk_R.of hw (by
        have h1 := hfl _ (st_mo x.2.2.2 q1)
        have h2 : (Cond.eq (st_tm x.2.2.2) (.string "OddRanksModel" (st_iy.getD x.2.2.2 0))).holds #[Value.ref b] s none s [] = true := h1
        exact st_eqr h2 he rfl)
  · exact va_Zof (args := #[Value.ref b]) (hts _ (ab_s3 _ (List.mem_of_getElem? (i := 24) rfl))) (hts _ (ab_s1 _ (List.mem_of_getElem? (i := 15) rfl))) (st_eqi (hfl _ st_cs)) hA
  · exact va_Zqof (args := #[Value.ref b]) (hts _ (ab_s3 _ (List.mem_of_getElem? (i := 40) rfl))) (hts _ (ab_s1 _ (List.mem_of_getElem? (i := 17) rfl))) (hfl _ st_si) hA
  · show va_X (kk 1000) (kk 1001) (fun j => Int32.ofNat (kk (2000 + j))) s s.heap
    rw [kb, kL, show (fun j => Int32.ofNat (kk (2000 + j))) = xs from funext kx]
    exact hX
  · show kk 1000 < s.heap.size
    rw [kb]; exact hbl
  · show ¬ s.heap.size ≤ kk 1000
    rw [kb]; omega
  · show Launch.stackTraces l = false
    unfold Launch.stackTraces
    rw [hflags]
    decide +kernel
  · exact vx_Zqof (args := #[Value.ref b]) (hts _ (ab_s6 _ (List.mem_of_getElem? (i := 32) rfl))) (hts _ (ab_s1 _ (List.mem_of_getElem? (i := 22) rfl))) (hfl _ st_us) hA
  · exact vx_Zqof (args := #[Value.ref b]) (hts _ (ab_s6 _ (List.mem_of_getElem? (i := 34) rfl))) (hts _ (ab_s1 _ (List.mem_of_getElem? (i := 22) rfl))) (hfl _ st_ss) hA
