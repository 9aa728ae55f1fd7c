/-! Strings: their constants, length, charAt. A constant i stands at g.2.2.2.2 i, its bytes at g.2.2.2.2 (100 + i) -/
theorem fl_J0_9 : Cond.fieldLink RJ0 9 "java/lang/String" "value" "[B" ∈ ab_tb := ab_m9 36 rfl rfl
theorem fl_J0_15 : Cond.fieldLink RJ0 15 "java/lang/String" "coder" "B" ∈ ab_tb := ab_m9 37 rfl rfl
theorem fl_J0_38 : Cond.fieldLink RJ0 38 "java/lang/String" "COMPACT_STRINGS" "Z" ∈ ab_tb := ab_m3 23 rfl rfl
theorem fl_J0_1053 : Cond.fieldLink RJ0 1053 "jdk/internal/util/Preconditions" "SIOOBE_FORMATTER" "Ljava/util/function/BiFunction;" ∈ ab_tb := ab_m3 39 rfl rfl
section ABSTR
variable {X : ab_M} {d pc : Nat} {lo : List (Nat × Value)} {st : List Value} {g g' : ab_S} {r : Option Value}
theorem ab_R.ldcS {i idx : Nat} {tx : String} (hd : decode X.2.1 pc = .ok (.ldc idx, 2)) (hm : (X.1.cls, idx, tx, i) ∈ ab_sr) (h : ab_R X d (pc + 2) lo (.ref (g.2.2.2.2 i) :: st) g r g') : ab_R X d pc lo st g r g' := by
  refine ⟨h.1, h.2.1, ?_⟩
  intro l κ p e R s m args below meth c c0 s0 H locs ls cx hdd hll hcc hss hc0 hs0 hH hS hlo
  obtain ⟨qK, qA, qN, q1, q2, q3, q4, q5, q6, q8⟩ := cx.2.2.2.2.2.2.2.2
  have hz : vk_R X.1.cls idx tx (κ.2.2.1 i) s := q3 _ hm
  rw [hH.2.1] at hz
  exact va_ldcS cx.1 cx.2.1 cx.2.2.2.2.2.1 hz hd (h.2.2 l κ p e R s m args below meth c c0 s0 H locs ls cx hdd hll hcc hss hc0 hs0 hH hS hlo)
theorem ab_R.getSV {i idx : Nat} (hi : i < 6) (hd : decode X.2.1 pc = .ok (.getfield idx, 3)) (hl : Cond.fieldLink X.1.cls idx "java/lang/String" "value" "[B" ∈ ab_tb) (h : ab_R X d (pc + 3) lo (.ref (g.2.2.2.2 (100 + i)) :: st) g r g') : ab_R X d pc lo (.ref (g.2.2.2.2 i) :: st) g r g' := by
  refine ⟨h.1, h.2.1, ?_⟩
  intro l κ p e R s m args below meth c c0 s0 H locs ls cx hdd hll hcc hss hc0 hs0 hH hS hlo
  obtain ⟨qK, qA, qN, q1, q2, q3, q4, q5, q6, q8⟩ := cx.2.2.2.2.2.2.2.2
  have hz := (q4.1 i hi).2.2.1
  rw [← q8.1 i hi, hH.2.1] at hz
  exact vk_getf cx.1 cx.2.1 hz hS cx.2.2.2.2.2.1 (cx.2.2.2.2.2.2.2.1 _ hl) (fun _ q => q) hd (h.2.2 l κ p e R s m args below meth c c0 s0 H locs ls cx hdd hll hcc hss hc0 hs0 hH hS hlo)
theorem ab_R.getSC {i idx : Nat} (hi : i < 6) (hd : decode X.2.1 pc = .ok (.getfield idx, 3)) (hl : Cond.fieldLink X.1.cls idx "java/lang/String" "coder" "B" ∈ ab_tb) (h : ab_R X d (pc + 3) lo (.int 0 :: st) g r g') : ab_R X d pc lo (.ref (g.2.2.2.2 i) :: st) g r g' := by
  refine ⟨h.1, h.2.1, ?_⟩
  intro l κ p e R s m args below meth c c0 s0 H locs ls cx hdd hll hcc hss hc0 hs0 hH hS hlo
  obtain ⟨qK, qA, qN, q1, q2, q3, q4, q5, q6, q8⟩ := cx.2.2.2.2.2.2.2.2
  have hz := (q4.1 i hi).2.1
  rw [hH.2.1] at hz
  exact vk_getf cx.1 cx.2.1 hz hS cx.2.2.2.2.2.1 (cx.2.2.2.2.2.2.2.1 _ hl) (fun _ q => q) hd (h.2.2 l κ p e R s m args below meth c c0 s0 H locs ls cx hdd hll hcc hss hc0 hs0 hH hS hlo)
theorem ab_R.alenS {i : Nat} (hi : i < 6) (hd : decode X.2.1 pc = .ok (.arraylength, 1)) (h : ab_R X d (pc + 1) lo (.int (nI (ab_len.getD i 0)) :: st) g r g') : ab_R X d pc lo (.ref (g.2.2.2.2 (100 + i)) :: st) g r g' := by
  refine ⟨h.1, h.2.1, ?_⟩
  intro l κ p e R s m args below meth c c0 s0 H locs ls cx hdd hll hcc hss hc0 hs0 hH hS hlo
  obtain ⟨qK, qA, qN, q1, q2, q3, q4, q5, q6, q8⟩ := cx.2.2.2.2.2.2.2.2
  have hz := (q4.1 i hi).2.2.2
  rw [← q8.1 i hi, hH.2.1] at hz
  exact va_tlen cx.1 cx.2.1 hz hS rfl hd (h.2.2 l κ p e R s m args below meth c c0 s0 H locs ls cx hdd hll hcc hss hc0 hs0 hH hS hlo)
theorem ab_R.baldS {i : Nat} {k : Int32} (hi : i < 6) (hin : vp_in k (ab_len.getD i 0)) (hd : decode X.2.1 pc = .ok (.baload, 1)) (h : ab_R X d (pc + 1) lo (.int ((ab_byt.getD i []).getD k.toNatClampNeg 0) :: st) g r g') : ab_R X d pc lo (.int k :: .ref (g.2.2.2.2 (100 + i)) :: st) g r g' := by
  refine ⟨h.1, h.2.1, ?_⟩
  intro l κ p e R s m args below meth c c0 s0 H locs ls cx hdd hll hcc hss hc0 hs0 hH hS hlo
  obtain ⟨qK, qA, qN, q1, q2, q3, q4, q5, q6, q8⟩ := cx.2.2.2.2.2.2.2.2
  have hz := (q4.1 i hi).2.2.2
  rw [← q8.1 i hi, hH.2.1] at hz
  exact va_tb cx.1 cx.2.1 hz hS hin rfl hd (h.2.2 l κ p e R s m args below meth c c0 s0 H locs ls cx hdd hll hcc hss hc0 hs0 hH hS hlo)
theorem ab_R.getZ {idx : Nat} (hd : decode X.2.1 pc = .ok (.getstatic idx, 3)) (hl : Cond.fieldLink X.1.cls idx "java/lang/String" "COMPACT_STRINGS" "Z" ∈ ab_tb) (h : ab_R X d (pc + 3) lo (.int 1 :: st) g r g') : ab_R X d pc lo st g r g' := by
  refine ⟨h.1, h.2.1, ?_⟩
  intro l κ p e R s m args below meth c c0 s0 H locs ls cx hdd hll hcc hss hc0 hs0 hH hS hlo
  obtain ⟨qK, qA, qN, q1, q2, q3, q4, q5, q6, q8⟩ := cx.2.2.2.2.2.2.2.2
  exact va_gets cx.1 cx.2.1 q5 hS cx.2.2.2.2.2.1 (cx.2.2.2.2.2.2.2.1 _ hl) (fun _ q => q) hd (h.2.2 l κ p e R s m args below meth c c0 s0 H locs ls cx hdd hll hcc hss hc0 hs0 hH hS hlo)
theorem ab_R.getZq {idx : Nat} (hd : decode X.2.1 pc = .ok (.getstatic idx, 3)) (hl : Cond.fieldLink X.1.cls idx "jdk/internal/util/Preconditions" "SIOOBE_FORMATTER" "Ljava/util/function/BiFunction;" ∈ ab_tb) (h : ∀ v : Value, (v = .null ∨ ∃ t, v = .ref t) → ab_R X d (pc + 3) lo (v :: st) g r g') : ab_R X d pc lo st g r g' := by
  refine ⟨(h .null (Or.inl rfl)).1, (h .null (Or.inl rfl)).2.1, ?_⟩
  intro l κ p e R s m args below meth c c0 s0 H locs ls cx hdd hll hcc hss hc0 hs0 hH hS hlo
  obtain ⟨qK, qA, qN, q1, q2, q3, q4, q5, q6, q8⟩ := cx.2.2.2.2.2.2.2.2
  rcases q6 with q6 | ⟨t, q6⟩
  · exact va_gets cx.1 cx.2.1 q6 hS cx.2.2.2.2.2.1 (cx.2.2.2.2.2.2.2.1 _ hl) (fun _ q => q) hd ((h .null (Or.inl rfl)).2.2 l κ p e R s m args below meth c c0 s0 H locs ls cx hdd hll hcc hss hc0 hs0 hH hS hlo)
  · exact va_gets cx.1 cx.2.1 q6 hS cx.2.2.2.2.2.1 (cx.2.2.2.2.2.2.2.1 _ hl) (fun _ q => q) hd ((h (.ref t) (Or.inr ⟨t, rfl⟩)).2.2 l κ p e R s m args below meth c c0 s0 H locs ls cx hdd hll hcc hss hc0 hs0 hH hS hlo)
end ABSTR
