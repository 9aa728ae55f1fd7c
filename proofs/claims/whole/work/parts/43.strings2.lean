/-! String.length and charAt of the constants -/
def eR (σ g : ab_S) : Prop := g = σ
theorem eR.out {X : ab_M} {d pc : Nat} {lo : List (Nat × Value)} {st : List Value} {g : ab_S} {r0 : Option Value} (h : ab_E eR X d pc lo st g (fun r σ' => r = r0 ∧ σ' = g)) : ab_R X d pc lo st g r0 g := by
  obtain ⟨r, g', σ', h1, h2, h3, h4⟩ := h g rfl
  have e2 : g' = σ' := h2
  rw [e2, h4, h3] at h1
  exact h1
theorem eR.inn {X : ab_M} {d pc : Nat} {lo : List (Nat × Value)} {st : List Value} {g : ab_S} {r0 : Option Value} (h : ab_R X d pc lo st g r0 g) : ab_E eR X d pc lo st g (fun r σ' => r = r0 ∧ σ' = g) := by
  intro g1 hg
  have e : g1 = g := hg
  rw [e]
  exact ⟨r0, g, g, h, rfl, rfl, rfl⟩
theorem eR.go {X : ab_M} {d pc pc' : Nat} {lo lo' : List (Nat × Value)} {st st' : List Value} {g : ab_S} {Q : Option Value → ab_S → Prop} (f : ∀ r g', ab_R X d pc' lo' st' g r g' → ab_R X d pc lo st g r g') (K : ab_E eR X d pc' lo' st' g Q) : ab_E eR X d pc lo st g Q := by
  intro g1 hg
  have e : g1 = g := hg
  rw [e]
  obtain ⟨r, g', σ', h1, h2, h3⟩ := K g rfl
  exact ⟨r, g', σ', f r g' h1, h2, h3⟩
theorem r_i2c {S : Type} {Rp : S → ab_S → Prop} {X : ab_M} {d pc : Nat} {lo : List (Nat × Value)} {st : List Value} {σ : S} {Q : Option Value → S → Prop} {x : Int32} (hd : decode X.2.1 pc = .ok (.i2c, 1)) (K : ab_E Rp X d (pc + 1) lo (.int (x.toUInt32 % 65536).toInt32 :: st) σ Q) : ab_E Rp X d pc lo (.int x :: st) σ Q :=
  ab_E.go (fun l κ p e R s m args below meth c H locs cells slots Qq ls cx hdd hll hcc hss hl kk => lv_i2c cx.1 cx.2.1 hd rfl (kk ls hl)) K
section ABCS
variable {S : Type} {Rp : S → ab_S → Prop} {X Y : ab_M} {d d' pc idx n a : Nat} {lo : List (Nat × Value)} {st0 rest As : List Value} {σ σ0 : S} {Q Q' : Option Value → S → Prop} {v : Value}
theorem r_callVs {i : Nat} (hi : i < 6) (ha : ∀ g, Rp σ g → g.2.2.2.2 i = a) (hY : Y.1.cls = "java/lang/String") (hd : decode X.2.1 pc = .ok (.invokevirtual idx, 3)) (hw : Cond.methodLink X.1.cls idx Y.1 ∈ ab_tb) (y : ab_yV Y n) (hdd : d' + 1 ≤ d) (hn : As.length = n) (hst : st0 = As.reverse ++ .ref a :: rest) (hr : (rest.map fun v => v.category).sum ≤ 8) (hC : ab_C Rp d' Y (.ref a :: As) σ Q')
    (k : ∀ r σ', Q' r σ' → ab_E Rp X d (pc + 3) lo (r.toList ++ rest) σ' Q) : ab_E Rp X d pc lo st0 σ Q := by
  refine ab_E.call hC ?_ k
  intro g r g1 hg hM l κ p e R s m args below meth c H locs cells slots ls cx hf hlc hcc hss hH hS hlo
  obtain ⟨qK, qA, qN, q1, q2, q3, q4, q5, q6, q8⟩ := cx.2.2.2.2.2.2.2.2
  have hv := vk_recv q4 hi hS
  rw [hH.2.1, ha g hg, ← hY] at hv
  obtain ⟨⟨yi, yc, ym, yd⟩, y1, y2⟩ := y
  have hts := cx.2.2.2.2.2.2.2.1
  exact va_runV (As := As) (rest := rest) ⟨cx.1, cx.2.1, cx.2.2.1, cx.2.2.2.2.2.1, hts⟩ (hM.2.2 l κ) (cwV (rm := ab_rm d' (g1.2.2.1 - g.2.2.1) (g1.2.2.2.1 - g.2.2.2.1)) n hts (ab_gA (by
      intro w h
      simp only [List.mem_cons, List.not_mem_nil, or_false] at h
      rcases h with rfl | rfl | rfl | rfl
      · exact ab_gw hw
      · exact ab_gw y1
      · exact ab_gw y2
      · exact ab_gw yi) (ab_gi yc)) rfl rfl rfl ⟨rfl, yd⟩ ⟨Nat.le_trans hdd hf, by show 8 + (Y.2.2.1 + 11) + 40 * d' ≤ R.locals; omega⟩) ⟨ab_blind, hv, ab_pre cx.2.2.2.2.2.2.2.2 hH hS⟩ rfl hn hlo.1 hst (lv_room hr) hd ⟨hcc, hss⟩
theorem x_callVs {i : Nat} (hi : i < 6) (ha : ∀ g, Rp σ g → g.2.2.2.2 i = a) (hY : Y.1.cls = "java/lang/String") (hd : decode X.2.1 pc = .ok (.invokevirtual idx, 3)) (hw : Cond.methodLink X.1.cls idx Y.1 ∈ ab_tb) (y : ab_yV Y n) (hdd : d' + 1 ≤ d) (hn : As.length = n) (hst : st0 = As.reverse ++ .ref a :: rest) (hr : (rest.map fun v => v.category).sum ≤ 8) (hC : ab_X Rp d' Y (.ref a :: As) σ (some v) σ0) (K : ab_E Rp X d (pc + 3) lo (v :: rest) σ0 Q) : ab_E Rp X d pc lo st0 σ Q :=
  r_callVs hi ha hY hd hw y hdd hn hst hr hC (fun r σ' h => by obtain ⟨rfl, rfl⟩ := h; exact K)
end ABCS
theorem e_coder (g : ab_S) {i : Nat} (hi : i < 6) : ab_X eR 1 mJ0_coder_7d493 [.ref (g.2.2.2.2 i)] g (some (.int 0)) g := by
  refine ab_X.of (by decide) (Nat.le_of_ble_eq_true rfl) ?_
  refine eR.go (fun _ _ => ab_R.getZ dJ0_coder_7d493_0 fl_J0_38) ?_
  refine r_if_eq (t := 13) dJ0_coder_7d493_3 (by decide) (fun hh => absurd hh (by decide)) (fun _ => ?_)
  refine r_aload_n dJ0_coder_7d493_6 0 rfl ?_
  refine eR.go (fun _ _ => ab_R.getSC hi dJ0_coder_7d493_7 fl_J0_15) ?_
  refine r_goto (t := 14) dJ0_coder_7d493_10 (by decide) ?_
  refine r_zret rfl (by decide) dJ0_coder_7d493_14 ?_
  exact ⟨rfl, rfl⟩
theorem e_latin (g : ab_S) {i : Nat} (hi : i < 6) : ab_X eR 1 mJ0_isLatin1_aae02 [.ref (g.2.2.2.2 i)] g (some (.int 1)) g := by
  refine ab_X.of (by decide) (Nat.le_of_ble_eq_true rfl) ?_
  refine eR.go (fun _ _ => ab_R.getZ dJ0_isLatin1_aae02_0 fl_J0_38) ?_
  refine r_if_eq (t := 17) dJ0_isLatin1_aae02_3 (by decide) (fun hh => absurd hh (by decide)) (fun _ => ?_)
  refine r_aload_n dJ0_isLatin1_aae02_6 0 rfl ?_
  refine eR.go (fun _ _ => ab_R.getSC hi dJ0_isLatin1_aae02_7 fl_J0_15) ?_
  refine r_if_ne (t := 17) dJ0_isLatin1_aae02_10 (by decide) (fun hh => absurd rfl hh) (fun _ => ?_)
  refine r_iconst (v := 1) dJ0_isLatin1_aae02_13 (by decide) ?_
  refine r_goto (t := 18) dJ0_isLatin1_aae02_14 (by decide) ?_
  refine r_zret rfl (by decide) dJ0_isLatin1_aae02_18 ?_
  exact ⟨rfl, rfl⟩
theorem st_len : ∀ i, i < 6 → nI (ab_len.getD i 0) >>> ((0 : Int32) &&& 31) = nI (ab_len.getD i 0) := by decide +kernel
theorem e_length (g : ab_S) {i : Nat} (hi : i < 6) : ab_X eR 2 mJ0_length_8abf5 [.ref (g.2.2.2.2 i)] g (some (.int (nI (ab_len.getD i 0)))) g := by
  refine ab_X.of (by decide) (Nat.le_of_ble_eq_true rfl) ?_
  refine r_aload_n dJ0_length_8abf5_0 0 rfl ?_
  refine eR.go (fun _ _ => ab_R.getSV hi dJ0_length_8abf5_1 fl_J0_9) ?_
  refine eR.go (fun _ _ => ab_R.alenS hi dJ0_length_8abf5_4) ?_
  refine r_aload_n dJ0_length_8abf5_5 0 rfl ?_
  refine x_callVs (Y := mJ0_coder_7d493) (d' := 1) (As := []) hi (fun g1 hg => by have e : g1 = g := hg; rw [e]) rfl dJ0_length_8abf5_6 ml_J0_335 yv_J0_coder_7d493 (by omega) rfl rfl (by simp [Value.category]) (e_coder g hi) ?_
  refine r_ishr dJ0_length_8abf5_9 ?_
  refine r_iret rfl dJ0_length_8abf5_10 ?_
  exact ⟨by rw [st_len i hi], rfl⟩
theorem e_chk3 (g : ab_S) {k n : Int32} (h0 : ¬ k < 0) (h1 : k < n) {v : Value} (hv : v = .null ∨ ∃ t, v = .ref t) : ab_X eR 1 mJ3_checkIndex_8e157 [.int k, .int n, v] g (some (.int k)) g := by
  have hl : ab_E eR mJ3_checkIndex_8e157 1 0 [(0, .int k), (1, .int n)] [] g (fun r σ' => r = some (.int k) ∧ σ' = g) := by
    refine r_iload_n dJ3_checkIndex_8e157_0 0 rfl ?_
    refine r_if_lt (t := 9) dJ3_checkIndex_8e157_1 (by decide) (fun hh => absurd hh h0) (fun _ => ?_)
    refine r_iload_n dJ3_checkIndex_8e157_4 0 rfl ?_
    refine r_iload_n dJ3_checkIndex_8e157_5 1 rfl ?_
    refine r_icmp_lt (t := 16) dJ3_checkIndex_8e157_6 (by decide) (fun _ => ?_) (fun hh => absurd h1 hh)
    refine r_iload_n dJ3_checkIndex_8e157_16 0 rfl ?_
    refine r_iret rfl dJ3_checkIndex_8e157_17 ?_
    exact ⟨rfl, rfl⟩
  rcases hv with rfl | ⟨t, rfl⟩
  · exact ab_X.of (by decide) (Nat.le_of_ble_eq_true rfl) (ab_E.lo [0, 1] rfl hl)
  · exact ab_X.of (by decide) (Nat.le_of_ble_eq_true rfl) (ab_E.lo [0, 1] rfl hl)
theorem e_chk (g : ab_S) {k n : Int32} (h0 : ¬ k < 0) (h1 : k < n) : ab_X eR 2 mJ0_checkIndex_df160 [.int k, .int n] g none g := by
  refine ab_X.of (by decide) (Nat.le_of_ble_eq_true rfl) ?_
  refine r_iload_n dJ0_checkIndex_df160_0 0 rfl ?_
  refine r_iload_n dJ0_checkIndex_df160_1 1 rfl ?_
  refine eR.inn (ab_R.getZq dJ0_checkIndex_df160_2 fl_J0_1053 (fun v hv => eR.out ?_))
  refine x_callS (Y := mJ3_checkIndex_8e157) (d' := 1) (As := [.int k, .int n, v]) (rest := []) dJ0_checkIndex_df160_5 ml_J0_1059 ys_J3_checkIndex_8e157 (by omega) rfl rfl (by simp) (e_chk3 g h0 h1 hv) ?_
  refine r_pop dJ0_checkIndex_df160_8 rfl ?_
  refine r_vret rfl dJ0_checkIndex_df160_9 ?_
  exact ⟨rfl, rfl⟩
theorem st_ch : ∀ i, i < 6 → ∀ j, j < ab_len.getD i 0 → (((ab_byt.getD i []).getD j 0 &&& 255).toUInt32 % 65536).toInt32 = (ab_byt.getD i []).getD j 0 ∧ narrow .char (.int ((ab_byt.getD i []).getD j 0)) = .int ((ab_byt.getD i []).getD j 0) := by decide +kernel
theorem st_l7 : ∀ i, i < 6 → ab_len.getD i 0 ≤ 7 := by decide
theorem e_char1 (g : ab_S) {i j : Nat} (hi : i < 6) (hj : j < ab_len.getD i 0) : ab_X eR 3 mJ1_charAt_3b067 [.ref (g.2.2.2.2 (100 + i)), .int (nI j)] g (some (.int ((ab_byt.getD i []).getD j 0))) g := by
  have h7 := st_l7 i hi
  have hc := st_ch i hi j hj
  refine ab_X.of (by decide) (Nat.le_of_ble_eq_true rfl) ?_
  refine r_iload_n dJ1_charAt_3b067_0 1 rfl ?_
  refine r_aload_n dJ1_charAt_3b067_1 0 rfl ?_
  refine eR.go (fun _ _ => ab_R.alenS hi dJ1_charAt_3b067_2) ?_
  refine x_callS0 (Y := mJ0_checkIndex_df160) (d' := 2) (As := [.int (nI j), .int (nI (ab_len.getD i 0))]) (rest := []) dJ1_charAt_3b067_3 ml_J1_9 ys_J0_checkIndex_df160 (by omega) rfl rfl (by simp) (e_chk g (nI_pos (by omega)) (nI_lt hj (by omega))) ?_
  refine r_aload_n dJ1_charAt_3b067_6 0 rfl ?_
  refine r_iload_n dJ1_charAt_3b067_7 1 rfl ?_
  refine eR.go (fun _ _ => ab_R.baldS hi (vp_in_nI hj (by omega)) dJ1_charAt_3b067_8) ?_
  rw [nI_clamp (by omega)]
  refine r_sipush (v := 255) dJ1_charAt_3b067_9 (by decide) ?_
  refine r_iand dJ1_charAt_3b067_12 ?_
  refine r_i2c dJ1_charAt_3b067_13 ?_
  rw [hc.1]
  refine r_zret rfl hc.2 dJ1_charAt_3b067_14 ?_
  exact ⟨rfl, rfl⟩
theorem e_charAt (g : ab_S) {i j : Nat} (hi : i < 6) (hj : j < ab_len.getD i 0) : ab_X eR 4 mJ0_charAt_5068e [.ref (g.2.2.2.2 i), .int (nI j)] g (some (.int ((ab_byt.getD i []).getD j 0))) g := by
  refine ab_X.of (by decide) (Nat.le_of_ble_eq_true rfl) ?_
  refine r_aload_n dJ0_charAt_5068e_0 0 rfl ?_
  refine x_callVs (Y := mJ0_isLatin1_aae02) (d' := 1) (As := []) hi (fun g1 hg => by have e : g1 = g := hg; rw [e]) rfl dJ0_charAt_5068e_1 ml_J0_492 yv_J0_isLatin1_aae02 (by omega) rfl rfl (by simp) (e_latin g hi) ?_
  refine r_if_eq (t := 16) dJ0_charAt_5068e_4 (by decide) (fun hh => absurd hh (by decide)) (fun _ => ?_)
  refine r_aload_n dJ0_charAt_5068e_7 0 rfl ?_
  refine eR.go (fun _ _ => ab_R.getSV hi dJ0_charAt_5068e_8 fl_J0_9) ?_
  refine r_iload_n dJ0_charAt_5068e_11 1 rfl ?_
  refine x_callS (Y := mJ1_charAt_3b067) (d' := 3) (As := [.ref (g.2.2.2.2 (100 + i)), .int (nI j)]) (rest := []) dJ0_charAt_5068e_12 ml_J0_495 ys_J1_charAt_3b067 (by omega) rfl rfl (by simp) (e_char1 g hi hj) ?_
  refine r_zret rfl (st_ch i hi j hj).2 dJ0_charAt_5068e_15 ?_
  exact ⟨rfl, rfl⟩
/-- over the state -/
theorem sR_str {ad : Nat → Nat} {σ : sS} {g : ab_S} (h : sR ad σ g) (i : Nat) : g.2.2.2.2 i = ad (200 + i) := by
  obtain ⟨ar, h⟩ := h
  rw [h.2.2.2.2.2.2.2]
theorem eR.s {ad : Nat → Nat} {σ : sS} {Y : ab_M} {d : Nat} {av : List Value} {r : Option Value} (h : ∀ g, sR ad σ g → ab_X eR d Y av g r g) : ab_X (sR ad) d Y av σ r σ := by
  intro g hg
  obtain ⟨r1, g1, σ1, h1, h2, h3, h4⟩ := h g hg g rfl
  have e2 : g1 = σ1 := h2
  rw [e2, h4] at h1
  exact ⟨r1, g, σ, h1, hg, h3, rfl⟩
theorem c_length {ad : Nat → Nat} (σ : sS) {i : Nat} (hi : i < 6) : ab_X (sR ad) 2 mJ0_length_8abf5 [.ref (ad (200 + i))] σ (some (.int (nI (ab_len.getD i 0)))) σ := eR.s (fun g hg => by rw [← sR_str hg i]; exact e_length g hi)
theorem c_charAt {ad : Nat → Nat} (σ : sS) {i j : Nat} (hi : i < 6) (hj : j < ab_len.getD i 0) : ab_X (sR ad) 4 mJ0_charAt_5068e [.ref (ad (200 + i)), .int (nI j)] σ (some (.int ((ab_byt.getD i []).getD j 0))) σ := eR.s (fun g hg => by rw [← sR_str hg i]; exact e_charAt g hi hj)
theorem s_ldcS {ad : Nat → Nat} {X : ab_M} {d pc i idx : Nat} {lo : List (Nat × Value)} {st : List Value} {σ : sS} {Q : Option Value → sS → Prop} {tx : String} (hd : decode X.2.1 pc = .ok (.ldc idx, 2)) (hm : (X.1.cls, idx, tx, i) ∈ ab_sr) (K : ab_E (sR ad) X d (pc + 2) lo (.ref (ad (200 + i)) :: st) σ Q) : ab_E (sR ad) X d pc lo st σ Q :=
  ab_E.hp (fun g hg => ⟨g, hg, fun r g' h => ab_R.ldcS hd hm (by rw [sR_str hg i]; exact h)⟩) K
