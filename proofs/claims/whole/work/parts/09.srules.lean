/-! rules of the heap, over the state -/
theorem la_ne {a t n m : Nat} (h : la a = (t, n)) (ht : t ≠ m) : (la a).1 ≠ m := by rw [h]; exact ht
theorem sR_is {ad : Nat → Nat} {σ : sS} {a ci N : Nat} {C : String} {T : u_T} (h : la a = (1, ci)) (hc : vwCl[ci]? = some (C, T, N)) : ab_is (sR ad) σ (ad a) C := by
  rintro g ⟨ar, hg⟩
  exact ⟨ci, _, T, N, (hg.1 a (la_ne h (by decide))).trans (congrArg some (ce_obj h)), hc⟩
theorem sR_isR {ad : Nat → Nat} {σ : sS} {a : Nat} (h : la a = (7, 0)) : ab_is (sR ad) σ (ad a) RX7 := by
  rintro g ⟨ar, hg⟩
  exact ⟨6, _, TX7, 2, (hg.1 a (la_ne h (by decide))).trans (congrArg some (ce_R h)), rfl⟩
theorem sA.cell {ad ar : Nat → Nat} {σ : sS} {g : ab_S} {a : Nat} {e : va_E} (h : sA ad ar σ g) (ha : (la a).1 ≠ 0) (he : ce ad ar σ a = e) : g.1 (ad a) = some e := by rw [h.1 a ha, he]
theorem sA.setI {ad ar : Nat → Nat} {σ : sS} {g : ab_S} {a k : Nat} {x : Int32} {e : va_E} (h : sA ad ar σ g) (ha : (la a).1 ≠ 0) (h7 : (la a).1 ≠ 7) (he : e = ce ad ar (uI σ a k x) a) : sA ad ar (uI σ a k x) (ab_up g.1 (ad a) e, g.2) := by
  refine h.upd ha he (fun b hb => ce_other (u2_r hb) rfl rfl rfl) (fun b hb => ⟨rfl, u2_r (fun q => h7 (by rw [← q]; exact hb))⟩) rfl
theorem sA.setL {ad ar : Nat → Nat} {σ : sS} {g : ab_S} {a k : Nat} {x : Int64} {e : va_E} (h : sA ad ar σ g) (ha : (la a).1 ≠ 0) (he : e = ce ad ar (uL σ a k x) a) : sA ad ar (uL σ a k x) (ab_up g.1 (ad a) e, g.2) := by
  refine h.upd ha he (fun b hb => ce_other rfl (u2_r hb) rfl rfl) (fun b hb => ⟨rfl, rfl⟩) rfl
theorem sA.setR {ad ar : Nat → Nat} {σ : sS} {g : ab_S} {a k : Nat} {x : Option Nat} {e : va_E} (h : sA ad ar σ g) (ha : (la a).1 ≠ 0) (he : e = ce ad ar (uR σ a k x) a) : sA ad ar (uR σ a k x) (ab_up g.1 (ad a) e, g.2) := by
  refine h.upd ha he (fun b hb => ce_other rfl rfl (u2_r hb) rfl) (fun b hb => ⟨rfl, rfl⟩) rfl
theorem sA.setU {ad ar : Nat → Nat} {σ : sS} {g : ab_S} {a : Nat} {x : Int32} {e : va_E} (h : sA ad ar σ g) (ha : (la a).1 ≠ 0) (he : e = ce ad ar (uU σ a x) a) : sA ad ar (uU σ a x) (ab_up g.1 (ad a) e, g.2) := by
  refine h.upd ha he (fun b hb => ce_other rfl rfl rfl (by show u1 _ _ _ _ = _; simp [u1, hb, vU])) (fun b hb => ⟨rfl, rfl⟩) rfl
section SRU
variable {ad : Nat → Nat} {X : ab_M} {d pc : Nat} {lo : List (Nat × Value)} {st : List Value} {σ : sS} {Q : Option Value → sS → Prop} {a ci idx k N n : Nat} {C : String} {T : u_T} {ty : Nat → FieldType}
theorem s_getI (O : ab_ok ci C T N ty) (hd : decode X.2.1 pc = .ok (.getfield idx, 3)) (hk : k < N) (hl : Cond.fieldLink X.1.cls idx (T k).1 (T k).2.1 (T k).2.2.1 ∈ ab_tb) (ha : la a = (1, ci)) (hkd : (kd ci)[k]? = some 0) (K : ab_E (sR ad) X d (pc + 3) lo (.int (vI σ a k) :: st) σ Q) : ab_E (sR ad) X d pc lo (.ref (ad a) :: st) σ Q :=
  ab_E.hp (fun g hg => ⟨g, hg, fun r g' h => by
    obtain ⟨ar, hg⟩ := hg
    exact ab_R.get O hd hk hl (hg.cell (la_ne ha (by decide)) (ce_obj ha)) (fv_at hkd) h⟩) K
theorem s_getL (O : ab_ok ci C T N ty) (hd : decode X.2.1 pc = .ok (.getfield idx, 3)) (hk : k < N) (hl : Cond.fieldLink X.1.cls idx (T k).1 (T k).2.1 (T k).2.2.1 ∈ ab_tb) (ha : la a = (1, ci)) (hkd : (kd ci)[k]? = some 1) (K : ab_E (sR ad) X d (pc + 3) lo (.long (vL σ a k) :: st) σ Q) : ab_E (sR ad) X d pc lo (.ref (ad a) :: st) σ Q :=
  ab_E.hp (fun g hg => ⟨g, hg, fun r g' h => by
    obtain ⟨ar, hg⟩ := hg
    exact ab_R.get O hd hk hl (hg.cell (la_ne ha (by decide)) (ce_obj ha)) (fv_at hkd) h⟩) K
theorem s_getR {b : Nat} (O : ab_ok ci C T N ty) (hd : decode X.2.1 pc = .ok (.getfield idx, 3)) (hk : k < N) (hl : Cond.fieldLink X.1.cls idx (T k).1 (T k).2.1 (T k).2.2.1 ∈ ab_tb) (ha : la a = (1, ci)) (hkd : (kd ci)[k]? = some 2) (hb : sr a k = some b) (K : ab_E (sR ad) X d (pc + 3) lo (.ref (ad b) :: st) σ Q) : ab_E (sR ad) X d pc lo (.ref (ad a) :: st) σ Q :=
  ab_E.hp (fun g hg => ⟨g, hg, fun r g' h => by
    obtain ⟨ar, hg⟩ := hg
    exact ab_R.get O hd hk hl (hg.cell (la_ne ha (by decide)) (ce_obj ha)) ((fv_at hkd).trans (by simp [fw, hb, va_rf])) h⟩) K
theorem s_getD {b : Nat} (O : ab_ok ci C T N ty) (hd : decode X.2.1 pc = .ok (.getfield idx, 3)) (hk : k < N) (hl : Cond.fieldLink X.1.cls idx (T k).1 (T k).2.1 (T k).2.2.1 ∈ ab_tb) (ha : la a = (1, ci)) (hkd : (kd ci)[k]? = some 3) (hb : vR σ a k = some b) (K : ab_E (sR ad) X d (pc + 3) lo (.ref (ad b) :: st) σ Q) : ab_E (sR ad) X d pc lo (.ref (ad a) :: st) σ Q :=
  ab_E.hp (fun g hg => ⟨g, hg, fun r g' h => by
    obtain ⟨ar, hg⟩ := hg
    exact ab_R.get O hd hk hl (hg.cell (la_ne ha (by decide)) (ce_obj ha)) ((fv_at hkd).trans (by simp [fw, hb, va_rf])) h⟩) K
theorem s_getU (hd : decode X.2.1 pc = .ok (.getfield idx, 3)) (hl : Cond.fieldLink X.1.cls idx (TX7 1).1 (TX7 1).2.1 (TX7 1).2.2.1 ∈ ab_tb) (ha : la a = (7, 0)) (K : ab_E (sR ad) X d (pc + 3) lo (.int (vU σ a) :: st) σ Q) : ab_E (sR ad) X d pc lo (.ref (ad a) :: st) σ Q :=
  ab_E.hp (fun g hg => ⟨g, hg, fun r g' h => by
    obtain ⟨ar, hg⟩ := hg
    exact ab_R.get ok_X7 hd (k := 1) (by decide) hl (hg.cell (la_ne ha (by decide)) (ce_R ha)) rfl h⟩) K
theorem s_putI {x : Int32} (O : ab_ok ci C T N ty) (hd : decode X.2.1 pc = .ok (.putfield idx, 3)) (hk : k < N) (hl : Cond.fieldLink X.1.cls idx (T k).1 (T k).2.1 (T k).2.2.1 ∈ ab_tb) (hfin : (T k).2.2.2 = false) (hn : narrow (ty k) (.int x) = .int x) (hfit : fits (ty k) (.int x) = true) (ha : la a = (1, ci)) (hkd : (kd ci)[k]? = some 0) (K : ab_E (sR ad) X d (pc + 3) lo st (uI σ a k x) Q) : ab_E (sR ad) X d pc lo (.int x :: .ref (ad a) :: st) σ Q :=
  ab_E.hp (fun g hg => by
    obtain ⟨ar, hg⟩ := hg
    have h0 : (la a).1 ≠ 0 := la_ne ha (by decide)
    refine ⟨_, ⟨ar, hg.setI h0 (la_ne ha (by decide)) (ce_obj ha).symm⟩, fun r g' h => ?_⟩
    refine ab_R.put O hd hk hl hfin hn hfit (by rw [fv_len]; exact (List.getElem?_eq_some_iff.mp hkd).1) (hg.cell h0 (ce_obj ha)) ?_
    rw [fv_set (σ' := uI σ a k x) hkd (by simp [fw, vI, uI, u2_s]) (fun j u hj => by simp only [fw, vI, uI, vL, vR]; rw [u2_n (Or.inr hj)])]
    exact h) K
theorem s_putL {x : Int64} (O : ab_ok ci C T N ty) (hd : decode X.2.1 pc = .ok (.putfield idx, 3)) (hk : k < N) (hl : Cond.fieldLink X.1.cls idx (T k).1 (T k).2.1 (T k).2.2.1 ∈ ab_tb) (hfin : (T k).2.2.2 = false) (hn : narrow (ty k) (.long x) = .long x) (hfit : fits (ty k) (.long x) = true) (ha : la a = (1, ci)) (hkd : (kd ci)[k]? = some 1) (K : ab_E (sR ad) X d (pc + 3) lo st (uL σ a k x) Q) : ab_E (sR ad) X d pc lo (.long x :: .ref (ad a) :: st) σ Q :=
  ab_E.hp (fun g hg => by
    obtain ⟨ar, hg⟩ := hg
    have h0 : (la a).1 ≠ 0 := la_ne ha (by decide)
    refine ⟨_, ⟨ar, hg.setL h0 (ce_obj ha).symm⟩, fun r g' h => ?_⟩
    refine ab_R.put O hd hk hl hfin hn hfit (by rw [fv_len]; exact (List.getElem?_eq_some_iff.mp hkd).1) (hg.cell h0 (ce_obj ha)) ?_
    rw [fv_set (σ' := uL σ a k x) hkd (by simp [fw, vL, uL, u2_s]) (fun j u hj => by simp only [fw, vI, uL, vL, vR]; rw [u2_n (Or.inr hj)])]
    exact h) K
theorem s_putD {b : Nat} (O : ab_ok ci C T N ty) (hd : decode X.2.1 pc = .ok (.putfield idx, 3)) (hk : k < N) (hl : Cond.fieldLink X.1.cls idx (T k).1 (T k).2.1 (T k).2.2.1 ∈ ab_tb) (hfin : (T k).2.2.2 = false) (hn : ∀ q, narrow (ty k) (.ref q) = .ref q) (hfit : ∀ q, fits (ty k) (.ref q) = true) (ha : la a = (1, ci)) (hkd : (kd ci)[k]? = some 3) (K : ab_E (sR ad) X d (pc + 3) lo st (uR σ a k (some b)) Q) : ab_E (sR ad) X d pc lo (.ref (ad b) :: .ref (ad a) :: st) σ Q :=
  ab_E.hp (fun g hg => by
    obtain ⟨ar, hg⟩ := hg
    have h0 : (la a).1 ≠ 0 := la_ne ha (by decide)
    refine ⟨_, ⟨ar, hg.setR h0 (ce_obj ha).symm⟩, fun r g' h => ?_⟩
    refine ab_R.put O hd hk hl hfin (hn _) (hfit _) (by rw [fv_len]; exact (List.getElem?_eq_some_iff.mp hkd).1) (hg.cell h0 (ce_obj ha)) ?_
    rw [fv_set (σ' := uR σ a k (some b)) hkd (by simp [fw, vR, uR, u2_s, va_rf]) (fun j u hj => by simp only [fw, vI, uR, vL, vR]; rw [u2_n (Or.inr hj)])]
    exact h) K
theorem s_putU {x : Int32} (hd : decode X.2.1 pc = .ok (.putfield idx, 3)) (hl : Cond.fieldLink X.1.cls idx (TX7 1).1 (TX7 1).2.1 (TX7 1).2.2.1 ∈ ab_tb) (ha : la a = (7, 0)) (K : ab_E (sR ad) X d (pc + 3) lo st (uU σ a x) Q) : ab_E (sR ad) X d pc lo (.int x :: .ref (ad a) :: st) σ Q :=
  ab_E.hp (fun g hg => by
    obtain ⟨ar, hg⟩ := hg
    have h0 : (la a).1 ≠ 0 := la_ne ha (by decide)
    refine ⟨_, ⟨ar, hg.setU h0 (ce_R ha).symm⟩, fun r g' h => ?_⟩
    refine ab_R.put ok_X7 hd (k := 1) (by decide) hl rfl rfl rfl (fs := [.ref (ar a), .int (vU σ a)]) (Nat.le_refl 2) (hg.cell h0 (ce_R ha)) ?_
    have e1 : vU (uU σ a x) a = x := by simp [vU, uU, u1]
    rw [e1] at h
    exact h) K
theorem s_iald {i : Int32} (hd : decode X.2.1 pc = .ok (.iaload, 1)) (ha : la a = (2, n)) (hin : vp_in i n) (K : ab_E (sR ad) X d (pc + 1) lo (.int (vI σ a i.toNatClampNeg) :: st) σ Q) : ab_E (sR ad) X d pc lo (.int i :: .ref (ad a) :: st) σ Q :=
  ab_E.hp (fun g hg => ⟨g, hg, fun r g' h => by
    obtain ⟨ar, hg⟩ := hg
    exact ab_R.iald hd (hg.cell (la_ne ha (by decide)) (ce_I ha)) hin h⟩) K
theorem s_zald {i : Int32} (hd : decode X.2.1 pc = .ok (.baload, 1)) (ha : la a = (4, n)) (hin : vp_in i n) (K : ab_E (sR ad) X d (pc + 1) lo (.int (vI σ a i.toNatClampNeg) :: st) σ Q) : ab_E (sR ad) X d pc lo (.int i :: .ref (ad a) :: st) σ Q :=
  ab_E.hp (fun g hg => ⟨g, hg, fun r g' h => by
    obtain ⟨ar, hg⟩ := hg
    exact ab_R.zald hd (hg.cell (la_ne ha (by decide)) (ce_Z ha)) hin h⟩) K
theorem s_lald {i : Int32} (hd : decode X.2.1 pc = .ok (.laload, 1)) (ha : la a = (3, n)) (hin : vp_in i n) (K : ab_E (sR ad) X d (pc + 1) lo (.long (vL σ a i.toNatClampNeg) :: st) σ Q) : ab_E (sR ad) X d pc lo (.int i :: .ref (ad a) :: st) σ Q :=
  ab_E.hp (fun g hg => ⟨g, hg, fun r g' h => by
    obtain ⟨ar, hg⟩ := hg
    exact ab_R.lald hd (hg.cell (la_ne ha (by decide)) (ce_L ha)) hin h⟩) K
theorem s_aald5 {i : Int32} {b : Nat} (hd : decode X.2.1 pc = .ok (.aaload, 1)) (ha : la a = (5, n)) (hin : vp_in i n) (hb : sr a i.toNatClampNeg = some b) (K : ab_E (sR ad) X d (pc + 1) lo (.ref (ad b) :: st) σ Q) : ab_E (sR ad) X d pc lo (.int i :: .ref (ad a) :: st) σ Q :=
  ab_E.hp (fun g hg => ⟨g, hg, fun r g' h => by
    obtain ⟨ar, hg⟩ := hg
    exact ab_R.aald3 hd (hg.cell (la_ne ha (by decide)) (ce_M ha)) hin (by simpa [hb, va_rf] using h)⟩) K
theorem s_aald6 {i : Int32} {b : Nat} (hd : decode X.2.1 pc = .ok (.aaload, 1)) (ha : la a = (6, n)) (hin : vp_in i n) (hb : sr a i.toNatClampNeg = some b) (K : ab_E (sR ad) X d (pc + 1) lo (.ref (ad b) :: st) σ Q) : ab_E (sR ad) X d pc lo (.int i :: .ref (ad a) :: st) σ Q :=
  ab_E.hp (fun g hg => ⟨g, hg, fun r g' h => by
    obtain ⟨ar, hg⟩ := hg
    exact ab_R.aald4 hd (hg.cell (la_ne ha (by decide)) (ce_O ha)) hin (by simpa [hb, va_rf] using h)⟩) K
theorem upd_u2 {f : Nat → Nat → Int32} {a k : Nat} {x : Int32} : upd (f a) k x = u2 f a k x a := by
  funext j
  by_cases hj : j = k
  · subst hj
    rw [u2_s]
    simp [upd]
  · rw [u2_n (Or.inr hj)]
    simp [upd, hj]
theorem updL_u2 {f : Nat → Nat → Int64} {a k : Nat} {x : Int64} : vp_updL (f a) k x = u2 f a k x a := by
  funext j
  by_cases hj : j = k
  · subst hj
    rw [u2_s]
    simp [vp_updL]
  · rw [u2_n (Or.inr hj)]
    simp [vp_updL, hj]
theorem s_iast {i x : Int32} (hd : decode X.2.1 pc = .ok (.iastore, 1)) (ha : la a = (2, n)) (hin : vp_in i n) (K : ab_E (sR ad) X d (pc + 1) lo st (uI σ a i.toNatClampNeg x) Q) : ab_E (sR ad) X d pc lo (.int x :: .int i :: .ref (ad a) :: st) σ Q :=
  ab_E.hp (fun g hg => by
    obtain ⟨ar, hg⟩ := hg
    have h0 : (la a).1 ≠ 0 := la_ne ha (by decide)
    refine ⟨_, ⟨ar, hg.setI h0 (la_ne ha (by decide)) (ce_I ha).symm⟩, fun r g' h => ?_⟩
    refine ab_R.iast hd (hg.cell h0 (ce_I ha)) hin ?_
    have e1 : upd (vI σ a) i.toNatClampNeg x = vI (uI σ a i.toNatClampNeg x) a := upd_u2
    rw [e1]
    exact h) K
theorem s_zast {i x : Int32} (hd : decode X.2.1 pc = .ok (.bastore, 1)) (ha : la a = (4, n)) (hin : vp_in i n) (hx : vp_nar .boolean x = x) (K : ab_E (sR ad) X d (pc + 1) lo st (uI σ a i.toNatClampNeg x) Q) : ab_E (sR ad) X d pc lo (.int x :: .int i :: .ref (ad a) :: st) σ Q :=
  ab_E.hp (fun g hg => by
    obtain ⟨ar, hg⟩ := hg
    have h0 : (la a).1 ≠ 0 := la_ne ha (by decide)
    refine ⟨_, ⟨ar, hg.setI h0 (la_ne ha (by decide)) (ce_Z ha).symm⟩, fun r g' h => ?_⟩
    refine ab_R.zast hd (hg.cell h0 (ce_Z ha)) hin ?_
    have e1 : upd (vI σ a) i.toNatClampNeg x = vI (uI σ a i.toNatClampNeg x) a := upd_u2
    rw [hx, e1]
    exact h) K
theorem s_last {i : Int32} {x : Int64} (hd : decode X.2.1 pc = .ok (.lastore, 1)) (ha : la a = (3, n)) (hin : vp_in i n) (K : ab_E (sR ad) X d (pc + 1) lo st (uL σ a i.toNatClampNeg x) Q) : ab_E (sR ad) X d pc lo (.long x :: .int i :: .ref (ad a) :: st) σ Q :=
  ab_E.hp (fun g hg => by
    obtain ⟨ar, hg⟩ := hg
    have h0 : (la a).1 ≠ 0 := la_ne ha (by decide)
    refine ⟨_, ⟨ar, hg.setL h0 (ce_L ha).symm⟩, fun r g' h => ?_⟩
    refine ab_R.last hd (hg.cell h0 (ce_L ha)) hin ?_
    have e1 : vp_updL (vL σ a) i.toNatClampNeg x = vL (uL σ a i.toNatClampNeg x) a := updL_u2
    rw [e1]
    exact h) K
end SRU
