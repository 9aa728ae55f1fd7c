/-! going deep: the component lets go, and goes back -/
theorem l_tdP (il gA : Bool) {x y : Int32} (hx : x = 0 ↔ il = false) (hy : y = 0 ↔ gA = false) : l_td x y = nI (bv il 4 + bv gA 8) := by
  unfold l_td
  cases il <;> cases gA
  · rw [if_pos (hx.mpr rfl), if_pos (hy.mpr rfl)]; rfl
  · rw [if_pos (hx.mpr rfl), if_neg (fun q => absurd (hy.mp q) (by decide))]; rfl
  · rw [if_neg (fun q => absurd (hx.mp q) (by decide)), if_pos (hy.mpr rfl)]; rfl
  · rw [if_neg (fun q => absurd (hx.mp q) (by decide)), if_neg (fun q => absurd (hy.mp q) (by decide))]; rfl
theorem flv_in {sc : Nat → List Nat} {cu : Nat → Nat} {gd lp : Nat → Bool} {hs : List Nat} {v : Nat} (h : v ∈ hs) : flv sc cu gd lp hs v = 1 + bv (decide (v ∈ (sc v).take (cu v))) 2 + bv (gd v) 8 := if_pos h
theorem flv_out {sc : Nat → List Nat} {cu : Nat → Nat} {gd lp : Nat → Bool} {hs : List Nat} {v : Nat} (h : v ∉ hs) : flv sc cu gd lp hs v = bv (lp v) 4 + bv (gd v) 8 := if_neg h
/-- what is held from v on is let go -/
theorem y_rel {sc : Nat → List Nat} {mk : Nat → Bool} {fM : sS → List Int32 → Int32} {n ne v : Nat} {od lo cu : Nat → Nat} {gd lp : Nat → Bool} {sg hr pr : List Nat} {σ : sS} {il gA : Bool} (h : lR sc n od lo cu gd lp (sg ++ v :: hr) pr ne σ) (hnd : (sg ++ v :: hr).Nodup) (hv0 : ∀ w, w ∈ sg ++ v :: hr → od w ≠ 0) (hM : ∀ w, w < n → (fM σ [nI w] = 0 ↔ mk w = false)) (hc : cu v = (sc v).length) (hil : il = true ↔ sg ≠ [] ∨ v ∈ sc v) (hgA : gA = true ↔ (∃ m, m ∈ v :: sg ∧ gd m = true) ∨ (il = true ∧ ∃ m, m ∈ v :: sg ∧ mk m = true)) : lR sc n od lo cu (fun w => if w ∈ v :: sg then gA else gd w) (fun w => if w ∈ v :: sg then il else lp w) hr pr ne (l_rlu fM σ (nI v)) ∧ lf1 lL σ (l_rlu fM σ (nI v)) ∧ ∀ j, vI (l_rlu fM σ (nI v)) 21 j = vI σ 21 j := by
  obtain ⟨a1, a2, a3, a4, ⟨a6, a7⟩, a8, a9, a10, a11, a12, a13⟩ := id h
  have hle := nodup_len hnd a10
  have hlen : (sg ++ v :: hr).length = sg.length + hr.length + 1 := by rw [List.length_append, List.length_cons]; omega
  rw [hlen] at hle a7
  have hvm : v ∈ sg ++ v :: hr := by simp
  have vn := a10 v hvm
  have nd := List.nodup_append.mp hnd
  have vsg : v ∉ sg := fun q => nd.2.2 v q v List.mem_cons_self rfl
  have eH : (vI σ 19 7).toNatClampNeg - 1 = sg.length + hr.length := by rw [a7, nI_clamp (by omega)]; rfl
  have ek : l_fr σ (nI v) (sg.length + hr.length) = hr.length := y_fr (hn := 3000) (by omega) sg hr a6 vsg (fun x hx => by have := a10 x (List.mem_append.mpr (Or.inl hx)); omega) (by omega) (by omega)
  have e1 : l_rlu fM σ (nI v) = l_rk fM σ (nI v) (sg.length + hr.length) hr.length := by
    unfold l_rlu l_rl
    rw [eH, ek]
  have e2 : sg.length + hr.length + 1 - hr.length = sg.length + 1 := by omega
  have hil0 : l_il σ (nI v) (sg.length + hr.length) hr.length = 0 ↔ il = false := by
    unfold l_il
    rw [nI_sb (by omega), e2]
    by_cases s : sg = []
    · have hv : nI (flv sc cu gd lp (sg ++ v :: hr) v) &&& 2 = if decide (v ∈ sc v) then 2 else 0 := by
        rw [flv_in hvm, hc, List.take_length]
        exact (fl_bits _ _).2.1
      have hh : ¬ (1 : Int32) < nI (sg.length + 1) := by rw [s]; decide
      rw [if_neg hh]
      unfold l_hs
      rw [rg_nI (by omega), a3 v vn, hv]
      by_cases q : v ∈ sc v
      · rw [decide_eq_true q]
        have : il = true := hil.mpr (Or.inr q)
        rw [this]
        exact ⟨fun z => absurd z (by decide), fun z => absurd z (by decide)⟩
      · rw [decide_eq_false q]
        have : il = false := by
          cases e : il with
          | false => rfl
          | true => rcases hil.mp e with z | z; exact absurd s z; exact absurd z q
        rw [this]
        exact ⟨fun _ => rfl, fun _ => by decide⟩
    · have hs1 : 1 ≤ sg.length := by
        cases sg with
        | nil => exact absurd rfl s
        | cons x l => rw [List.length_cons]; omega
      have hh : (1 : Int32) < nI (sg.length + 1) := nI_lt (a := 1) (by omega) (by omega)
      rw [if_pos hh]
      have : il = true := hil.mpr (Or.inl s)
      rw [this]
      exact ⟨fun z => absurd z (by decide), fun z => absurd z (by decide)⟩
  have hsp : sg ++ v :: hr = (sg ++ [v]) ++ hr := by simp
  have hl1 : (sg ++ [v]).length = sg.length + 1 := by simp
  have mem1 : ∀ w, w ∈ v :: sg ↔ w ∈ sg ++ [v] := fun w => by
    rw [List.mem_append, List.mem_singleton, List.mem_cons]
    exact ⟨fun q => q.symm, fun q => q.symm⟩
  have a6' : rwS σ 25 ((sg ++ [v]) ++ hr) := hsp ▸ a6
  have inH : ∀ w, w ∈ v :: sg → w ∈ sg ++ v :: hr := fun w hw => by rw [hsp]; exact List.mem_append.mpr (Or.inl ((mem1 w).mp hw))
  have at1 : ∀ j, hr.length ≤ j → j < hr.length + (sg.length + 1) → ∃ x, x ∈ v :: sg ∧ x < n ∧ vI σ 25 j = nI x := by
    intro j h1 h2
    obtain ⟨x, x1, x2⟩ := rwS.mem (l1 := sg ++ [v]) a6' j h1 (by rw [hl1]; omega)
    exact ⟨x, (mem1 x).mpr x1, a10 x (inH x ((mem1 x).mpr x1)), x2⟩
  have at2 : ∀ x, x ∈ v :: sg → ∃ j, hr.length ≤ j ∧ j < hr.length + (sg.length + 1) ∧ vI σ 25 j = nI x := by
    intro x hx
    obtain ⟨j, j1, j2, j3⟩ := rwS.idx (l1 := sg ++ [v]) a6' ((mem1 x).mp hx)
    rw [hl1] at j2
    exact ⟨j, j1, by omega, j3⟩
  have gf : ∀ w, w ∈ v :: sg → (l_hs σ (nI w) 8 = 0 ↔ gd w = false) := by
    intro w hw
    have wh := inH w hw
    unfold l_hs
    have wn := a10 w wh
    rw [rg_nI (by omega), a3 w wn, flv_in wh, (fl_bits _ _).2.2.1]
    cases gd w
    · exact ⟨fun _ => rfl, fun _ => by decide⟩
    · exact ⟨fun z => absurd z (by decide), fun z => absurd z (by decide)⟩
  have hgA0 : l_gd fM σ (l_il σ (nI v) (sg.length + hr.length) hr.length) (sg.length + 1) hr.length 0 = 0 ↔ gA = false := by
    rw [l_gdP]
    constructor
    · rintro ⟨-, q⟩
      cases e : gA with
      | false => rfl
      | true =>
        exfalso
        rcases hgA.mp e with ⟨m, m1, m2⟩ | ⟨i1, m, m1, m2⟩
        · obtain ⟨j, j1, j2, j3⟩ := at2 m m1
          have := (q j j1 j2).1
          rw [rg_nI (by omega), j3] at this
          rw [(gf m m1).mp this] at m2
          exact nomatch m2
        · obtain ⟨j, j1, j2, j3⟩ := at2 m m1
          have := (q j j1 j2).2
          rw [rg_nI (by omega), j3] at this
          rcases this with z | z
          · rw [hil0.mp z] at i1; exact nomatch i1
          · rw [(hM m (a10 m (inH m m1))).mp z] at m2; exact nomatch m2
    · intro e
      refine ⟨rfl, fun j j1 j2 => ?_⟩
      obtain ⟨x, x1, x2, x3⟩ := at1 j j1 j2
      rw [rg_nI (by omega), x3]
      refine ⟨(gf x x1).mpr ?_, ?_⟩
      · cases e3 : gd x with
        | false => rfl
        | true => rw [hgA.mpr (Or.inl ⟨x, x1, e3⟩)] at e; exact nomatch e
      · cases e3 : il with
        | false => exact Or.inl (hil0.mpr e3)
        | true =>
          refine Or.inr ((hM x x2).mpr ?_)
          cases e4 : mk x with
          | false => rfl
          | true => rw [hgA.mpr (Or.inr ⟨e3, x, x1, e4⟩)] at e; exact nomatch e
  have et := l_tdP il gA hil0 hgA0
  have e3 : l_rlu fM σ (nI v) = uI (l_fl (nI (bv il 4 + bv gA 8)) (sg.length + 1) hr.length σ) 19 7 (nI hr.length) := by
    rw [e1]
    unfold l_rk
    rw [e2, et]
  have c22 := a9 22 (by decide) (by decide)
  obtain ⟨r1, r2, r3⟩ := l_flP (t := nI (bv il 4 + bv gA 8)) (N := n) a12 (sg.length + 1) hr.length σ c22 (by omega) (fun j h1 h2 => by
    obtain ⟨x, x1, x2, x3⟩ := at1 j h1 h2
    exact ⟨x, x2, x3⟩)
  have S5 : ∀ w, w ∉ v :: sg → (w ∈ sg ++ v :: hr ↔ w ∈ hr) := by
    intro w hw
    rw [hsp, List.mem_append]
    exact ⟨fun q => q.resolve_left (fun z => hw ((mem1 w).mpr z)), fun q => Or.inr q⟩
  have nS : ∀ w, w ∈ hr → w ∉ v :: sg := by
    intro w hw q
    rw [hsp] at hnd
    exact (List.nodup_append.mp hnd).2.2 w ((mem1 w).mp q) w hw rfl
  rw [e3]
  generalize l_fl (nI (bv il 4 + bv gA 8)) (sg.length + 1) hr.length σ = υ at r1 r2 r3
  have fr : ∀ a j, a ≠ 22 → vI υ a j = vI σ a j := fun a j q => r3.1 a j (by intro z; exact q (List.mem_singleton.mp z))
  have hC : ∀ r, vC υ r = vC σ r := fun r => by unfold vC; rw [r3.2]
  refine ⟨⟨fun w hw => ?_, fun w hw => ?_, fun w hw => ?_, ⟨a4.1.c (fun j _ => fr 24 j (by decide)), ?_⟩, ⟨(rwS.app (l1 := sg ++ [v]) a6').c (fun j _ => fr 25 j (by decide)), rfl⟩, ?_, fun r h1 h2 => ?_, fun w hw => ?_, fun w hw => ?_, a12, a13⟩, ⟨fun a j ha => ?_, r3.2⟩, fun j => fr 21 j (by decide)⟩
  · exact (fr 20 w (by decide)).trans (a1 w hw)
  · refine (fr 21 w (by decide)).trans (a2 w ((S5 w (nS w hw)).mpr hw))
  · show vI υ 22 w = _
    by_cases q : w ∈ v :: sg
    · have wn : w ∉ hr := fun z => nS w z q
      rw [flv_out wn]
      simp only [if_pos q]
      obtain ⟨j, j1, j2, j3⟩ := at2 w q
      exact r1 w hw ⟨j, j1, j2, j3⟩
    · rw [r2 w hw (fun j h1 h2 z => by
        obtain ⟨x, x1, x2, x3⟩ := at1 j h1 h2
        rw [x3] at z
        exact q (nI_ij (by omega) (by omega) z ▸ x1)), a3 w hw]
      refine congrArg nI ?_
      unfold flv
      simp only [if_neg q, S5 w q]
  · exact (fr 19 6 (by decide)).trans a4.2
  · exact (fr 19 8 (by decide)).trans a8
  · show n ≤ vC υ r
    rw [hC]; exact a9 r h1 h2
  · exact a10 w ((S5 w (nS w hw)).mpr hw)
  · have q : w ∉ v :: sg := fun q => hv0 w (inH w q) hw
    simp only [if_neg q]
    exact a11 w hw
  · show vI (uI υ 19 7 _) a j = _
    rw [vI_q (fun z => ha (by rw [z.1]; decide))]
    exact fr a j (fun z => ha (by rw [z]; decide))
theorem y_lvR {sc : Nat → List Nat} {mk : Nat → Bool} {fM : sS → List Int32 → Int32} {n ne v : Nat} {od lo cu : Nat → Nat} {gd lp : Nat → Bool} {hs pr : List Nat} {τ : sS} (h : lR sc n od lo cu gd lp hs (v :: pr) ne τ) (hT : TI sc mk od lo cu gd lp hs (v :: pr) ne) (hM : ∀ σ, lf1 lL τ σ → ∀ w, w < n → (fM σ [nI w] = 0 ↔ mk w = false)) (hc : cu v = (sc v).length) (hl : lo v = od v) : ∃ gd' lp' hr, lR sc n od lo cu gd' lp' hr pr ne (l_lv fM τ (nI v)) ∧ TI sc mk od lo cu gd' lp' hr pr ne ∧ lf1 lL τ (l_lv fM τ (nI v)) := by
  have vh : v ∈ hs := hT.1.2.2.2.2.2.1 v List.mem_cons_self
  obtain ⟨sg, hr, ehs⟩ := List.append_of_mem vh
  rw [ehs] at h hT vh
  have h0 := h.pop
  have f0 : lf1 lL τ (l_v0 τ) := lf1.u (by decide)
  have vn := h0.2.2.2.2.2.2.2.1 v vh
  have n3 := h0.2.2.2.2.2.2.2.2.2.1
  obtain ⟨T1, T2⟩ := hT.top
  have hnd := pw_nd hT.1.2.2.2.1
  obtain ⟨w1, w2, w3⟩ := List.pairwise_append.mp hT.1.2.2.2.1
  obtain ⟨w4, w5⟩ := List.pairwise_cons.mp w2
  let il : Bool := decide (sg ≠ []) || decide (v ∈ sc v)
  let gA : Bool := (v :: sg).any gd || (il && (v :: sg).any mk)
  have hil : il = true ↔ sg ≠ [] ∨ v ∈ sc v := by
    show (decide (sg ≠ []) || decide (v ∈ sc v)) = true ↔ _
    rw [Bool.or_eq_true, decide_eq_true_iff, decide_eq_true_iff]
  have hgA : gA = true ↔ (∃ m, m ∈ v :: sg ∧ gd m = true) ∨ (il = true ∧ ∃ m, m ∈ v :: sg ∧ mk m = true) := by
    show ((v :: sg).any gd || (il && (v :: sg).any mk)) = true ↔ _
    rw [Bool.or_eq_true, Bool.and_eq_true, List.any_eq_true, List.any_eq_true]
  obtain ⟨r1, r2, r3⟩ := y_rel (fM := fM) (mk := mk) h0 hnd hT.1.1 (hM _ f0) hc hil hgA
  have e1 : l_v1 fM τ (nI v) = l_rlu fM (l_v0 τ) (nI v) := by
    unfold l_v1
    rw [rg_nI (by omega), rg_nI (by omega), h0.2.1 v vh, h0.1 v vn, hl, if_pos rfl]
  have hlo21 : vI (l_rlu fM (l_v0 τ) (nI v)) 21 v = nI (lo v) := (r3 v).trans (h0.2.1 v vh)
  unfold l_lv
  rw [e1]
  have o1 := hT.1.2.2.1 v
  have n2 := h0.2.2.2.2.2.2.2.2.2.2
  generalize l_rlu fM (l_v0 τ) (nI v) = υ at r1 r2 hlo21
  have h1 : ∀ w, w ∈ v :: sg → (if w ∈ v :: sg then il else lp w) = il ∧ (if w ∈ v :: sg then gA else gd w) = gA := fun w hw => ⟨if_pos hw, if_pos hw⟩
  cases hp : pr with
  | nil =>
    have e2 : l_v3 υ (nI v) = υ := by
      unfold l_v3
      have e : vI υ 19 6 = nI 0 := by have := r1.2.2.2.1.2; rw [hp] at this; exact this
      rw [if_pos (by rw [e]; decide)]
    rw [e2]
    rw [hp] at r1 hT
    exact ⟨_, _, hr, r1, hT.rel hc hl hil hgA h1 (fun w hw => if_neg hw) (fun w hw _ => if_neg hw) (fun b l q => nomatch q), f0.tr r2⟩
  | cons b l =>
    rw [hp] at r1 hT T2
    have bv' : od b < od v := T2 b List.mem_cons_self
    have bh : b ∈ sg ++ v :: hr := hT.1.2.2.2.2.2.1 b (List.mem_cons_of_mem _ List.mem_cons_self)
    have bS : b ∉ v :: sg := by
      intro q
      rcases List.mem_cons.mp q with z | z
      · rw [z] at bv'; omega
      · have := w3 b z v List.mem_cons_self; omega
    have bhr : b ∈ hr := by
      rcases List.mem_append.mp bh with z | z
      · exact absurd (List.mem_cons_of_mem _ z) bS
      · rcases List.mem_cons.mp z with z | z
        · exact absurd (z ▸ List.mem_cons_self) bS
        · exact z
    have lob := (hT.2.1 b bh).1
    have hll : l.length < 3000 := by
      have n1 := nodup_len (pw_nd hT.1.2.2.2.2.1) (fun x hx => h0.2.2.2.2.2.2.2.1 x (hT.1.2.2.2.2.2.1 x hx))
      simp only [List.length_cons] at n1
      omega
    have vhr : v ∉ hr := fun q => by have := w4 v q; omega
    have e2 : l_v3 υ (nI v) = l_v2 υ (nI v) (nI b) := by
      unfold l_v3
      have e : vI υ 19 6 = nI (l.length + 1) := r1.2.2.2.1.2
      rw [e, if_neg (show ¬ nI (l.length + 1) ≤ 0 from nI_ge (a := 0) (by omega) (by omega)), nI_pred, rg_nI (by omega)]
      rw [show vI υ 24 l.length = nI b from r1.2.2.2.1.1.1]
    rw [e2]
    have hg : nI (flv sc cu (fun w => if w ∈ v :: sg then gA else gd w) (fun w => if w ∈ v :: sg then il else lp w) hr v) &&& 8 = if gA then 8 else 0 := by
      rw [flv_out vhr]
      simp only [if_pos (show v ∈ v :: sg from List.mem_cons_self)]
      exact (fr_bits _ _).2.1
    obtain ⟨s1, s2⟩ := y_v2 r1 bhr vn hlo21 (by omega) (by omega) hg
    have elo : pu lo b (min (lo b) (lo v)) = lo := funext fun w => by
      by_cases q : w = b
      · rw [q, pu_s, Nat.min_eq_left (by omega)]
      · rw [pu_n q]
    rw [elo] at s1
    refine ⟨_, _, hr, s1, hT.rel hc hl hil hgA (fun w hw => ?_) (fun w hw => if_neg hw) (fun w hw hn => ?_) (fun b' l' q => ?_), (f0.tr r2).tr s2⟩
    · refine ⟨if_pos hw, ?_⟩
      rw [pu_n (show w ≠ b from fun q => bS (q ▸ hw))]
      exact if_pos hw
    · rw [pu_n (show w ≠ b from fun q => hn l (by rw [q]))]
      exact if_neg hw
    · injection q with q1 q2
      rw [← q1, pu_s]
      simp only [if_neg bS]
