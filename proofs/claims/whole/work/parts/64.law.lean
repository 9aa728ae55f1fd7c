/-! the law: its script, its room, its loop -/
theorem tb_o31 {w : Int32} (w0 : ¬ w = 0) (w1 : ¬ w = 1) (w2 : ¬ w = 2) (w3 : ¬ w = 3) (w4 : ¬ w = 4) (w5 : ¬ w = 5) (w6 : ¬ w = 6) (w7 : ¬ w = 7) (w8 : ¬ w = 8) (w9 : ¬ w = 9) (w10 : ¬ w = 10) (w11 : ¬ w = 11) (w12 : ¬ w = 12) (w13 : ¬ w = 13) (w14 : ¬ w = 14) (w15 : ¬ w = 15) (w16 : ¬ w = 16) (w17 : ¬ w = 17) (w18 : ¬ w = 18) (w19 : ¬ w = 19) (w20 : ¬ w = 20) (w21 : ¬ w = 21) (w22 : ¬ w = 22) (w23 : ¬ w = 23) (w24 : ¬ w = 24) (w25 : ¬ w = 25) (w26 : ¬ w = 26) (w27 : ¬ w = 27) (w28 : ¬ w = 28) (w29 : ¬ w = 29) (w30 : ¬ w = 30) : w.toInt < 0 ∨ 30 < w.toInt := by
  have e0 : ¬ w.toInt = 0 := toI_ne w0
  have e1 : ¬ w.toInt = 1 := toI_ne w1
  have e2 : ¬ w.toInt = 2 := toI_ne w2
  have e3 : ¬ w.toInt = 3 := toI_ne w3
  have e4 : ¬ w.toInt = 4 := toI_ne w4
  have e5 : ¬ w.toInt = 5 := toI_ne w5
  have e6 : ¬ w.toInt = 6 := toI_ne w6
  have e7 : ¬ w.toInt = 7 := toI_ne w7
  have e8 : ¬ w.toInt = 8 := toI_ne w8
  have e9 : ¬ w.toInt = 9 := toI_ne w9
  have e10 : ¬ w.toInt = 10 := toI_ne w10
  have e11 : ¬ w.toInt = 11 := toI_ne w11
  have e12 : ¬ w.toInt = 12 := toI_ne w12
  have e13 : ¬ w.toInt = 13 := toI_ne w13
  have e14 : ¬ w.toInt = 14 := toI_ne w14
  have e15 : ¬ w.toInt = 15 := toI_ne w15
  have e16 : ¬ w.toInt = 16 := toI_ne w16
  have e17 : ¬ w.toInt = 17 := toI_ne w17
  have e18 : ¬ w.toInt = 18 := toI_ne w18
  have e19 : ¬ w.toInt = 19 := toI_ne w19
  have e20 : ¬ w.toInt = 20 := toI_ne w20
  have e21 : ¬ w.toInt = 21 := toI_ne w21
  have e22 : ¬ w.toInt = 22 := toI_ne w22
  have e23 : ¬ w.toInt = 23 := toI_ne w23
  have e24 : ¬ w.toInt = 24 := toI_ne w24
  have e25 : ¬ w.toInt = 25 := toI_ne w25
  have e26 : ¬ w.toInt = 26 := toI_ne w26
  have e27 : ¬ w.toInt = 27 := toI_ne w27
  have e28 : ¬ w.toInt = 28 := toI_ne w28
  have e29 : ¬ w.toInt = 29 := toI_ne w29
  have e30 : ¬ w.toInt = 30 := toI_ne w30
  omega
abbrev mL_law : ab_M := (yL_law, cL_law, 7, some .boolean)
theorem s_sld {ad : Nat → Nat} {X : ab_M} {d pc sn : Nat} {sq : Nat → Int32} {lo : List (Nat × Value)} {st : List Value} {σ : sS} {Q : Option Value → sS → Prop} {i : Int32} (hsn : ad 1201 = sn) (hsq : ∀ j, Int32.ofNat (ad (2200 + j)) = sq j) (hd : decode X.2.1 pc = .ok (.iaload, 1)) (hin : vp_in i sn) (K : ab_E (sR ad) X d (pc + 1) lo (.int (sq i.toNatClampNeg) :: st) σ Q) : ab_E (sR ad) X d pc lo (.int i :: .ref (ad 1200) :: st) σ Q := by
  intro g hg
  obtain ⟨r, g', σ', ⟨h1, h2, h3⟩, h4, h5⟩ := K g hg
  refine ⟨r, g', σ', ⟨h1, h2, ?_⟩, h4, h5⟩
  intro l κ p e R s m args below meth c c0 s0 H locs ls cx hdd hll hcc hss hc0 hs0 hH hS hlo
  have hk : κ.2.2.1 = fun i => ad (200 + i) := by
    obtain ⟨ar, hg⟩ := hg
    rw [hH.2.1, hg.2.2.2.2.2.2.2]
  obtain ⟨hX, hbl, hbA⟩ := cx.2.2.2.2.2.2.2.2.2.2.2.2.2.2.2.2.2.2.1
  rw [hk] at hX hbl hbA
  have e1 : (fun j => Int32.ofNat ((fun i => ad (200 + i)) (2000 + j))) = sq := by
    funext j
    rw [← hsq j]
    show Int32.ofNat (ad (200 + (2000 + j))) = _
    rw [show 200 + (2000 + j) = 2200 + j by omega]
  rw [e1] at hX
  have e2 : (fun i => ad (200 + i)) 1001 = sn := hsn
  rw [e2] at hX
  exact va_sld cx.1 cx.2.1 hX hbl hbA hS hin hd (h3 l κ p e R s m args below meth c c0 s0 H locs ls cx hdd hll hcc hss hc0 hs0 hH hS hlo)
theorem s_slen {ad : Nat → Nat} {X : ab_M} {d pc sn : Nat} {lo : List (Nat × Value)} {st : List Value} {σ : sS} {Q : Option Value → sS → Prop} (hsn : ad 1201 = sn) (hd : decode X.2.1 pc = .ok (.arraylength, 1)) (K : ab_E (sR ad) X d (pc + 1) lo (.int (nI sn) :: st) σ Q) : ab_E (sR ad) X d pc lo (.ref (ad 1200) :: st) σ Q := by
  intro g hg
  obtain ⟨r, g', σ', ⟨h1, h2, h3⟩, h4, h5⟩ := K g hg
  refine ⟨r, g', σ', ⟨h1, h2, ?_⟩, h4, h5⟩
  intro l κ p e R s m args below meth c c0 s0 H locs ls cx hdd hll hcc hss hc0 hs0 hH hS hlo
  have hk : κ.2.2.1 = fun i => ad (200 + i) := by
    obtain ⟨ar, hg⟩ := hg
    rw [hH.2.1, hg.2.2.2.2.2.2.2]
  obtain ⟨hX, hbl, hbA⟩ := cx.2.2.2.2.2.2.2.2.2.2.2.2.2.2.2.2.2.2.1
  rw [hk] at hX hbl hbA
  have e2 : (fun i => ad (200 + i)) 1001 = sn := hsn
  rw [e2] at hX
  exact va_slen cx.1 cx.2.1 hX hbl hbA hS hd (h3 l κ p e R s m args below meth c c0 s0 H locs ls cx hdd hll hcc hss hc0 hs0 hH hS hlo)
theorem r_wid {ad : Nat → Nat} {X : ab_M} {d pc C S : Nat} {lo : List (Nat × Value)} {st : List Value} {σ : sS} {Q : Option Value → sS → Prop} (h1 : (vk σ).1 ≤ C) (h2 : (vk σ).2 ≤ S) (K : ab_E (sR ad) X d pc lo st (uW σ C S) Q) : ab_E (sR ad) X d pc lo st σ Q := by
  intro g hg
  have hc : g.2.2.1 = (vk σ).1 ∧ g.2.2.2.1 = (vk σ).2 := by
    obtain ⟨ar, hg⟩ := hg
    have e := hg.2.2.2.2.2.2.1
    rw [← e]
    exact ⟨rfl, rfl⟩
  have hg2 : sR ad (uW σ C S) (g.1, g.2.1, C, S, g.2.2.2.2) := by
    obtain ⟨ar, q1, q2, q3, q4, q5, q6, q7, q8⟩ := hg
    exact ⟨ar, q1, q2, q3, q4, q5, q6, rfl, q8⟩
  obtain ⟨r, g', σ', ⟨k1, k2, k3⟩, k4, k5⟩ := K _ hg2
  have k1' : C ≤ g'.2.2.1 := k1
  have k2' : S ≤ g'.2.2.2.1 := k2
  refine ⟨r, g', σ', ⟨by omega, by omega, ?_⟩, k4, k5⟩
  intro l κ p e R s m args below meth c c0 s0 H locs ls cx hdd hll hcc hss hc0 hs0 hH hS hlo
  refine W.widen (k := C - c0) (n := S - s0) (by omega) (by omega) ?_
  exact k3 l κ p e R s m args below meth c c0 s0 H locs ls cx hdd hll hcc hss (show c0 ≤ C by omega) (show s0 ≤ S by omega) hH hS hlo
set_option maxRecDepth 20000 in
noncomputable def L_L_law_23 (F : Nat) (sn : Nat) (sq : Nat → Int32) (kx : sS → Option (Int32 × sS)) : Nat → Int32 → sS → Option (Int32 × sS)
  | 0, _, _ => none
  | n + 1, x4, σ => if ((nI sn) - 6) < x4 then (kx σ) else (grd (inb x4 sn) (bnd ((sq x4.toNatClampNeg) &&& 31) (fun yq4 => if yq4 = 0 then (grd (inb (x4 + 1) sn) (grd (inb (x4 + 2) sn) (grd (inb (x4 + 3) sn) (grd (inb (x4 + 4) sn) (grd (inb (x4 + 5) sn) (bd2 (L_X11_feed (sq (x4 + 1).toNatClampNeg) (sq (x4 + 2).toNatClampNeg) (sq (x4 + 3).toNatClampNeg) (sq (x4 + 4).toNatClampNeg) (sq (x4 + 5).toNatClampNeg) σ) (fun rq11 σ12 => grd (inb (x4 + 1) sn) (grd (inb (x4 + 2) sn) (grd (inb (x4 + 3) sn) (grd (inb (x4 + 4) sn) (grd (inb (x4 + 5) sn) (bd2 (L_X12_feed F (sq (x4 + 1).toNatClampNeg) (sq (x4 + 2).toNatClampNeg) (sq (x4 + 3).toNatClampNeg) (sq (x4 + 4).toNatClampNeg) (sq (x4 + 5).toNatClampNeg) σ12) (fun rq19 σ20 => if rq11 = rq19 then (L_L_law_23 F sn sq kx n (x4 + 6) σ20) else (some ((0, σ20)))))))))))))))) else (if yq4 = 1 then (grd (inb (x4 + 1) sn) (bd2 (L_X11_automata F (sq (x4 + 1).toNatClampNeg) σ) (fun rq24 σ25 => grd (inb (x4 + 1) sn) (bd2 (L_X12_automata F (sq (x4 + 1).toNatClampNeg) σ25) (fun rq28 σ29 => if rq24 = rq28 then (L_L_law_23 F sn sq kx n (x4 + 6) σ29) else (some ((0, σ29)))))))) else (if yq4 = 2 then (bd2 (L_X12_fault σ) (fun rq32 σ33 => if (L_X11_fault σ) = rq32 then (L_L_law_23 F sn sq kx n (x4 + 6) σ33) else (some ((0, σ33))))) else (if yq4 = 3 then (bd2 (L_X12_where σ) (fun rq36 σ37 => if (L_X11_where σ) = rq36 then (L_L_law_23 F sn sq kx n (x4 + 6) σ37) else (some ((0, σ37))))) else (if yq4 = 4 then (grd (inb (x4 + 1) sn) (grd (inb (x4 + 2) sn) (bd2 (L_X11_automaton (sq (x4 + 1).toNatClampNeg) (sq (x4 + 2).toNatClampNeg) σ) (fun rq42 σ43 => grd (inb (x4 + 1) sn) (grd (inb (x4 + 2) sn) (bd2 (L_X12_automaton F (sq (x4 + 1).toNatClampNeg) (sq (x4 + 2).toNatClampNeg) σ43) (fun rq47 σ48 => if rq42 = rq47 then (L_L_law_23 F sn sq kx n (x4 + 6) σ48) else (some ((0, σ48)))))))))) else (if yq4 = 5 then (grd (inb (x4 + 1) sn) (grd (inb (x4 + 2) sn) (grd (inb (x4 + 3) sn) (grd (inb (x4 + 4) sn) (bd2 (L_X11_edge (sq (x4 + 1).toNatClampNeg) (sq (x4 + 2).toNatClampNeg) (sq (x4 + 3).toNatClampNeg) (sq (x4 + 4).toNatClampNeg) σ) (fun rq55 σ56 => grd (inb (x4 + 1) sn) (grd (inb (x4 + 2) sn) (grd (inb (x4 + 3) sn) (grd (inb (x4 + 4) sn) (bd2 (L_X12_edge (sq (x4 + 1).toNatClampNeg) (sq (x4 + 2).toNatClampNeg) (sq (x4 + 3).toNatClampNeg) (sq (x4 + 4).toNatClampNeg) σ56) (fun rq62 σ63 => if rq55 = rq62 then (L_L_law_23 F sn sq kx n (x4 + 6) σ63) else (some ((0, σ63)))))))))))))) else (if yq4 = 6 then (grd (inb (x4 + 1) sn) (grd (inb (x4 + 2) sn) (grd (inb (x4 + 3) sn) (bd2 (L_X11_after (sq (x4 + 1).toNatClampNeg) (sq (x4 + 2).toNatClampNeg) (sq (x4 + 3).toNatClampNeg) σ) (fun rq69 σ70 => grd (inb (x4 + 1) sn) (grd (inb (x4 + 2) sn) (grd (inb (x4 + 3) sn) (bd2 (L_X12_after F (sq (x4 + 1).toNatClampNeg) (sq (x4 + 2).toNatClampNeg) (sq (x4 + 3).toNatClampNeg) σ70) (fun rq75 σ76 => if rq69 = rq75 then (L_L_law_23 F sn sq kx n (x4 + 6) σ76) else (some ((0, σ76)))))))))))) else (if yq4 = 7 then (grd (inb (x4 + 1) sn) (grd (inb (x4 + 2) sn) (bd2 (L_X11_bound (sq (x4 + 1).toNatClampNeg) (sq (x4 + 2).toNatClampNeg) σ) (fun rq81 σ82 => grd (inb (x4 + 1) sn) (grd (inb (x4 + 2) sn) (bd2 (L_X12_bound (sq (x4 + 1).toNatClampNeg) (sq (x4 + 2).toNatClampNeg) σ82) (fun rq86 σ87 => if rq81 = rq86 then (L_L_law_23 F sn sq kx n (x4 + 6) σ87) else (some ((0, σ87)))))))))) else (if yq4 = 8 then (grd (inb (x4 + 1) sn) (grd (inb (x4 + 2) sn) (grd (inb (x4 + 3) sn) (bd2 (L_X11_rankings (sq (x4 + 1).toNatClampNeg) (sq (x4 + 2).toNatClampNeg) (sq (x4 + 3).toNatClampNeg) σ) (fun rq93 σ94 => grd (inb (x4 + 1) sn) (grd (inb (x4 + 2) sn) (grd (inb (x4 + 3) sn) (bd2 (L_X12_rankings F (sq (x4 + 1).toNatClampNeg) (sq (x4 + 2).toNatClampNeg) (sq (x4 + 3).toNatClampNeg) σ94) (fun rq99 σ100 => if rq93 = rq99 then (L_L_law_23 F sn sq kx n (x4 + 6) σ100) else (some ((0, σ100)))))))))))) else (if yq4 = 9 then (grd (inb (x4 + 1) sn) (grd (inb (x4 + 2) sn) (grd (inb (x4 + 3) sn) (grd (inb (x4 + 4) sn) (grd (inb (x4 + 5) sn) (bd2 (L_X11_ranked (sq (x4 + 1).toNatClampNeg) (sq (x4 + 2).toNatClampNeg) (sq (x4 + 3).toNatClampNeg) (sq (x4 + 4).toNatClampNeg) (sq (x4 + 5).toNatClampNeg) σ) (fun rq108 σ109 => grd (inb (x4 + 1) sn) (grd (inb (x4 + 2) sn) (grd (inb (x4 + 3) sn) (grd (inb (x4 + 4) sn) (grd (inb (x4 + 5) sn) (bd2 (L_X12_ranked F (sq (x4 + 1).toNatClampNeg) (sq (x4 + 2).toNatClampNeg) (sq (x4 + 3).toNatClampNeg) (sq (x4 + 4).toNatClampNeg) (sq (x4 + 5).toNatClampNeg) σ109) (fun rq116 σ117 => if rq108 = rq116 then (L_L_law_23 F sn sq kx n (x4 + 6) σ117) else (some ((0, σ117)))))))))))))))) else (if yq4 = 10 then (grd (inb (x4 + 1) sn) (bd2 (L_X11_complement (sq (x4 + 1).toNatClampNeg) σ) (fun rq121 σ122 => grd (inb (x4 + 1) sn) (bd2 (L_X12_complement F (sq (x4 + 1).toNatClampNeg) σ122) (fun rq125 σ126 => if rq121 = rq125 then (L_L_law_23 F sn sq kx n (x4 + 6) σ126) else (some ((0, σ126)))))))) else (if yq4 = 11 then (grd (inb (x4 + 1) sn) (grd (inb (x4 + 2) sn) (grd (inb (x4 + 3) sn) (bd2 (L_X11_node (sq (x4 + 1).toNatClampNeg) (sq (x4 + 2).toNatClampNeg) (sq (x4 + 3).toNatClampNeg) σ) (fun rq132 σ133 => grd (inb (x4 + 1) sn) (grd (inb (x4 + 2) sn) (grd (inb (x4 + 3) sn) (bd2 (L_X12_node F (sq (x4 + 1).toNatClampNeg) (sq (x4 + 2).toNatClampNeg) (sq (x4 + 3).toNatClampNeg) σ133) (fun rq138 σ139 => if rq132 = rq138 then (L_L_law_23 F sn sq kx n (x4 + 6) σ139) else (some ((0, σ139)))))))))))) else (if yq4 = 12 then (grd (inb (x4 + 1) sn) (grd (inb (x4 + 2) sn) (grd (inb (x4 + 3) sn) (bd2 (L_X11_rank (sq (x4 + 1).toNatClampNeg) (sq (x4 + 2).toNatClampNeg) (sq (x4 + 3).toNatClampNeg) σ) (fun rq145 σ146 => grd (inb (x4 + 1) sn) (grd (inb (x4 + 2) sn) (grd (inb (x4 + 3) sn) (bd2 (L_X12_rank F (sq (x4 + 1).toNatClampNeg) (sq (x4 + 2).toNatClampNeg) (sq (x4 + 3).toNatClampNeg) σ146) (fun rq151 σ152 => if rq145 = rq151 then (L_L_law_23 F sn sq kx n (x4 + 6) σ152) else (some ((0, σ152)))))))))))) else (if yq4 = 13 then (grd (inb (x4 + 1) sn) (grd (inb (x4 + 2) sn) (grd (inb (x4 + 3) sn) (grd (inb (x4 + 4) sn) (bd2 (L_X11_next (sq (x4 + 1).toNatClampNeg) (sq (x4 + 2).toNatClampNeg) (sq (x4 + 3).toNatClampNeg) (sq (x4 + 4).toNatClampNeg) σ) (fun rq159 σ160 => grd (inb (x4 + 1) sn) (grd (inb (x4 + 2) sn) (grd (inb (x4 + 3) sn) (grd (inb (x4 + 4) sn) (bd2 (L_X12_next F (sq (x4 + 1).toNatClampNeg) (sq (x4 + 2).toNatClampNeg) (sq (x4 + 3).toNatClampNeg) (sq (x4 + 4).toNatClampNeg) σ160) (fun rq166 σ167 => if rq159 = rq166 then (L_L_law_23 F sn sq kx n (x4 + 6) σ167) else (some ((0, σ167)))))))))))))) else (if yq4 = 14 then (grd (inb (x4 + 1) sn) (grd (inb (x4 + 2) sn) (bd2 (L_X11_nodes (sq (x4 + 1).toNatClampNeg) (sq (x4 + 2).toNatClampNeg) σ) (fun rq172 σ173 => grd (inb (x4 + 1) sn) (grd (inb (x4 + 2) sn) (bd2 (L_X12_nodes F (sq (x4 + 1).toNatClampNeg) (sq (x4 + 2).toNatClampNeg) σ173) (fun rq177 σ178 => if rq172 = rq177 then (L_L_law_23 F sn sq kx n (x4 + 6) σ178) else (some ((0, σ178)))))))))) else (if yq4 = 15 then (grd (inb (x4 + 1) sn) (grd (inb (x4 + 2) sn) (bd2 (L_X11_takes F (sq (x4 + 1).toNatClampNeg) (sq (x4 + 2).toNatClampNeg) σ) (fun rq183 σ184 => grd (inb (x4 + 1) sn) (grd (inb (x4 + 2) sn) (bd2 (L_X12_takes F (sq (x4 + 1).toNatClampNeg) (sq (x4 + 2).toNatClampNeg) σ184) (fun rq188 σ189 => if rq183 = rq188 then (L_L_law_23 F sn sq kx n (x4 + 6) σ189) else (some ((0, σ189)))))))))) else (if yq4 = 16 then (grd (inb (x4 + 1) sn) (grd (inb (x4 + 2) sn) (bd2 (L_X11_lacks F (sq (x4 + 1).toNatClampNeg) (sq (x4 + 2).toNatClampNeg) σ) (fun rq194 σ195 => grd (inb (x4 + 1) sn) (grd (inb (x4 + 2) sn) (bd2 (L_X12_lacks F (sq (x4 + 1).toNatClampNeg) (sq (x4 + 2).toNatClampNeg) σ195) (fun rq199 σ200 => if rq194 = rq199 then (L_L_law_23 F sn sq kx n (x4 + 6) σ200) else (some ((0, σ200)))))))))) else (if yq4 = 17 then (grd (inb (x4 + 1) sn) (grd (inb (x4 + 2) sn) (grd (inb (x4 + 3) sn) (bd2 (L_X11_follows F (sq (x4 + 1).toNatClampNeg) (sq (x4 + 2).toNatClampNeg) (sq (x4 + 3).toNatClampNeg) σ) (fun rq206 σ207 => grd (inb (x4 + 1) sn) (grd (inb (x4 + 2) sn) (grd (inb (x4 + 3) sn) (bd2 (L_X12_follows F (sq (x4 + 1).toNatClampNeg) (sq (x4 + 2).toNatClampNeg) (sq (x4 + 3).toNatClampNeg) σ207) (fun rq212 σ213 => if rq206 = rq212 then (L_L_law_23 F sn sq kx n (x4 + 6) σ213) else (some ((0, σ213)))))))))))) else (if yq4 = 18 then (grd (inb (x4 + 1) sn) (grd (inb (x4 + 2) sn) (grd (inb (x4 + 3) sn) (bd2 (L_X11_counts (sq (x4 + 1).toNatClampNeg) (sq (x4 + 2).toNatClampNeg) (sq (x4 + 3).toNatClampNeg) σ) (fun rq219 σ220 => grd (inb (x4 + 1) sn) (grd (inb (x4 + 2) sn) (grd (inb (x4 + 3) sn) (bd2 (L_X12_counts F (sq (x4 + 1).toNatClampNeg) (sq (x4 + 2).toNatClampNeg) (sq (x4 + 3).toNatClampNeg) σ220) (fun rq225 σ226 => if rq219 = rq225 then (L_L_law_23 F sn sq kx n (x4 + 6) σ226) else (some ((0, σ226)))))))))))) else (if yq4 = 19 then (grd (inb (x4 + 1) sn) (grd (inb (x4 + 2) sn) (grd (inb (x4 + 3) sn) (bd2 (L_X11_others (sq (x4 + 1).toNatClampNeg) (sq (x4 + 2).toNatClampNeg) (sq (x4 + 3).toNatClampNeg) σ) (fun rq232 σ233 => grd (inb (x4 + 1) sn) (grd (inb (x4 + 2) sn) (grd (inb (x4 + 3) sn) (bd2 (L_X12_others F (sq (x4 + 1).toNatClampNeg) (sq (x4 + 2).toNatClampNeg) (sq (x4 + 3).toNatClampNeg) σ233) (fun rq238 σ239 => if rq232 = rq238 then (L_L_law_23 F sn sq kx n (x4 + 6) σ239) else (some ((0, σ239)))))))))))) else (if yq4 = 20 then (grd (inb (x4 + 1) sn) (bd2 (L_X11_empty (sq (x4 + 1).toNatClampNeg) σ) (fun rq243 σ244 => grd (inb (x4 + 1) sn) (bd2 (L_X12_empty F (sq (x4 + 1).toNatClampNeg) σ244) (fun rq247 σ248 => if rq243 = rq247 then (L_L_law_23 F sn sq kx n (x4 + 6) σ248) else (some ((0, σ248)))))))) else (if yq4 = 21 then (grd (inb (x4 + 1) sn) (bd2 (L_X11_all (sq (x4 + 1).toNatClampNeg) σ) (fun rq252 σ253 => grd (inb (x4 + 1) sn) (bd2 (L_X12_all F (sq (x4 + 1).toNatClampNeg) σ253) (fun rq256 σ257 => if rq252 = rq256 then (L_L_law_23 F sn sq kx n (x4 + 6) σ257) else (some ((0, σ257)))))))) else (if yq4 = 22 then (grd (inb (x4 + 1) sn) (grd (inb (x4 + 2) sn) (bd2 (L_X11_within (sq (x4 + 1).toNatClampNeg) (sq (x4 + 2).toNatClampNeg) σ) (fun rq262 σ263 => grd (inb (x4 + 1) sn) (grd (inb (x4 + 2) sn) (bd2 (L_X12_within F (sq (x4 + 1).toNatClampNeg) (sq (x4 + 2).toNatClampNeg) σ263) (fun rq267 σ268 => if rq262 = rq267 then (L_L_law_23 F sn sq kx n (x4 + 6) σ268) else (some ((0, σ268)))))))))) else (if yq4 = 23 then (bd2 (L_X12_met σ) (fun rq271 σ272 => if (L_X11_met σ) = rq271 then (L_L_law_23 F sn sq kx n (x4 + 6) σ272) else (some ((0, σ272))))) else (if yq4 = 24 then (grd (inb (x4 + 1) sn) (bd2 (L_X11_shown (sq (x4 + 1).toNatClampNeg) σ) (fun rq276 σ277 => grd (inb (x4 + 1) sn) (bd2 (L_X12_shown (sq (x4 + 1).toNatClampNeg) σ277) (fun rq280 σ281 => if rq276 = rq280 then (L_L_law_23 F sn sq kx n (x4 + 6) σ281) else (some ((0, σ281)))))))) else (if yq4 = 25 then (grd (inb (x4 + 1) sn) (bd2 (L_letter (sq (x4 + 1).toNatClampNeg) σ) (fun rq285 σ286 => grd (inb (x4 + 1) sn) (bd2 (L_X12_letter (sq (x4 + 1).toNatClampNeg) σ286) (fun rq289 σ290 => if (L_X12_thrown σ290) = rq285 then (if rq285 = 0 then (if (lg_cmp (vL σ290 80 (0 : Int32).toNatClampNeg) rq289.toInt64) = 0 then (L_L_law_23 F sn sq kx n (x4 + 6) σ290) else (some ((0, σ290)))) else (L_L_law_23 F sn sq kx n (x4 + 6) σ290)) else (some ((0, σ290)))))))) else (if yq4 = 26 then (grd (inb (x4 + 1) sn) (grd (inb (x4 + 2) sn) (grd (inb (x4 + 3) sn) (grd (inb (x4 + 4) sn) (grd (inb (x4 + 5) sn) (if (sq (x4 + 5).toNatClampNeg) = 0 then (bd2 (L_X11_link (sq (x4 + 1).toNatClampNeg) (sq (x4 + 2).toNatClampNeg) (sq (x4 + 3).toNatClampNeg) (sq (x4 + 4).toNatClampNeg) 0 σ) (fun rq301 σ302 => grd (inb (x4 + 1) sn) (grd (inb (x4 + 2) sn) (grd (inb (x4 + 3) sn) (grd (inb (x4 + 4) sn) (grd (inb (x4 + 5) sn) (if (sq (x4 + 5).toNatClampNeg) = 0 then (bd2 (L_X12_link F (sq (x4 + 1).toNatClampNeg) (sq (x4 + 2).toNatClampNeg) (sq (x4 + 3).toNatClampNeg) (sq (x4 + 4).toNatClampNeg) 0 σ302) (fun rq310 σ311 => if rq301 = rq310 then (L_L_law_23 F sn sq kx n (x4 + 6) σ311) else (some ((0, σ311))))) else (bd2 (L_X12_link F (sq (x4 + 1).toNatClampNeg) (sq (x4 + 2).toNatClampNeg) (sq (x4 + 3).toNatClampNeg) (sq (x4 + 4).toNatClampNeg) 1 σ302) (fun rq314 σ315 => if rq301 = rq314 then (L_L_law_23 F sn sq kx n (x4 + 6) σ315) else (some ((0, σ315)))))))))))) else (bd2 (L_X11_link (sq (x4 + 1).toNatClampNeg) (sq (x4 + 2).toNatClampNeg) (sq (x4 + 3).toNatClampNeg) (sq (x4 + 4).toNatClampNeg) 1 σ) (fun rq318 σ319 => grd (inb (x4 + 1) sn) (grd (inb (x4 + 2) sn) (grd (inb (x4 + 3) sn) (grd (inb (x4 + 4) sn) (grd (inb (x4 + 5) sn) (if (sq (x4 + 5).toNatClampNeg) = 0 then (bd2 (L_X12_link F (sq (x4 + 1).toNatClampNeg) (sq (x4 + 2).toNatClampNeg) (sq (x4 + 3).toNatClampNeg) (sq (x4 + 4).toNatClampNeg) 0 σ319) (fun rq327 σ328 => if rq318 = rq327 then (L_L_law_23 F sn sq kx n (x4 + 6) σ328) else (some ((0, σ328))))) else (bd2 (L_X12_link F (sq (x4 + 1).toNatClampNeg) (sq (x4 + 2).toNatClampNeg) (sq (x4 + 3).toNatClampNeg) (sq (x4 + 4).toNatClampNeg) 1 σ319) (fun rq331 σ332 => if rq318 = rq331 then (L_L_law_23 F sn sq kx n (x4 + 6) σ332) else (some ((0, σ332)))))))))))))))))) else (if yq4 = 27 then (grd (inb (x4 + 1) sn) (grd (inb (x4 + 2) sn) (grd (inb (x4 + 3) sn) (if (sq (x4 + 3).toNatClampNeg) = 0 then (bd2 (L_X11_mark (sq (x4 + 1).toNatClampNeg) (sq (x4 + 2).toNatClampNeg) 0 σ) (fun rq339 σ340 => grd (inb (x4 + 1) sn) (grd (inb (x4 + 2) sn) (grd (inb (x4 + 3) sn) (if (sq (x4 + 3).toNatClampNeg) = 0 then (bd2 (L_X12_mark (sq (x4 + 1).toNatClampNeg) (sq (x4 + 2).toNatClampNeg) 0 σ340) (fun rq346 σ347 => if rq339 = rq346 then (L_L_law_23 F sn sq kx n (x4 + 6) σ347) else (some ((0, σ347))))) else (bd2 (L_X12_mark (sq (x4 + 1).toNatClampNeg) (sq (x4 + 2).toNatClampNeg) 1 σ340) (fun rq350 σ351 => if rq339 = rq350 then (L_L_law_23 F sn sq kx n (x4 + 6) σ351) else (some ((0, σ351)))))))))) else (bd2 (L_X11_mark (sq (x4 + 1).toNatClampNeg) (sq (x4 + 2).toNatClampNeg) 1 σ) (fun rq354 σ355 => grd (inb (x4 + 1) sn) (grd (inb (x4 + 2) sn) (grd (inb (x4 + 3) sn) (if (sq (x4 + 3).toNatClampNeg) = 0 then (bd2 (L_X12_mark (sq (x4 + 1).toNatClampNeg) (sq (x4 + 2).toNatClampNeg) 0 σ355) (fun rq361 σ362 => if rq354 = rq361 then (L_L_law_23 F sn sq kx n (x4 + 6) σ362) else (some ((0, σ362))))) else (bd2 (L_X12_mark (sq (x4 + 1).toNatClampNeg) (sq (x4 + 2).toNatClampNeg) 1 σ355) (fun rq365 σ366 => if rq354 = rq365 then (L_L_law_23 F sn sq kx n (x4 + 6) σ366) else (some ((0, σ366)))))))))))))) else (if yq4 = 28 then (grd (inb (x4 + 1) sn) (grd (inb (x4 + 2) sn) (grd (inb (x4 + 3) sn) (if (sq (x4 + 3).toNatClampNeg) = 0 then (bd2 (L_X11_begin (sq (x4 + 1).toNatClampNeg) (sq (x4 + 2).toNatClampNeg) 0 σ) (fun rq373 σ374 => grd (inb (x4 + 1) sn) (grd (inb (x4 + 2) sn) (grd (inb (x4 + 3) sn) (if (sq (x4 + 3).toNatClampNeg) = 0 then (bd2 (L_X12_begin (sq (x4 + 1).toNatClampNeg) (sq (x4 + 2).toNatClampNeg) 0 σ374) (fun rq380 σ381 => if rq373 = rq380 then (L_L_law_23 F sn sq kx n (x4 + 6) σ381) else (some ((0, σ381))))) else (bd2 (L_X12_begin (sq (x4 + 1).toNatClampNeg) (sq (x4 + 2).toNatClampNeg) 1 σ374) (fun rq384 σ385 => if rq373 = rq384 then (L_L_law_23 F sn sq kx n (x4 + 6) σ385) else (some ((0, σ385)))))))))) else (bd2 (L_X11_begin (sq (x4 + 1).toNatClampNeg) (sq (x4 + 2).toNatClampNeg) 1 σ) (fun rq388 σ389 => grd (inb (x4 + 1) sn) (grd (inb (x4 + 2) sn) (grd (inb (x4 + 3) sn) (if (sq (x4 + 3).toNatClampNeg) = 0 then (bd2 (L_X12_begin (sq (x4 + 1).toNatClampNeg) (sq (x4 + 2).toNatClampNeg) 0 σ389) (fun rq395 σ396 => if rq388 = rq395 then (L_L_law_23 F sn sq kx n (x4 + 6) σ396) else (some ((0, σ396))))) else (bd2 (L_X12_begin (sq (x4 + 1).toNatClampNeg) (sq (x4 + 2).toNatClampNeg) 1 σ389) (fun rq399 σ400 => if rq388 = rq399 then (L_L_law_23 F sn sq kx n (x4 + 6) σ400) else (some ((0, σ400)))))))))))))) else (if yq4 = 29 then (bd2 (L_X12_size σ) (fun rq403 σ404 => if (L_X11_size σ) = rq403 then (L_L_law_23 F sn sq kx n (x4 + 6) σ404) else (some ((0, σ404))))) else (if yq4 = 30 then (bd2 (L_X12_trouble σ) (fun rq407 σ408 => if (L_X11_trouble σ) = rq407 then (L_L_law_23 F sn sq kx n (x4 + 6) σ408) else (some ((0, σ408))))) else (L_L_law_23 F sn sq kx n (x4 + 6) σ))))))))))))))))))))))))))))))))))
set_option maxRecDepth 20000 in
theorem l_L_law_23 {ad : Nat → Nat} {F : Nat} {sn : Nat} {sq : Nat → Int32} {z : (Int32 × sS)} (hsn : ad 1201 = sn) (hsq : ∀ j, Int32.ofNat (ad (2200 + j)) = sq j) {kx : sS → Option (Int32 × sS)} (hx : ∀  (σ : sS), kx σ = some z → ab_E (sR ad) mL_law 14 1484 [] [] σ (fun r9 σ9 => r9 = some (.int z.1) ∧ σ9 = z.2)) : ∀ (n : Nat) (x4 : Int32) (σ : sS), L_L_law_23 F sn sq kx n x4 σ = some z → ab_E (sR ad) mL_law 14 23 [(4, .int x4), (0, .ref (ad 1200)), (1, .ref (ad 0)), (2, .ref (ad 90)), (3, .ref (ad 80))] [] σ (fun r9 σ9 => r9 = some (.int z.1) ∧ σ9 = z.2) := by
  intro n
  induction n with
  | zero =>
    intro x4 σ h
    rw [L_L_law_23] at h
    cases h
  | succ n ih =>
    intro x4 σ h
    rw [L_L_law_23] at h
    refine r_iload dL_law_23 0 rfl ?_
    refine r_aload_n dL_law_25 1 rfl ?_
    refine s_slen hsn dL_law_26 ?_
    refine r_bipush (v := 6) dL_law_27 (by decide) ?_
    refine r_isub dL_law_29 ?_
    refine r_icmp_gt (t := 1484) dL_law_30 (by decide) (fun qc1 => ?_) (fun qc1 => ?_)
    · replace h := ifp h qc1
      exact ab_E.lo [] rfl (hx _ h)
    · replace h := ifn h qc1
      refine r_aload_n dL_law_33 1 rfl ?_
      refine r_iload dL_law_34 0 rfl ?_
      obtain ⟨qg2, h⟩ := grd_at h
      refine s_sld hsn hsq dL_law_36 (inb_of qg2) ?_
      refine r_bipush (v := 31) dL_law_37 (by decide) ?_
      refine r_iand dL_law_39 ?_
      refine r_topi (fun yq4 eyq4 => ?_)
      replace h := bnd_at h eyq4
      by_cases qw3_0 : yq4 = 0
      · replace h := ifp h qw3_0
        refine r_tableIn (t := 180) (off := 140) dL_law_40 (by rw [qw3_0]; decide) (by rw [qw3_0]; decide) (by rw [qw3_0]; rfl) (by decide) ?_
        refine r_aload_n dL_law_180 2 rfl ?_
        refine r_aload_n dL_law_181 1 rfl ?_
        refine r_iload dL_law_182 0 rfl ?_
        refine r_iconst (v := 1) dL_law_184 (by decide) ?_
        refine r_iadd dL_law_185 ?_
        obtain ⟨qg5, h⟩ := grd_at h
        refine s_sld hsn hsq dL_law_186 (inb_of qg5) ?_
        refine r_aload_n dL_law_187 1 rfl ?_
        refine r_iload dL_law_188 0 rfl ?_
        refine r_iconst (v := 2) dL_law_190 (by decide) ?_
        refine r_iadd dL_law_191 ?_
        obtain ⟨qg6, h⟩ := grd_at h
        refine s_sld hsn hsq dL_law_192 (inb_of qg6) ?_
        refine r_aload_n dL_law_193 1 rfl ?_
        refine r_iload dL_law_194 0 rfl ?_
        refine r_iconst (v := 3) dL_law_196 (by decide) ?_
        refine r_iadd dL_law_197 ?_
        obtain ⟨qg7, h⟩ := grd_at h
        refine s_sld hsn hsq dL_law_198 (inb_of qg7) ?_
        refine r_aload_n dL_law_199 1 rfl ?_
        refine r_iload dL_law_200 0 rfl ?_
        refine r_iconst (v := 4) dL_law_202 (by decide) ?_
        refine r_iadd dL_law_203 ?_
        obtain ⟨qg8, h⟩ := grd_at h
        refine s_sld hsn hsq dL_law_204 (inb_of qg8) ?_
        refine r_aload_n dL_law_205 1 rfl ?_
        refine r_iload dL_law_206 0 rfl ?_
        refine r_iconst (v := 5) dL_law_208 (by decide) ?_
        refine r_iadd dL_law_209 ?_
        obtain ⟨qg9, h⟩ := grd_at h
        refine s_sld hsn hsq dL_law_210 (inb_of qg9) ?_
        obtain ⟨rq11, σ12, qg10, h⟩ := bd2_at h
        refine x_callV (Y := mX11_feed) (d' := 3) dL_law_211 ml_L_19 yv_X11_feed (by omega) rfl rfl (by simp [Value.category]) (sR_is rfl rfl) (lc_X11_feed qg10) ?_
        refine r_aload_n dL_law_214 3 rfl ?_
        refine r_aload_n dL_law_215 1 rfl ?_
        refine r_iload dL_law_216 0 rfl ?_
        refine r_iconst (v := 1) dL_law_218 (by decide) ?_
        refine r_iadd dL_law_219 ?_
        obtain ⟨qg13, h⟩ := grd_at h
        refine s_sld hsn hsq dL_law_220 (inb_of qg13) ?_
        refine r_aload_n dL_law_221 1 rfl ?_
        refine r_iload dL_law_222 0 rfl ?_
        refine r_iconst (v := 2) dL_law_224 (by decide) ?_
        refine r_iadd dL_law_225 ?_
        obtain ⟨qg14, h⟩ := grd_at h
        refine s_sld hsn hsq dL_law_226 (inb_of qg14) ?_
        refine r_aload_n dL_law_227 1 rfl ?_
        refine r_iload dL_law_228 0 rfl ?_
        refine r_iconst (v := 3) dL_law_230 (by decide) ?_
        refine r_iadd dL_law_231 ?_
        obtain ⟨qg15, h⟩ := grd_at h
        refine s_sld hsn hsq dL_law_232 (inb_of qg15) ?_
        refine r_aload_n dL_law_233 1 rfl ?_
        refine r_iload dL_law_234 0 rfl ?_
        refine r_iconst (v := 4) dL_law_236 (by decide) ?_
        refine r_iadd dL_law_237 ?_
        obtain ⟨qg16, h⟩ := grd_at h
        refine s_sld hsn hsq dL_law_238 (inb_of qg16) ?_
        refine r_aload_n dL_law_239 1 rfl ?_
        refine r_iload dL_law_240 0 rfl ?_
        refine r_iconst (v := 5) dL_law_242 (by decide) ?_
        refine r_iadd dL_law_243 ?_
        obtain ⟨qg17, h⟩ := grd_at h
        refine s_sld hsn hsq dL_law_244 (inb_of qg17) ?_
        obtain ⟨rq19, σ20, qg18, h⟩ := bd2_at h
        refine x_callV (Y := mX12_feed) (d' := 1) dL_law_245 ml_L_23 yv_X12_feed (by omega) rfl rfl (by simp [Value.category]) (sR_is rfl rfl) (lc_X12_feed qg18) ?_
        refine r_icmp_eq (t := 1478) dL_law_248 (by decide) (fun qc21 => ?_) (fun qc21 => ?_)
        · replace h := ifp h qc21
          refine r_iinc (v := x4 + 6) (lo' := [(4, .int (x4 + 6)), (0, .ref (ad 1200)), (1, .ref (ad 0)), (2, .ref (ad 90)), (3, .ref (ad 80))]) dL_law_1478 0 rfl rfl (by decide) rfl ?_
          refine r_goto (t := 23) dL_law_1481 (by decide) ?_
          exact ab_E.lo [0, 1, 2, 3, 4] rfl (ih _ _ h)
        · replace h := ifn h qc21
          refine r_iconst (v := 0) dL_law_251 (by decide) ?_
          refine r_zret rfl (by decide) dL_law_252 ?_
          exact lfI h
      replace h := ifn h qw3_0
      by_cases qw3_1 : yq4 = 1
      · replace h := ifp h qw3_1
        refine r_tableIn (t := 253) (off := 213) dL_law_40 (by rw [qw3_1]; decide) (by rw [qw3_1]; decide) (by rw [qw3_1]; rfl) (by decide) ?_
        refine r_aload_n dL_law_253 2 rfl ?_
        refine r_aload_n dL_law_254 1 rfl ?_
        refine r_iload dL_law_255 0 rfl ?_
        refine r_iconst (v := 1) dL_law_257 (by decide) ?_
        refine r_iadd dL_law_258 ?_
        obtain ⟨qg22, h⟩ := grd_at h
        refine s_sld hsn hsq dL_law_259 (inb_of qg22) ?_
        obtain ⟨rq24, σ25, qg23, h⟩ := bd2_at h
        refine x_callV (Y := mX11_automata) (d' := 11) dL_law_260 ml_L_24 yv_X11_automata (by omega) rfl rfl (by simp [Value.category]) (sR_is rfl rfl) (lc_X11_automata qg23) ?_
        refine r_aload_n dL_law_263 3 rfl ?_
        refine r_aload_n dL_law_264 1 rfl ?_
        refine r_iload dL_law_265 0 rfl ?_
        refine r_iconst (v := 1) dL_law_267 (by decide) ?_
        refine r_iadd dL_law_268 ?_
        obtain ⟨qg26, h⟩ := grd_at h
        refine s_sld hsn hsq dL_law_269 (inb_of qg26) ?_
        obtain ⟨rq28, σ29, qg27, h⟩ := bd2_at h
        refine x_callV (Y := mX12_automata) (d' := 11) dL_law_270 ml_L_27 yv_X12_automata (by omega) rfl rfl (by simp [Value.category]) (sR_is rfl rfl) (lc_X12_automata qg27) ?_
        refine r_icmp_eq (t := 1478) dL_law_273 (by decide) (fun qc30 => ?_) (fun qc30 => ?_)
        · replace h := ifp h qc30
          refine r_iinc (v := x4 + 6) (lo' := [(4, .int (x4 + 6)), (0, .ref (ad 1200)), (1, .ref (ad 0)), (2, .ref (ad 90)), (3, .ref (ad 80))]) dL_law_1478 0 rfl rfl (by decide) rfl ?_
          refine r_goto (t := 23) dL_law_1481 (by decide) ?_
          exact ab_E.lo [0, 1, 2, 3, 4] rfl (ih _ _ h)
        · replace h := ifn h qc30
          refine r_iconst (v := 0) dL_law_276 (by decide) ?_
          refine r_zret rfl (by decide) dL_law_277 ?_
          exact lfI h
      replace h := ifn h qw3_1
      by_cases qw3_2 : yq4 = 2
      · replace h := ifp h qw3_2
        refine r_tableIn (t := 278) (off := 238) dL_law_40 (by rw [qw3_2]; decide) (by rw [qw3_2]; decide) (by rw [qw3_2]; rfl) (by decide) ?_
        refine r_aload_n dL_law_278 2 rfl ?_
        refine x_callV (Y := mX11_fault) (d' := 1) dL_law_279 ml_L_28 yv_X11_fault (by omega) rfl rfl (by simp [Value.category]) (sR_is rfl rfl) (lc_X11_fault σ) ?_
        refine r_aload_n dL_law_282 3 rfl ?_
        obtain ⟨rq32, σ33, qg31, h⟩ := bd2_at h
        refine x_callV (Y := mX12_fault) (d' := 1) dL_law_283 ml_L_32 yv_X12_fault (by omega) rfl rfl (by simp [Value.category]) (sR_is rfl rfl) (lc_X12_fault qg31) ?_
        refine r_icmp_eq (t := 1478) dL_law_286 (by decide) (fun qc34 => ?_) (fun qc34 => ?_)
        · replace h := ifp h qc34
          refine r_iinc (v := x4 + 6) (lo' := [(4, .int (x4 + 6)), (0, .ref (ad 1200)), (1, .ref (ad 0)), (2, .ref (ad 90)), (3, .ref (ad 80))]) dL_law_1478 0 rfl rfl (by decide) rfl ?_
          refine r_goto (t := 23) dL_law_1481 (by decide) ?_
          exact ab_E.lo [0, 1, 2, 3, 4] rfl (ih _ _ h)
        · replace h := ifn h qc34
          refine r_iconst (v := 0) dL_law_289 (by decide) ?_
          refine r_zret rfl (by decide) dL_law_290 ?_
          exact lfI h
      replace h := ifn h qw3_2
      by_cases qw3_3 : yq4 = 3
      · replace h := ifp h qw3_3
        refine r_tableIn (t := 291) (off := 251) dL_law_40 (by rw [qw3_3]; decide) (by rw [qw3_3]; decide) (by rw [qw3_3]; rfl) (by decide) ?_
        refine r_aload_n dL_law_291 2 rfl ?_
        refine x_callV (Y := mX11_where) (d' := 1) dL_law_292 ml_L_33 yv_X11_where (by omega) rfl rfl (by simp [Value.category]) (sR_is rfl rfl) (lc_X11_where σ) ?_
        refine r_aload_n dL_law_295 3 rfl ?_
        obtain ⟨rq36, σ37, qg35, h⟩ := bd2_at h
        refine x_callV (Y := mX12_where) (d' := 1) dL_law_296 ml_L_36 yv_X12_where (by omega) rfl rfl (by simp [Value.category]) (sR_is rfl rfl) (lc_X12_where qg35) ?_
        refine r_icmp_eq (t := 1478) dL_law_299 (by decide) (fun qc38 => ?_) (fun qc38 => ?_)
        · replace h := ifp h qc38
          refine r_iinc (v := x4 + 6) (lo' := [(4, .int (x4 + 6)), (0, .ref (ad 1200)), (1, .ref (ad 0)), (2, .ref (ad 90)), (3, .ref (ad 80))]) dL_law_1478 0 rfl rfl (by decide) rfl ?_
          refine r_goto (t := 23) dL_law_1481 (by decide) ?_
          exact ab_E.lo [0, 1, 2, 3, 4] rfl (ih _ _ h)
        · replace h := ifn h qc38
          refine r_iconst (v := 0) dL_law_302 (by decide) ?_
          refine r_zret rfl (by decide) dL_law_303 ?_
          exact lfI h
      replace h := ifn h qw3_3
      by_cases qw3_4 : yq4 = 4
      · replace h := ifp h qw3_4
        refine r_tableIn (t := 304) (off := 264) dL_law_40 (by rw [qw3_4]; decide) (by rw [qw3_4]; decide) (by rw [qw3_4]; rfl) (by decide) ?_
        refine r_aload_n dL_law_304 2 rfl ?_
        refine r_aload_n dL_law_305 1 rfl ?_
        refine r_iload dL_law_306 0 rfl ?_
        refine r_iconst (v := 1) dL_law_308 (by decide) ?_
        refine r_iadd dL_law_309 ?_
        obtain ⟨qg39, h⟩ := grd_at h
        refine s_sld hsn hsq dL_law_310 (inb_of qg39) ?_
        refine r_aload_n dL_law_311 1 rfl ?_
        refine r_iload dL_law_312 0 rfl ?_
        refine r_iconst (v := 2) dL_law_314 (by decide) ?_
        refine r_iadd dL_law_315 ?_
        obtain ⟨qg40, h⟩ := grd_at h
        refine s_sld hsn hsq dL_law_316 (inb_of qg40) ?_
        obtain ⟨rq42, σ43, qg41, h⟩ := bd2_at h
        refine x_callV (Y := mX11_automaton) (d' := 3) dL_law_317 ml_L_37 yv_X11_automaton (by omega) rfl rfl (by simp [Value.category]) (sR_is rfl rfl) (lc_X11_automaton qg41) ?_
        refine r_aload_n dL_law_320 3 rfl ?_
        refine r_aload_n dL_law_321 1 rfl ?_
        refine r_iload dL_law_322 0 rfl ?_
        refine r_iconst (v := 1) dL_law_324 (by decide) ?_
        refine r_iadd dL_law_325 ?_
        obtain ⟨qg44, h⟩ := grd_at h
        refine s_sld hsn hsq dL_law_326 (inb_of qg44) ?_
        refine r_aload_n dL_law_327 1 rfl ?_
        refine r_iload dL_law_328 0 rfl ?_
        refine r_iconst (v := 2) dL_law_330 (by decide) ?_
        refine r_iadd dL_law_331 ?_
        obtain ⟨qg45, h⟩ := grd_at h
        refine s_sld hsn hsq dL_law_332 (inb_of qg45) ?_
        obtain ⟨rq47, σ48, qg46, h⟩ := bd2_at h
        refine x_callV (Y := mX12_automaton) (d' := 3) dL_law_333 ml_L_41 yv_X12_automaton (by omega) rfl rfl (by simp [Value.category]) (sR_is rfl rfl) (lc_X12_automaton qg46) ?_
        refine r_icmp_eq (t := 1478) dL_law_336 (by decide) (fun qc49 => ?_) (fun qc49 => ?_)
        · replace h := ifp h qc49
          refine r_iinc (v := x4 + 6) (lo' := [(4, .int (x4 + 6)), (0, .ref (ad 1200)), (1, .ref (ad 0)), (2, .ref (ad 90)), (3, .ref (ad 80))]) dL_law_1478 0 rfl rfl (by decide) rfl ?_
          refine r_goto (t := 23) dL_law_1481 (by decide) ?_
          exact ab_E.lo [0, 1, 2, 3, 4] rfl (ih _ _ h)
        · replace h := ifn h qc49
          refine r_iconst (v := 0) dL_law_339 (by decide) ?_
          refine r_zret rfl (by decide) dL_law_340 ?_
          exact lfI h
      replace h := ifn h qw3_4
      by_cases qw3_5 : yq4 = 5
      · replace h := ifp h qw3_5
        refine r_tableIn (t := 341) (off := 301) dL_law_40 (by rw [qw3_5]; decide) (by rw [qw3_5]; decide) (by rw [qw3_5]; rfl) (by decide) ?_
        refine r_aload_n dL_law_341 2 rfl ?_
        refine r_aload_n dL_law_342 1 rfl ?_
        refine r_iload dL_law_343 0 rfl ?_
        refine r_iconst (v := 1) dL_law_345 (by decide) ?_
        refine r_iadd dL_law_346 ?_
        obtain ⟨qg50, h⟩ := grd_at h
        refine s_sld hsn hsq dL_law_347 (inb_of qg50) ?_
        refine r_aload_n dL_law_348 1 rfl ?_
        refine r_iload dL_law_349 0 rfl ?_
        refine r_iconst (v := 2) dL_law_351 (by decide) ?_
        refine r_iadd dL_law_352 ?_
        obtain ⟨qg51, h⟩ := grd_at h
        refine s_sld hsn hsq dL_law_353 (inb_of qg51) ?_
        refine r_aload_n dL_law_354 1 rfl ?_
        refine r_iload dL_law_355 0 rfl ?_
        refine r_iconst (v := 3) dL_law_357 (by decide) ?_
        refine r_iadd dL_law_358 ?_
        obtain ⟨qg52, h⟩ := grd_at h
        refine s_sld hsn hsq dL_law_359 (inb_of qg52) ?_
        refine r_aload_n dL_law_360 1 rfl ?_
        refine r_iload dL_law_361 0 rfl ?_
        refine r_iconst (v := 4) dL_law_363 (by decide) ?_
        refine r_iadd dL_law_364 ?_
        obtain ⟨qg53, h⟩ := grd_at h
        refine s_sld hsn hsq dL_law_365 (inb_of qg53) ?_
        obtain ⟨rq55, σ56, qg54, h⟩ := bd2_at h
        refine x_callV (Y := mX11_edge) (d' := 4) dL_law_366 ml_L_42 yv_X11_edge (by omega) rfl rfl (by simp [Value.category]) (sR_is rfl rfl) (lc_X11_edge qg54) ?_
        refine r_aload_n dL_law_369 3 rfl ?_
        refine r_aload_n dL_law_370 1 rfl ?_
        refine r_iload dL_law_371 0 rfl ?_
        refine r_iconst (v := 1) dL_law_373 (by decide) ?_
        refine r_iadd dL_law_374 ?_
        obtain ⟨qg57, h⟩ := grd_at h
        refine s_sld hsn hsq dL_law_375 (inb_of qg57) ?_
        refine r_aload_n dL_law_376 1 rfl ?_
        refine r_iload dL_law_377 0 rfl ?_
        refine r_iconst (v := 2) dL_law_379 (by decide) ?_
        refine r_iadd dL_law_380 ?_
        obtain ⟨qg58, h⟩ := grd_at h
        refine s_sld hsn hsq dL_law_381 (inb_of qg58) ?_
        refine r_aload_n dL_law_382 1 rfl ?_
        refine r_iload dL_law_383 0 rfl ?_
        refine r_iconst (v := 3) dL_law_385 (by decide) ?_
        refine r_iadd dL_law_386 ?_
        obtain ⟨qg59, h⟩ := grd_at h
        refine s_sld hsn hsq dL_law_387 (inb_of qg59) ?_
        refine r_aload_n dL_law_388 1 rfl ?_
        refine r_iload dL_law_389 0 rfl ?_
        refine r_iconst (v := 4) dL_law_391 (by decide) ?_
        refine r_iadd dL_law_392 ?_
        obtain ⟨qg60, h⟩ := grd_at h
        refine s_sld hsn hsq dL_law_393 (inb_of qg60) ?_
        obtain ⟨rq62, σ63, qg61, h⟩ := bd2_at h
        refine x_callV (Y := mX12_edge) (d' := 4) dL_law_394 ml_L_46 yv_X12_edge (by omega) rfl rfl (by simp [Value.category]) (sR_is rfl rfl) (lc_X12_edge qg61) ?_
        refine r_icmp_eq (t := 1478) dL_law_397 (by decide) (fun qc64 => ?_) (fun qc64 => ?_)
        · replace h := ifp h qc64
          refine r_iinc (v := x4 + 6) (lo' := [(4, .int (x4 + 6)), (0, .ref (ad 1200)), (1, .ref (ad 0)), (2, .ref (ad 90)), (3, .ref (ad 80))]) dL_law_1478 0 rfl rfl (by decide) rfl ?_
          refine r_goto (t := 23) dL_law_1481 (by decide) ?_
          exact ab_E.lo [0, 1, 2, 3, 4] rfl (ih _ _ h)
        · replace h := ifn h qc64
          refine r_iconst (v := 0) dL_law_400 (by decide) ?_
          refine r_zret rfl (by decide) dL_law_401 ?_
          exact lfI h
      replace h := ifn h qw3_5
      by_cases qw3_6 : yq4 = 6
      · replace h := ifp h qw3_6
        refine r_tableIn (t := 402) (off := 362) dL_law_40 (by rw [qw3_6]; decide) (by rw [qw3_6]; decide) (by rw [qw3_6]; rfl) (by decide) ?_
        refine r_aload_n dL_law_402 2 rfl ?_
        refine r_aload_n dL_law_403 1 rfl ?_
        refine r_iload dL_law_404 0 rfl ?_
        refine r_iconst (v := 1) dL_law_406 (by decide) ?_
        refine r_iadd dL_law_407 ?_
        obtain ⟨qg65, h⟩ := grd_at h
        refine s_sld hsn hsq dL_law_408 (inb_of qg65) ?_
        refine r_aload_n dL_law_409 1 rfl ?_
        refine r_iload dL_law_410 0 rfl ?_
        refine r_iconst (v := 2) dL_law_412 (by decide) ?_
        refine r_iadd dL_law_413 ?_
        obtain ⟨qg66, h⟩ := grd_at h
        refine s_sld hsn hsq dL_law_414 (inb_of qg66) ?_
        refine r_aload_n dL_law_415 1 rfl ?_
        refine r_iload dL_law_416 0 rfl ?_
        refine r_iconst (v := 3) dL_law_418 (by decide) ?_
        refine r_iadd dL_law_419 ?_
        obtain ⟨qg67, h⟩ := grd_at h
        refine s_sld hsn hsq dL_law_420 (inb_of qg67) ?_
        obtain ⟨rq69, σ70, qg68, h⟩ := bd2_at h
        refine x_callV (Y := mX11_after) (d' := 4) dL_law_421 ml_L_47 yv_X11_after (by omega) rfl rfl (by simp [Value.category]) (sR_is rfl rfl) (lc_X11_after qg68) ?_
        refine r_aload_n dL_law_424 3 rfl ?_
        refine r_aload_n dL_law_425 1 rfl ?_
        refine r_iload dL_law_426 0 rfl ?_
        refine r_iconst (v := 1) dL_law_428 (by decide) ?_
        refine r_iadd dL_law_429 ?_
        obtain ⟨qg71, h⟩ := grd_at h
        refine s_sld hsn hsq dL_law_430 (inb_of qg71) ?_
        refine r_aload_n dL_law_431 1 rfl ?_
        refine r_iload dL_law_432 0 rfl ?_
        refine r_iconst (v := 2) dL_law_434 (by decide) ?_
        refine r_iadd dL_law_435 ?_
        obtain ⟨qg72, h⟩ := grd_at h
        refine s_sld hsn hsq dL_law_436 (inb_of qg72) ?_
        refine r_aload_n dL_law_437 1 rfl ?_
        refine r_iload dL_law_438 0 rfl ?_
        refine r_iconst (v := 3) dL_law_440 (by decide) ?_
        refine r_iadd dL_law_441 ?_
        obtain ⟨qg73, h⟩ := grd_at h
        refine s_sld hsn hsq dL_law_442 (inb_of qg73) ?_
        obtain ⟨rq75, σ76, qg74, h⟩ := bd2_at h
        refine x_callV (Y := mX12_after) (d' := 3) dL_law_443 ml_L_51 yv_X12_after (by omega) rfl rfl (by simp [Value.category]) (sR_is rfl rfl) (lc_X12_after qg74) ?_
        refine r_icmp_eq (t := 1478) dL_law_446 (by decide) (fun qc77 => ?_) (fun qc77 => ?_)
        · replace h := ifp h qc77
          refine r_iinc (v := x4 + 6) (lo' := [(4, .int (x4 + 6)), (0, .ref (ad 1200)), (1, .ref (ad 0)), (2, .ref (ad 90)), (3, .ref (ad 80))]) dL_law_1478 0 rfl rfl (by decide) rfl ?_
          refine r_goto (t := 23) dL_law_1481 (by decide) ?_
          exact ab_E.lo [0, 1, 2, 3, 4] rfl (ih _ _ h)
        · replace h := ifn h qc77
          refine r_iconst (v := 0) dL_law_449 (by decide) ?_
          refine r_zret rfl (by decide) dL_law_450 ?_
          exact lfI h
      replace h := ifn h qw3_6
      by_cases qw3_7 : yq4 = 7
      · replace h := ifp h qw3_7
        refine r_tableIn (t := 451) (off := 411) dL_law_40 (by rw [qw3_7]; decide) (by rw [qw3_7]; decide) (by rw [qw3_7]; rfl) (by decide) ?_
        refine r_aload_n dL_law_451 2 rfl ?_
        refine r_aload_n dL_law_452 1 rfl ?_
        refine r_iload dL_law_453 0 rfl ?_
        refine r_iconst (v := 1) dL_law_455 (by decide) ?_
        refine r_iadd dL_law_456 ?_
        obtain ⟨qg78, h⟩ := grd_at h
        refine s_sld hsn hsq dL_law_457 (inb_of qg78) ?_
        refine r_aload_n dL_law_458 1 rfl ?_
        refine r_iload dL_law_459 0 rfl ?_
        refine r_iconst (v := 2) dL_law_461 (by decide) ?_
        refine r_iadd dL_law_462 ?_
        obtain ⟨qg79, h⟩ := grd_at h
        refine s_sld hsn hsq dL_law_463 (inb_of qg79) ?_
        obtain ⟨rq81, σ82, qg80, h⟩ := bd2_at h
        refine x_callV (Y := mX11_bound) (d' := 3) dL_law_464 ml_L_52 yv_X11_bound (by omega) rfl rfl (by simp [Value.category]) (sR_is rfl rfl) (lc_X11_bound qg80) ?_
        refine r_aload_n dL_law_467 3 rfl ?_
        refine r_aload_n dL_law_468 1 rfl ?_
        refine r_iload dL_law_469 0 rfl ?_
        refine r_iconst (v := 1) dL_law_471 (by decide) ?_
        refine r_iadd dL_law_472 ?_
        obtain ⟨qg83, h⟩ := grd_at h
        refine s_sld hsn hsq dL_law_473 (inb_of qg83) ?_
        refine r_aload_n dL_law_474 1 rfl ?_
        refine r_iload dL_law_475 0 rfl ?_
        refine r_iconst (v := 2) dL_law_477 (by decide) ?_
        refine r_iadd dL_law_478 ?_
        obtain ⟨qg84, h⟩ := grd_at h
        refine s_sld hsn hsq dL_law_479 (inb_of qg84) ?_
        obtain ⟨rq86, σ87, qg85, h⟩ := bd2_at h
        refine x_callV (Y := mX12_bound) (d' := 3) dL_law_480 ml_L_55 yv_X12_bound (by omega) rfl rfl (by simp [Value.category]) (sR_is rfl rfl) (lc_X12_bound qg85) ?_
        refine r_icmp_eq (t := 1478) dL_law_483 (by decide) (fun qc88 => ?_) (fun qc88 => ?_)
        · replace h := ifp h qc88
          refine r_iinc (v := x4 + 6) (lo' := [(4, .int (x4 + 6)), (0, .ref (ad 1200)), (1, .ref (ad 0)), (2, .ref (ad 90)), (3, .ref (ad 80))]) dL_law_1478 0 rfl rfl (by decide) rfl ?_
          refine r_goto (t := 23) dL_law_1481 (by decide) ?_
          exact ab_E.lo [0, 1, 2, 3, 4] rfl (ih _ _ h)
        · replace h := ifn h qc88
          refine r_iconst (v := 0) dL_law_486 (by decide) ?_
          refine r_zret rfl (by decide) dL_law_487 ?_
          exact lfI h
      replace h := ifn h qw3_7
      by_cases qw3_8 : yq4 = 8
      · replace h := ifp h qw3_8
        refine r_tableIn (t := 488) (off := 448) dL_law_40 (by rw [qw3_8]; decide) (by rw [qw3_8]; decide) (by rw [qw3_8]; rfl) (by decide) ?_
        refine r_aload_n dL_law_488 2 rfl ?_
        refine r_aload_n dL_law_489 1 rfl ?_
        refine r_iload dL_law_490 0 rfl ?_
        refine r_iconst (v := 1) dL_law_492 (by decide) ?_
        refine r_iadd dL_law_493 ?_
        obtain ⟨qg89, h⟩ := grd_at h
        refine s_sld hsn hsq dL_law_494 (inb_of qg89) ?_
        refine r_aload_n dL_law_495 1 rfl ?_
        refine r_iload dL_law_496 0 rfl ?_
        refine r_iconst (v := 2) dL_law_498 (by decide) ?_
        refine r_iadd dL_law_499 ?_
        obtain ⟨qg90, h⟩ := grd_at h
        refine s_sld hsn hsq dL_law_500 (inb_of qg90) ?_
        refine r_aload_n dL_law_501 1 rfl ?_
        refine r_iload dL_law_502 0 rfl ?_
        refine r_iconst (v := 3) dL_law_504 (by decide) ?_
        refine r_iadd dL_law_505 ?_
        obtain ⟨qg91, h⟩ := grd_at h
        refine s_sld hsn hsq dL_law_506 (inb_of qg91) ?_
        obtain ⟨rq93, σ94, qg92, h⟩ := bd2_at h
        refine x_callV (Y := mX11_rankings) (d' := 8) dL_law_507 ml_L_56 yv_X11_rankings (by omega) rfl rfl (by simp [Value.category]) (sR_is rfl rfl) (lc_X11_rankings qg92) ?_
        refine r_aload_n dL_law_510 3 rfl ?_
        refine r_aload_n dL_law_511 1 rfl ?_
        refine r_iload dL_law_512 0 rfl ?_
        refine r_iconst (v := 1) dL_law_514 (by decide) ?_
        refine r_iadd dL_law_515 ?_
        obtain ⟨qg95, h⟩ := grd_at h
        refine s_sld hsn hsq dL_law_516 (inb_of qg95) ?_
        refine r_aload_n dL_law_517 1 rfl ?_
        refine r_iload dL_law_518 0 rfl ?_
        refine r_iconst (v := 2) dL_law_520 (by decide) ?_
        refine r_iadd dL_law_521 ?_
        obtain ⟨qg96, h⟩ := grd_at h
        refine s_sld hsn hsq dL_law_522 (inb_of qg96) ?_
        refine r_aload_n dL_law_523 1 rfl ?_
        refine r_iload dL_law_524 0 rfl ?_
        refine r_iconst (v := 3) dL_law_526 (by decide) ?_
        refine r_iadd dL_law_527 ?_
        obtain ⟨qg97, h⟩ := grd_at h
        refine s_sld hsn hsq dL_law_528 (inb_of qg97) ?_
        obtain ⟨rq99, σ100, qg98, h⟩ := bd2_at h
        refine x_callV (Y := mX12_rankings) (d' := 3) dL_law_529 ml_L_59 yv_X12_rankings (by omega) rfl rfl (by simp [Value.category]) (sR_is rfl rfl) (lc_X12_rankings qg98) ?_
        refine r_icmp_eq (t := 1478) dL_law_532 (by decide) (fun qc101 => ?_) (fun qc101 => ?_)
        · replace h := ifp h qc101
          refine r_iinc (v := x4 + 6) (lo' := [(4, .int (x4 + 6)), (0, .ref (ad 1200)), (1, .ref (ad 0)), (2, .ref (ad 90)), (3, .ref (ad 80))]) dL_law_1478 0 rfl rfl (by decide) rfl ?_
          refine r_goto (t := 23) dL_law_1481 (by decide) ?_
          exact ab_E.lo [0, 1, 2, 3, 4] rfl (ih _ _ h)
        · replace h := ifn h qc101
          refine r_iconst (v := 0) dL_law_535 (by decide) ?_
          refine r_zret rfl (by decide) dL_law_536 ?_
          exact lfI h
      replace h := ifn h qw3_8
      by_cases qw3_9 : yq4 = 9
      · replace h := ifp h qw3_9
        refine r_tableIn (t := 537) (off := 497) dL_law_40 (by rw [qw3_9]; decide) (by rw [qw3_9]; decide) (by rw [qw3_9]; rfl) (by decide) ?_
        refine r_aload_n dL_law_537 2 rfl ?_
        refine r_aload_n dL_law_538 1 rfl ?_
        refine r_iload dL_law_539 0 rfl ?_
        refine r_iconst (v := 1) dL_law_541 (by decide) ?_
        refine r_iadd dL_law_542 ?_
        obtain ⟨qg102, h⟩ := grd_at h
        refine s_sld hsn hsq dL_law_543 (inb_of qg102) ?_
        refine r_aload_n dL_law_544 1 rfl ?_
        refine r_iload dL_law_545 0 rfl ?_
        refine r_iconst (v := 2) dL_law_547 (by decide) ?_
        refine r_iadd dL_law_548 ?_
        obtain ⟨qg103, h⟩ := grd_at h
        refine s_sld hsn hsq dL_law_549 (inb_of qg103) ?_
        refine r_aload_n dL_law_550 1 rfl ?_
        refine r_iload dL_law_551 0 rfl ?_
        refine r_iconst (v := 3) dL_law_553 (by decide) ?_
        refine r_iadd dL_law_554 ?_
        obtain ⟨qg104, h⟩ := grd_at h
        refine s_sld hsn hsq dL_law_555 (inb_of qg104) ?_
        refine r_aload_n dL_law_556 1 rfl ?_
        refine r_iload dL_law_557 0 rfl ?_
        refine r_iconst (v := 4) dL_law_559 (by decide) ?_
        refine r_iadd dL_law_560 ?_
        obtain ⟨qg105, h⟩ := grd_at h
        refine s_sld hsn hsq dL_law_561 (inb_of qg105) ?_
        refine r_aload_n dL_law_562 1 rfl ?_
        refine r_iload dL_law_563 0 rfl ?_
        refine r_iconst (v := 5) dL_law_565 (by decide) ?_
        refine r_iadd dL_law_566 ?_
        obtain ⟨qg106, h⟩ := grd_at h
        refine s_sld hsn hsq dL_law_567 (inb_of qg106) ?_
        obtain ⟨rq108, σ109, qg107, h⟩ := bd2_at h
        refine x_callV (Y := mX11_ranked) (d' := 8) dL_law_568 ml_L_60 yv_X11_ranked (by omega) rfl rfl (by simp [Value.category]) (sR_is rfl rfl) (lc_X11_ranked qg107) ?_
        refine r_aload_n dL_law_571 3 rfl ?_
        refine r_aload_n dL_law_572 1 rfl ?_
        refine r_iload dL_law_573 0 rfl ?_
        refine r_iconst (v := 1) dL_law_575 (by decide) ?_
        refine r_iadd dL_law_576 ?_
        obtain ⟨qg110, h⟩ := grd_at h
        refine s_sld hsn hsq dL_law_577 (inb_of qg110) ?_
        refine r_aload_n dL_law_578 1 rfl ?_
        refine r_iload dL_law_579 0 rfl ?_
        refine r_iconst (v := 2) dL_law_581 (by decide) ?_
        refine r_iadd dL_law_582 ?_
        obtain ⟨qg111, h⟩ := grd_at h
        refine s_sld hsn hsq dL_law_583 (inb_of qg111) ?_
        refine r_aload_n dL_law_584 1 rfl ?_
        refine r_iload dL_law_585 0 rfl ?_
        refine r_iconst (v := 3) dL_law_587 (by decide) ?_
        refine r_iadd dL_law_588 ?_
        obtain ⟨qg112, h⟩ := grd_at h
        refine s_sld hsn hsq dL_law_589 (inb_of qg112) ?_
        refine r_aload_n dL_law_590 1 rfl ?_
        refine r_iload dL_law_591 0 rfl ?_
        refine r_iconst (v := 4) dL_law_593 (by decide) ?_
        refine r_iadd dL_law_594 ?_
        obtain ⟨qg113, h⟩ := grd_at h
        refine s_sld hsn hsq dL_law_595 (inb_of qg113) ?_
        refine r_aload_n dL_law_596 1 rfl ?_
        refine r_iload dL_law_597 0 rfl ?_
        refine r_iconst (v := 5) dL_law_599 (by decide) ?_
        refine r_iadd dL_law_600 ?_
        obtain ⟨qg114, h⟩ := grd_at h
        refine s_sld hsn hsq dL_law_601 (inb_of qg114) ?_
        obtain ⟨rq116, σ117, qg115, h⟩ := bd2_at h
        refine x_callV (Y := mX12_ranked) (d' := 4) dL_law_602 ml_L_63 yv_X12_ranked (by omega) rfl rfl (by simp [Value.category]) (sR_is rfl rfl) (lc_X12_ranked qg115) ?_
        refine r_icmp_eq (t := 1478) dL_law_605 (by decide) (fun qc118 => ?_) (fun qc118 => ?_)
        · replace h := ifp h qc118
          refine r_iinc (v := x4 + 6) (lo' := [(4, .int (x4 + 6)), (0, .ref (ad 1200)), (1, .ref (ad 0)), (2, .ref (ad 90)), (3, .ref (ad 80))]) dL_law_1478 0 rfl rfl (by decide) rfl ?_
          refine r_goto (t := 23) dL_law_1481 (by decide) ?_
          exact ab_E.lo [0, 1, 2, 3, 4] rfl (ih _ _ h)
        · replace h := ifn h qc118
          refine r_iconst (v := 0) dL_law_608 (by decide) ?_
          refine r_zret rfl (by decide) dL_law_609 ?_
          exact lfI h
      replace h := ifn h qw3_9
      by_cases qw3_10 : yq4 = 10
      · replace h := ifp h qw3_10
        refine r_tableIn (t := 610) (off := 570) dL_law_40 (by rw [qw3_10]; decide) (by rw [qw3_10]; decide) (by rw [qw3_10]; rfl) (by decide) ?_
        refine r_aload_n dL_law_610 2 rfl ?_
        refine r_aload_n dL_law_611 1 rfl ?_
        refine r_iload dL_law_612 0 rfl ?_
        refine r_iconst (v := 1) dL_law_614 (by decide) ?_
        refine r_iadd dL_law_615 ?_
        obtain ⟨qg119, h⟩ := grd_at h
        refine s_sld hsn hsq dL_law_616 (inb_of qg119) ?_
        obtain ⟨rq121, σ122, qg120, h⟩ := bd2_at h
        refine x_callV (Y := mX11_complement) (d' := 11) dL_law_617 ml_L_64 yv_X11_complement (by omega) rfl rfl (by simp [Value.category]) (sR_is rfl rfl) (lc_X11_complement qg120) ?_
        refine r_aload_n dL_law_620 3 rfl ?_
        refine r_aload_n dL_law_621 1 rfl ?_
        refine r_iload dL_law_622 0 rfl ?_
        refine r_iconst (v := 1) dL_law_624 (by decide) ?_
        refine r_iadd dL_law_625 ?_
        obtain ⟨qg123, h⟩ := grd_at h
        refine s_sld hsn hsq dL_law_626 (inb_of qg123) ?_
        obtain ⟨rq125, σ126, qg124, h⟩ := bd2_at h
        refine x_callV (Y := mX12_complement) (d' := 5) dL_law_627 ml_L_67 yv_X12_complement (by omega) rfl rfl (by simp [Value.category]) (sR_is rfl rfl) (lc_X12_complement qg124) ?_
        refine r_icmp_eq (t := 1478) dL_law_630 (by decide) (fun qc127 => ?_) (fun qc127 => ?_)
        · replace h := ifp h qc127
          refine r_iinc (v := x4 + 6) (lo' := [(4, .int (x4 + 6)), (0, .ref (ad 1200)), (1, .ref (ad 0)), (2, .ref (ad 90)), (3, .ref (ad 80))]) dL_law_1478 0 rfl rfl (by decide) rfl ?_
          refine r_goto (t := 23) dL_law_1481 (by decide) ?_
          exact ab_E.lo [0, 1, 2, 3, 4] rfl (ih _ _ h)
        · replace h := ifn h qc127
          refine r_iconst (v := 0) dL_law_633 (by decide) ?_
          refine r_zret rfl (by decide) dL_law_634 ?_
          exact lfI h
      replace h := ifn h qw3_10
      by_cases qw3_11 : yq4 = 11
      · replace h := ifp h qw3_11
        refine r_tableIn (t := 635) (off := 595) dL_law_40 (by rw [qw3_11]; decide) (by rw [qw3_11]; decide) (by rw [qw3_11]; rfl) (by decide) ?_
        refine r_aload_n dL_law_635 2 rfl ?_
        refine r_aload_n dL_law_636 1 rfl ?_
        refine r_iload dL_law_637 0 rfl ?_
        refine r_iconst (v := 1) dL_law_639 (by decide) ?_
        refine r_iadd dL_law_640 ?_
        obtain ⟨qg128, h⟩ := grd_at h
        refine s_sld hsn hsq dL_law_641 (inb_of qg128) ?_
        refine r_aload_n dL_law_642 1 rfl ?_
        refine r_iload dL_law_643 0 rfl ?_
        refine r_iconst (v := 2) dL_law_645 (by decide) ?_
        refine r_iadd dL_law_646 ?_
        obtain ⟨qg129, h⟩ := grd_at h
        refine s_sld hsn hsq dL_law_647 (inb_of qg129) ?_
        refine r_aload_n dL_law_648 1 rfl ?_
        refine r_iload dL_law_649 0 rfl ?_
        refine r_iconst (v := 3) dL_law_651 (by decide) ?_
        refine r_iadd dL_law_652 ?_
        obtain ⟨qg130, h⟩ := grd_at h
        refine s_sld hsn hsq dL_law_653 (inb_of qg130) ?_
        obtain ⟨rq132, σ133, qg131, h⟩ := bd2_at h
        refine x_callV (Y := mX11_node) (d' := 11) dL_law_654 ml_L_68 yv_X11_node (by omega) rfl rfl (by simp [Value.category]) (sR_is rfl rfl) (lc_X11_node qg131) ?_
        refine r_aload_n dL_law_657 3 rfl ?_
        refine r_aload_n dL_law_658 1 rfl ?_
        refine r_iload dL_law_659 0 rfl ?_
        refine r_iconst (v := 1) dL_law_661 (by decide) ?_
        refine r_iadd dL_law_662 ?_
        obtain ⟨qg134, h⟩ := grd_at h
        refine s_sld hsn hsq dL_law_663 (inb_of qg134) ?_
        refine r_aload_n dL_law_664 1 rfl ?_
        refine r_iload dL_law_665 0 rfl ?_
        refine r_iconst (v := 2) dL_law_667 (by decide) ?_
        refine r_iadd dL_law_668 ?_
        obtain ⟨qg135, h⟩ := grd_at h
        refine s_sld hsn hsq dL_law_669 (inb_of qg135) ?_
        refine r_aload_n dL_law_670 1 rfl ?_
        refine r_iload dL_law_671 0 rfl ?_
        refine r_iconst (v := 3) dL_law_673 (by decide) ?_
        refine r_iadd dL_law_674 ?_
        obtain ⟨qg136, h⟩ := grd_at h
        refine s_sld hsn hsq dL_law_675 (inb_of qg136) ?_
        obtain ⟨rq138, σ139, qg137, h⟩ := bd2_at h
        refine x_callV (Y := mX12_node) (d' := 6) dL_law_676 ml_L_71 yv_X12_node (by omega) rfl rfl (by simp [Value.category]) (sR_is rfl rfl) (lc_X12_node qg137) ?_
        refine r_icmp_eq (t := 1478) dL_law_679 (by decide) (fun qc140 => ?_) (fun qc140 => ?_)
        · replace h := ifp h qc140
          refine r_iinc (v := x4 + 6) (lo' := [(4, .int (x4 + 6)), (0, .ref (ad 1200)), (1, .ref (ad 0)), (2, .ref (ad 90)), (3, .ref (ad 80))]) dL_law_1478 0 rfl rfl (by decide) rfl ?_
          refine r_goto (t := 23) dL_law_1481 (by decide) ?_
          exact ab_E.lo [0, 1, 2, 3, 4] rfl (ih _ _ h)
        · replace h := ifn h qc140
          refine r_iconst (v := 0) dL_law_682 (by decide) ?_
          refine r_zret rfl (by decide) dL_law_683 ?_
          exact lfI h
      replace h := ifn h qw3_11
      by_cases qw3_12 : yq4 = 12
      · replace h := ifp h qw3_12
        refine r_tableIn (t := 684) (off := 644) dL_law_40 (by rw [qw3_12]; decide) (by rw [qw3_12]; decide) (by rw [qw3_12]; rfl) (by decide) ?_
        refine r_aload_n dL_law_684 2 rfl ?_
        refine r_aload_n dL_law_685 1 rfl ?_
        refine r_iload dL_law_686 0 rfl ?_
        refine r_iconst (v := 1) dL_law_688 (by decide) ?_
        refine r_iadd dL_law_689 ?_
        obtain ⟨qg141, h⟩ := grd_at h
        refine s_sld hsn hsq dL_law_690 (inb_of qg141) ?_
        refine r_aload_n dL_law_691 1 rfl ?_
        refine r_iload dL_law_692 0 rfl ?_
        refine r_iconst (v := 2) dL_law_694 (by decide) ?_
        refine r_iadd dL_law_695 ?_
        obtain ⟨qg142, h⟩ := grd_at h
        refine s_sld hsn hsq dL_law_696 (inb_of qg142) ?_
        refine r_aload_n dL_law_697 1 rfl ?_
        refine r_iload dL_law_698 0 rfl ?_
        refine r_iconst (v := 3) dL_law_700 (by decide) ?_
        refine r_iadd dL_law_701 ?_
        obtain ⟨qg143, h⟩ := grd_at h
        refine s_sld hsn hsq dL_law_702 (inb_of qg143) ?_
        obtain ⟨rq145, σ146, qg144, h⟩ := bd2_at h
        refine x_callV (Y := mX11_rank) (d' := 11) dL_law_703 ml_L_72 yv_X11_rank (by omega) rfl rfl (by simp [Value.category]) (sR_is rfl rfl) (lc_X11_rank qg144) ?_
        refine r_aload_n dL_law_706 3 rfl ?_
        refine r_aload_n dL_law_707 1 rfl ?_
        refine r_iload dL_law_708 0 rfl ?_
        refine r_iconst (v := 1) dL_law_710 (by decide) ?_
        refine r_iadd dL_law_711 ?_
        obtain ⟨qg147, h⟩ := grd_at h
        refine s_sld hsn hsq dL_law_712 (inb_of qg147) ?_
        refine r_aload_n dL_law_713 1 rfl ?_
        refine r_iload dL_law_714 0 rfl ?_
        refine r_iconst (v := 2) dL_law_716 (by decide) ?_
        refine r_iadd dL_law_717 ?_
        obtain ⟨qg148, h⟩ := grd_at h
        refine s_sld hsn hsq dL_law_718 (inb_of qg148) ?_
        refine r_aload_n dL_law_719 1 rfl ?_
        refine r_iload dL_law_720 0 rfl ?_
        refine r_iconst (v := 3) dL_law_722 (by decide) ?_
        refine r_iadd dL_law_723 ?_
        obtain ⟨qg149, h⟩ := grd_at h
        refine s_sld hsn hsq dL_law_724 (inb_of qg149) ?_
        obtain ⟨rq151, σ152, qg150, h⟩ := bd2_at h
        refine x_callV (Y := mX12_rank) (d' := 6) dL_law_725 ml_L_75 yv_X12_rank (by omega) rfl rfl (by simp [Value.category]) (sR_is rfl rfl) (lc_X12_rank qg150) ?_
        refine r_icmp_eq (t := 1478) dL_law_728 (by decide) (fun qc153 => ?_) (fun qc153 => ?_)
        · replace h := ifp h qc153
          refine r_iinc (v := x4 + 6) (lo' := [(4, .int (x4 + 6)), (0, .ref (ad 1200)), (1, .ref (ad 0)), (2, .ref (ad 90)), (3, .ref (ad 80))]) dL_law_1478 0 rfl rfl (by decide) rfl ?_
          refine r_goto (t := 23) dL_law_1481 (by decide) ?_
          exact ab_E.lo [0, 1, 2, 3, 4] rfl (ih _ _ h)
        · replace h := ifn h qc153
          refine r_iconst (v := 0) dL_law_731 (by decide) ?_
          refine r_zret rfl (by decide) dL_law_732 ?_
          exact lfI h
      replace h := ifn h qw3_12
      by_cases qw3_13 : yq4 = 13
      · replace h := ifp h qw3_13
        refine r_tableIn (t := 733) (off := 693) dL_law_40 (by rw [qw3_13]; decide) (by rw [qw3_13]; decide) (by rw [qw3_13]; rfl) (by decide) ?_
        refine r_aload_n dL_law_733 2 rfl ?_
        refine r_aload_n dL_law_734 1 rfl ?_
        refine r_iload dL_law_735 0 rfl ?_
        refine r_iconst (v := 1) dL_law_737 (by decide) ?_
        refine r_iadd dL_law_738 ?_
        obtain ⟨qg154, h⟩ := grd_at h
        refine s_sld hsn hsq dL_law_739 (inb_of qg154) ?_
        refine r_aload_n dL_law_740 1 rfl ?_
        refine r_iload dL_law_741 0 rfl ?_
        refine r_iconst (v := 2) dL_law_743 (by decide) ?_
        refine r_iadd dL_law_744 ?_
        obtain ⟨qg155, h⟩ := grd_at h
        refine s_sld hsn hsq dL_law_745 (inb_of qg155) ?_
        refine r_aload_n dL_law_746 1 rfl ?_
        refine r_iload dL_law_747 0 rfl ?_
        refine r_iconst (v := 3) dL_law_749 (by decide) ?_
        refine r_iadd dL_law_750 ?_
        obtain ⟨qg156, h⟩ := grd_at h
        refine s_sld hsn hsq dL_law_751 (inb_of qg156) ?_
        refine r_aload_n dL_law_752 1 rfl ?_
        refine r_iload dL_law_753 0 rfl ?_
        refine r_iconst (v := 4) dL_law_755 (by decide) ?_
        refine r_iadd dL_law_756 ?_
        obtain ⟨qg157, h⟩ := grd_at h
        refine s_sld hsn hsq dL_law_757 (inb_of qg157) ?_
        obtain ⟨rq159, σ160, qg158, h⟩ := bd2_at h
        refine x_callV (Y := mX11_next) (d' := 11) dL_law_758 ml_L_76 yv_X11_next (by omega) rfl rfl (by simp [Value.category]) (sR_is rfl rfl) (lc_X11_next qg158) ?_
        refine r_aload_n dL_law_761 3 rfl ?_
        refine r_aload_n dL_law_762 1 rfl ?_
        refine r_iload dL_law_763 0 rfl ?_
        refine r_iconst (v := 1) dL_law_765 (by decide) ?_
        refine r_iadd dL_law_766 ?_
        obtain ⟨qg161, h⟩ := grd_at h
        refine s_sld hsn hsq dL_law_767 (inb_of qg161) ?_
        refine r_aload_n dL_law_768 1 rfl ?_
        refine r_iload dL_law_769 0 rfl ?_
        refine r_iconst (v := 2) dL_law_771 (by decide) ?_
        refine r_iadd dL_law_772 ?_
        obtain ⟨qg162, h⟩ := grd_at h
        refine s_sld hsn hsq dL_law_773 (inb_of qg162) ?_
        refine r_aload_n dL_law_774 1 rfl ?_
        refine r_iload dL_law_775 0 rfl ?_
        refine r_iconst (v := 3) dL_law_777 (by decide) ?_
        refine r_iadd dL_law_778 ?_
        obtain ⟨qg163, h⟩ := grd_at h
        refine s_sld hsn hsq dL_law_779 (inb_of qg163) ?_
        refine r_aload_n dL_law_780 1 rfl ?_
        refine r_iload dL_law_781 0 rfl ?_
        refine r_iconst (v := 4) dL_law_783 (by decide) ?_
        refine r_iadd dL_law_784 ?_
        obtain ⟨qg164, h⟩ := grd_at h
        refine s_sld hsn hsq dL_law_785 (inb_of qg164) ?_
        obtain ⟨rq166, σ167, qg165, h⟩ := bd2_at h
        refine x_callV (Y := mX12_next) (d' := 6) dL_law_786 ml_L_79 yv_X12_next (by omega) rfl rfl (by simp [Value.category]) (sR_is rfl rfl) (lc_X12_next qg165) ?_
        refine r_icmp_eq (t := 1478) dL_law_789 (by decide) (fun qc168 => ?_) (fun qc168 => ?_)
        · replace h := ifp h qc168
          refine r_iinc (v := x4 + 6) (lo' := [(4, .int (x4 + 6)), (0, .ref (ad 1200)), (1, .ref (ad 0)), (2, .ref (ad 90)), (3, .ref (ad 80))]) dL_law_1478 0 rfl rfl (by decide) rfl ?_
          refine r_goto (t := 23) dL_law_1481 (by decide) ?_
          exact ab_E.lo [0, 1, 2, 3, 4] rfl (ih _ _ h)
        · replace h := ifn h qc168
          refine r_iconst (v := 0) dL_law_792 (by decide) ?_
          refine r_zret rfl (by decide) dL_law_793 ?_
          exact lfI h
      replace h := ifn h qw3_13
      by_cases qw3_14 : yq4 = 14
      · replace h := ifp h qw3_14
        refine r_tableIn (t := 794) (off := 754) dL_law_40 (by rw [qw3_14]; decide) (by rw [qw3_14]; decide) (by rw [qw3_14]; rfl) (by decide) ?_
        refine r_aload_n dL_law_794 2 rfl ?_
        refine r_aload_n dL_law_795 1 rfl ?_
        refine r_iload dL_law_796 0 rfl ?_
        refine r_iconst (v := 1) dL_law_798 (by decide) ?_
        refine r_iadd dL_law_799 ?_
        obtain ⟨qg169, h⟩ := grd_at h
        refine s_sld hsn hsq dL_law_800 (inb_of qg169) ?_
        refine r_aload_n dL_law_801 1 rfl ?_
        refine r_iload dL_law_802 0 rfl ?_
        refine r_iconst (v := 2) dL_law_804 (by decide) ?_
        refine r_iadd dL_law_805 ?_
        obtain ⟨qg170, h⟩ := grd_at h
        refine s_sld hsn hsq dL_law_806 (inb_of qg170) ?_
        obtain ⟨rq172, σ173, qg171, h⟩ := bd2_at h
        refine x_callV (Y := mX11_nodes) (d' := 11) dL_law_807 ml_L_80 yv_X11_nodes (by omega) rfl rfl (by simp [Value.category]) (sR_is rfl rfl) (lc_X11_nodes qg171) ?_
        refine r_aload_n dL_law_810 3 rfl ?_
        refine r_aload_n dL_law_811 1 rfl ?_
        refine r_iload dL_law_812 0 rfl ?_
        refine r_iconst (v := 1) dL_law_814 (by decide) ?_
        refine r_iadd dL_law_815 ?_
        obtain ⟨qg174, h⟩ := grd_at h
        refine s_sld hsn hsq dL_law_816 (inb_of qg174) ?_
        refine r_aload_n dL_law_817 1 rfl ?_
        refine r_iload dL_law_818 0 rfl ?_
        refine r_iconst (v := 2) dL_law_820 (by decide) ?_
        refine r_iadd dL_law_821 ?_
        obtain ⟨qg175, h⟩ := grd_at h
        refine s_sld hsn hsq dL_law_822 (inb_of qg175) ?_
        obtain ⟨rq177, σ178, qg176, h⟩ := bd2_at h
        refine x_callV (Y := mX12_nodes) (d' := 5) dL_law_823 ml_L_83 yv_X12_nodes (by omega) rfl rfl (by simp [Value.category]) (sR_is rfl rfl) (lc_X12_nodes qg176) ?_
        refine r_icmp_eq (t := 1478) dL_law_826 (by decide) (fun qc179 => ?_) (fun qc179 => ?_)
        · replace h := ifp h qc179
          refine r_iinc (v := x4 + 6) (lo' := [(4, .int (x4 + 6)), (0, .ref (ad 1200)), (1, .ref (ad 0)), (2, .ref (ad 90)), (3, .ref (ad 80))]) dL_law_1478 0 rfl rfl (by decide) rfl ?_
          refine r_goto (t := 23) dL_law_1481 (by decide) ?_
          exact ab_E.lo [0, 1, 2, 3, 4] rfl (ih _ _ h)
        · replace h := ifn h qc179
          refine r_iconst (v := 0) dL_law_829 (by decide) ?_
          refine r_zret rfl (by decide) dL_law_830 ?_
          exact lfI h
      replace h := ifn h qw3_14
      by_cases qw3_15 : yq4 = 15
      · replace h := ifp h qw3_15
        refine r_tableIn (t := 831) (off := 791) dL_law_40 (by rw [qw3_15]; decide) (by rw [qw3_15]; decide) (by rw [qw3_15]; rfl) (by decide) ?_
        refine r_aload_n dL_law_831 2 rfl ?_
        refine r_aload_n dL_law_832 1 rfl ?_
        refine r_iload dL_law_833 0 rfl ?_
        refine r_iconst (v := 1) dL_law_835 (by decide) ?_
        refine r_iadd dL_law_836 ?_
        obtain ⟨qg180, h⟩ := grd_at h
        refine s_sld hsn hsq dL_law_837 (inb_of qg180) ?_
        refine r_aload_n dL_law_838 1 rfl ?_
        refine r_iload dL_law_839 0 rfl ?_
        refine r_iconst (v := 2) dL_law_841 (by decide) ?_
        refine r_iadd dL_law_842 ?_
        obtain ⟨qg181, h⟩ := grd_at h
        refine s_sld hsn hsq dL_law_843 (inb_of qg181) ?_
        obtain ⟨rq183, σ184, qg182, h⟩ := bd2_at h
        refine x_callV (Y := mX11_takes) (d' := 13) dL_law_844 ml_L_84 yv_X11_takes (by omega) rfl rfl (by simp [Value.category]) (sR_is rfl rfl) (lc_X11_takes qg182) ?_
        refine r_aload_n dL_law_847 3 rfl ?_
        refine r_aload_n dL_law_848 1 rfl ?_
        refine r_iload dL_law_849 0 rfl ?_
        refine r_iconst (v := 1) dL_law_851 (by decide) ?_
        refine r_iadd dL_law_852 ?_
        obtain ⟨qg185, h⟩ := grd_at h
        refine s_sld hsn hsq dL_law_853 (inb_of qg185) ?_
        refine r_aload_n dL_law_854 1 rfl ?_
        refine r_iload dL_law_855 0 rfl ?_
        refine r_iconst (v := 2) dL_law_857 (by decide) ?_
        refine r_iadd dL_law_858 ?_
        obtain ⟨qg186, h⟩ := grd_at h
        refine s_sld hsn hsq dL_law_859 (inb_of qg186) ?_
        obtain ⟨rq188, σ189, qg187, h⟩ := bd2_at h
        refine x_callV (Y := mX12_takes) (d' := 9) dL_law_860 ml_L_87 yv_X12_takes (by omega) rfl rfl (by simp [Value.category]) (sR_is rfl rfl) (lc_X12_takes qg187) ?_
        refine r_icmp_eq (t := 1478) dL_law_863 (by decide) (fun qc190 => ?_) (fun qc190 => ?_)
        · replace h := ifp h qc190
          refine r_iinc (v := x4 + 6) (lo' := [(4, .int (x4 + 6)), (0, .ref (ad 1200)), (1, .ref (ad 0)), (2, .ref (ad 90)), (3, .ref (ad 80))]) dL_law_1478 0 rfl rfl (by decide) rfl ?_
          refine r_goto (t := 23) dL_law_1481 (by decide) ?_
          exact ab_E.lo [0, 1, 2, 3, 4] rfl (ih _ _ h)
        · replace h := ifn h qc190
          refine r_iconst (v := 0) dL_law_866 (by decide) ?_
          refine r_zret rfl (by decide) dL_law_867 ?_
          exact lfI h
      replace h := ifn h qw3_15
      by_cases qw3_16 : yq4 = 16
      · replace h := ifp h qw3_16
        refine r_tableIn (t := 868) (off := 828) dL_law_40 (by rw [qw3_16]; decide) (by rw [qw3_16]; decide) (by rw [qw3_16]; rfl) (by decide) ?_
        refine r_aload_n dL_law_868 2 rfl ?_
        refine r_aload_n dL_law_869 1 rfl ?_
        refine r_iload dL_law_870 0 rfl ?_
        refine r_iconst (v := 1) dL_law_872 (by decide) ?_
        refine r_iadd dL_law_873 ?_
        obtain ⟨qg191, h⟩ := grd_at h
        refine s_sld hsn hsq dL_law_874 (inb_of qg191) ?_
        refine r_aload_n dL_law_875 1 rfl ?_
        refine r_iload dL_law_876 0 rfl ?_
        refine r_iconst (v := 2) dL_law_878 (by decide) ?_
        refine r_iadd dL_law_879 ?_
        obtain ⟨qg192, h⟩ := grd_at h
        refine s_sld hsn hsq dL_law_880 (inb_of qg192) ?_
        obtain ⟨rq194, σ195, qg193, h⟩ := bd2_at h
        refine x_callV (Y := mX11_lacks) (d' := 13) dL_law_881 ml_L_88 yv_X11_lacks (by omega) rfl rfl (by simp [Value.category]) (sR_is rfl rfl) (lc_X11_lacks qg193) ?_
        refine r_aload_n dL_law_884 3 rfl ?_
        refine r_aload_n dL_law_885 1 rfl ?_
        refine r_iload dL_law_886 0 rfl ?_
        refine r_iconst (v := 1) dL_law_888 (by decide) ?_
        refine r_iadd dL_law_889 ?_
        obtain ⟨qg196, h⟩ := grd_at h
        refine s_sld hsn hsq dL_law_890 (inb_of qg196) ?_
        refine r_aload_n dL_law_891 1 rfl ?_
        refine r_iload dL_law_892 0 rfl ?_
        refine r_iconst (v := 2) dL_law_894 (by decide) ?_
        refine r_iadd dL_law_895 ?_
        obtain ⟨qg197, h⟩ := grd_at h
        refine s_sld hsn hsq dL_law_896 (inb_of qg197) ?_
        obtain ⟨rq199, σ200, qg198, h⟩ := bd2_at h
        refine x_callV (Y := mX12_lacks) (d' := 9) dL_law_897 ml_L_91 yv_X12_lacks (by omega) rfl rfl (by simp [Value.category]) (sR_is rfl rfl) (lc_X12_lacks qg198) ?_
        refine r_icmp_eq (t := 1478) dL_law_900 (by decide) (fun qc201 => ?_) (fun qc201 => ?_)
        · replace h := ifp h qc201
          refine r_iinc (v := x4 + 6) (lo' := [(4, .int (x4 + 6)), (0, .ref (ad 1200)), (1, .ref (ad 0)), (2, .ref (ad 90)), (3, .ref (ad 80))]) dL_law_1478 0 rfl rfl (by decide) rfl ?_
          refine r_goto (t := 23) dL_law_1481 (by decide) ?_
          exact ab_E.lo [0, 1, 2, 3, 4] rfl (ih _ _ h)
        · replace h := ifn h qc201
          refine r_iconst (v := 0) dL_law_903 (by decide) ?_
          refine r_zret rfl (by decide) dL_law_904 ?_
          exact lfI h
      replace h := ifn h qw3_16
      by_cases qw3_17 : yq4 = 17
      · replace h := ifp h qw3_17
        refine r_tableIn (t := 905) (off := 865) dL_law_40 (by rw [qw3_17]; decide) (by rw [qw3_17]; decide) (by rw [qw3_17]; rfl) (by decide) ?_
        refine r_aload_n dL_law_905 2 rfl ?_
        refine r_aload_n dL_law_906 1 rfl ?_
        refine r_iload dL_law_907 0 rfl ?_
        refine r_iconst (v := 1) dL_law_909 (by decide) ?_
        refine r_iadd dL_law_910 ?_
        obtain ⟨qg202, h⟩ := grd_at h
        refine s_sld hsn hsq dL_law_911 (inb_of qg202) ?_
        refine r_aload_n dL_law_912 1 rfl ?_
        refine r_iload dL_law_913 0 rfl ?_
        refine r_iconst (v := 2) dL_law_915 (by decide) ?_
        refine r_iadd dL_law_916 ?_
        obtain ⟨qg203, h⟩ := grd_at h
        refine s_sld hsn hsq dL_law_917 (inb_of qg203) ?_
        refine r_aload_n dL_law_918 1 rfl ?_
        refine r_iload dL_law_919 0 rfl ?_
        refine r_iconst (v := 3) dL_law_921 (by decide) ?_
        refine r_iadd dL_law_922 ?_
        obtain ⟨qg204, h⟩ := grd_at h
        refine s_sld hsn hsq dL_law_923 (inb_of qg204) ?_
        obtain ⟨rq206, σ207, qg205, h⟩ := bd2_at h
        refine x_callV (Y := mX11_follows) (d' := 8) dL_law_924 ml_L_92 yv_X11_follows (by omega) rfl rfl (by simp [Value.category]) (sR_is rfl rfl) (lc_X11_follows qg205) ?_
        refine r_aload_n dL_law_927 3 rfl ?_
        refine r_aload_n dL_law_928 1 rfl ?_
        refine r_iload dL_law_929 0 rfl ?_
        refine r_iconst (v := 1) dL_law_931 (by decide) ?_
        refine r_iadd dL_law_932 ?_
        obtain ⟨qg208, h⟩ := grd_at h
        refine s_sld hsn hsq dL_law_933 (inb_of qg208) ?_
        refine r_aload_n dL_law_934 1 rfl ?_
        refine r_iload dL_law_935 0 rfl ?_
        refine r_iconst (v := 2) dL_law_937 (by decide) ?_
        refine r_iadd dL_law_938 ?_
        obtain ⟨qg209, h⟩ := grd_at h
        refine s_sld hsn hsq dL_law_939 (inb_of qg209) ?_
        refine r_aload_n dL_law_940 1 rfl ?_
        refine r_iload dL_law_941 0 rfl ?_
        refine r_iconst (v := 3) dL_law_943 (by decide) ?_
        refine r_iadd dL_law_944 ?_
        obtain ⟨qg210, h⟩ := grd_at h
        refine s_sld hsn hsq dL_law_945 (inb_of qg210) ?_
        obtain ⟨rq212, σ213, qg211, h⟩ := bd2_at h
        refine x_callV (Y := mX12_follows) (d' := 6) dL_law_946 ml_L_95 yv_X12_follows (by omega) rfl rfl (by simp [Value.category]) (sR_is rfl rfl) (lc_X12_follows qg211) ?_
        refine r_icmp_eq (t := 1478) dL_law_949 (by decide) (fun qc214 => ?_) (fun qc214 => ?_)
        · replace h := ifp h qc214
          refine r_iinc (v := x4 + 6) (lo' := [(4, .int (x4 + 6)), (0, .ref (ad 1200)), (1, .ref (ad 0)), (2, .ref (ad 90)), (3, .ref (ad 80))]) dL_law_1478 0 rfl rfl (by decide) rfl ?_
          refine r_goto (t := 23) dL_law_1481 (by decide) ?_
          exact ab_E.lo [0, 1, 2, 3, 4] rfl (ih _ _ h)
        · replace h := ifn h qc214
          refine r_iconst (v := 0) dL_law_952 (by decide) ?_
          refine r_zret rfl (by decide) dL_law_953 ?_
          exact lfI h
      replace h := ifn h qw3_17
      by_cases qw3_18 : yq4 = 18
      · replace h := ifp h qw3_18
        refine r_tableIn (t := 954) (off := 914) dL_law_40 (by rw [qw3_18]; decide) (by rw [qw3_18]; decide) (by rw [qw3_18]; rfl) (by decide) ?_
        refine r_aload_n dL_law_954 2 rfl ?_
        refine r_aload_n dL_law_955 1 rfl ?_
        refine r_iload dL_law_956 0 rfl ?_
        refine r_iconst (v := 1) dL_law_958 (by decide) ?_
        refine r_iadd dL_law_959 ?_
        obtain ⟨qg215, h⟩ := grd_at h
        refine s_sld hsn hsq dL_law_960 (inb_of qg215) ?_
        refine r_aload_n dL_law_961 1 rfl ?_
        refine r_iload dL_law_962 0 rfl ?_
        refine r_iconst (v := 2) dL_law_964 (by decide) ?_
        refine r_iadd dL_law_965 ?_
        obtain ⟨qg216, h⟩ := grd_at h
        refine s_sld hsn hsq dL_law_966 (inb_of qg216) ?_
        refine r_aload_n dL_law_967 1 rfl ?_
        refine r_iload dL_law_968 0 rfl ?_
        refine r_iconst (v := 3) dL_law_970 (by decide) ?_
        refine r_iadd dL_law_971 ?_
        obtain ⟨qg217, h⟩ := grd_at h
        refine s_sld hsn hsq dL_law_972 (inb_of qg217) ?_
        obtain ⟨rq219, σ220, qg218, h⟩ := bd2_at h
        refine x_callV (Y := mX11_counts) (d' := 13) dL_law_973 ml_L_96 yv_X11_counts (by omega) rfl rfl (by simp [Value.category]) (sR_is rfl rfl) (lc_X11_counts qg218) ?_
        refine r_aload_n dL_law_976 3 rfl ?_
        refine r_aload_n dL_law_977 1 rfl ?_
        refine r_iload dL_law_978 0 rfl ?_
        refine r_iconst (v := 1) dL_law_980 (by decide) ?_
        refine r_iadd dL_law_981 ?_
        obtain ⟨qg221, h⟩ := grd_at h
        refine s_sld hsn hsq dL_law_982 (inb_of qg221) ?_
        refine r_aload_n dL_law_983 1 rfl ?_
        refine r_iload dL_law_984 0 rfl ?_
        refine r_iconst (v := 2) dL_law_986 (by decide) ?_
        refine r_iadd dL_law_987 ?_
        obtain ⟨qg222, h⟩ := grd_at h
        refine s_sld hsn hsq dL_law_988 (inb_of qg222) ?_
        refine r_aload_n dL_law_989 1 rfl ?_
        refine r_iload dL_law_990 0 rfl ?_
        refine r_iconst (v := 3) dL_law_992 (by decide) ?_
        refine r_iadd dL_law_993 ?_
        obtain ⟨qg223, h⟩ := grd_at h
        refine s_sld hsn hsq dL_law_994 (inb_of qg223) ?_
        obtain ⟨rq225, σ226, qg224, h⟩ := bd2_at h
        refine x_callV (Y := mX12_counts) (d' := 10) dL_law_995 ml_L_99 yv_X12_counts (by omega) rfl rfl (by simp [Value.category]) (sR_is rfl rfl) (lc_X12_counts qg224) ?_
        refine r_icmp_eq (t := 1478) dL_law_998 (by decide) (fun qc227 => ?_) (fun qc227 => ?_)
        · replace h := ifp h qc227
          refine r_iinc (v := x4 + 6) (lo' := [(4, .int (x4 + 6)), (0, .ref (ad 1200)), (1, .ref (ad 0)), (2, .ref (ad 90)), (3, .ref (ad 80))]) dL_law_1478 0 rfl rfl (by decide) rfl ?_
          refine r_goto (t := 23) dL_law_1481 (by decide) ?_
          exact ab_E.lo [0, 1, 2, 3, 4] rfl (ih _ _ h)
        · replace h := ifn h qc227
          refine r_iconst (v := 0) dL_law_1001 (by decide) ?_
          refine r_zret rfl (by decide) dL_law_1002 ?_
          exact lfI h
      replace h := ifn h qw3_18
      by_cases qw3_19 : yq4 = 19
      · replace h := ifp h qw3_19
        refine r_tableIn (t := 1003) (off := 963) dL_law_40 (by rw [qw3_19]; decide) (by rw [qw3_19]; decide) (by rw [qw3_19]; rfl) (by decide) ?_
        refine r_aload_n dL_law_1003 2 rfl ?_
        refine r_aload_n dL_law_1004 1 rfl ?_
        refine r_iload dL_law_1005 0 rfl ?_
        refine r_iconst (v := 1) dL_law_1007 (by decide) ?_
        refine r_iadd dL_law_1008 ?_
        obtain ⟨qg228, h⟩ := grd_at h
        refine s_sld hsn hsq dL_law_1009 (inb_of qg228) ?_
        refine r_aload_n dL_law_1010 1 rfl ?_
        refine r_iload dL_law_1011 0 rfl ?_
        refine r_iconst (v := 2) dL_law_1013 (by decide) ?_
        refine r_iadd dL_law_1014 ?_
        obtain ⟨qg229, h⟩ := grd_at h
        refine s_sld hsn hsq dL_law_1015 (inb_of qg229) ?_
        refine r_aload_n dL_law_1016 1 rfl ?_
        refine r_iload dL_law_1017 0 rfl ?_
        refine r_iconst (v := 3) dL_law_1019 (by decide) ?_
        refine r_iadd dL_law_1020 ?_
        obtain ⟨qg230, h⟩ := grd_at h
        refine s_sld hsn hsq dL_law_1021 (inb_of qg230) ?_
        obtain ⟨rq232, σ233, qg231, h⟩ := bd2_at h
        refine x_callV (Y := mX11_others) (d' := 13) dL_law_1022 ml_L_100 yv_X11_others (by omega) rfl rfl (by simp [Value.category]) (sR_is rfl rfl) (lc_X11_others qg231) ?_
        refine r_aload_n dL_law_1025 3 rfl ?_
        refine r_aload_n dL_law_1026 1 rfl ?_
        refine r_iload dL_law_1027 0 rfl ?_
        refine r_iconst (v := 1) dL_law_1029 (by decide) ?_
        refine r_iadd dL_law_1030 ?_
        obtain ⟨qg234, h⟩ := grd_at h
        refine s_sld hsn hsq dL_law_1031 (inb_of qg234) ?_
        refine r_aload_n dL_law_1032 1 rfl ?_
        refine r_iload dL_law_1033 0 rfl ?_
        refine r_iconst (v := 2) dL_law_1035 (by decide) ?_
        refine r_iadd dL_law_1036 ?_
        obtain ⟨qg235, h⟩ := grd_at h
        refine s_sld hsn hsq dL_law_1037 (inb_of qg235) ?_
        refine r_aload_n dL_law_1038 1 rfl ?_
        refine r_iload dL_law_1039 0 rfl ?_
        refine r_iconst (v := 3) dL_law_1041 (by decide) ?_
        refine r_iadd dL_law_1042 ?_
        obtain ⟨qg236, h⟩ := grd_at h
        refine s_sld hsn hsq dL_law_1043 (inb_of qg236) ?_
        obtain ⟨rq238, σ239, qg237, h⟩ := bd2_at h
        refine x_callV (Y := mX12_others) (d' := 10) dL_law_1044 ml_L_103 yv_X12_others (by omega) rfl rfl (by simp [Value.category]) (sR_is rfl rfl) (lc_X12_others qg237) ?_
        refine r_icmp_eq (t := 1478) dL_law_1047 (by decide) (fun qc240 => ?_) (fun qc240 => ?_)
        · replace h := ifp h qc240
          refine r_iinc (v := x4 + 6) (lo' := [(4, .int (x4 + 6)), (0, .ref (ad 1200)), (1, .ref (ad 0)), (2, .ref (ad 90)), (3, .ref (ad 80))]) dL_law_1478 0 rfl rfl (by decide) rfl ?_
          refine r_goto (t := 23) dL_law_1481 (by decide) ?_
          exact ab_E.lo [0, 1, 2, 3, 4] rfl (ih _ _ h)
        · replace h := ifn h qc240
          refine r_iconst (v := 0) dL_law_1050 (by decide) ?_
          refine r_zret rfl (by decide) dL_law_1051 ?_
          exact lfI h
      replace h := ifn h qw3_19
      by_cases qw3_20 : yq4 = 20
      · replace h := ifp h qw3_20
        refine r_tableIn (t := 1052) (off := 1012) dL_law_40 (by rw [qw3_20]; decide) (by rw [qw3_20]; decide) (by rw [qw3_20]; rfl) (by decide) ?_
        refine r_aload_n dL_law_1052 2 rfl ?_
        refine r_aload_n dL_law_1053 1 rfl ?_
        refine r_iload dL_law_1054 0 rfl ?_
        refine r_iconst (v := 1) dL_law_1056 (by decide) ?_
        refine r_iadd dL_law_1057 ?_
        obtain ⟨qg241, h⟩ := grd_at h
        refine s_sld hsn hsq dL_law_1058 (inb_of qg241) ?_
        obtain ⟨rq243, σ244, qg242, h⟩ := bd2_at h
        refine x_callV (Y := mX11_empty) (d' := 12) dL_law_1059 ml_L_104 yv_X11_empty (by omega) rfl rfl (by simp [Value.category]) (sR_is rfl rfl) (lc_X11_empty qg242) ?_
        refine r_aload_n dL_law_1062 3 rfl ?_
        refine r_aload_n dL_law_1063 1 rfl ?_
        refine r_iload dL_law_1064 0 rfl ?_
        refine r_iconst (v := 1) dL_law_1066 (by decide) ?_
        refine r_iadd dL_law_1067 ?_
        obtain ⟨qg245, h⟩ := grd_at h
        refine s_sld hsn hsq dL_law_1068 (inb_of qg245) ?_
        obtain ⟨rq247, σ248, qg246, h⟩ := bd2_at h
        refine x_callV (Y := mX12_empty) (d' := 9) dL_law_1069 ml_L_107 yv_X12_empty (by omega) rfl rfl (by simp [Value.category]) (sR_is rfl rfl) (lc_X12_empty qg246) ?_
        refine r_icmp_eq (t := 1478) dL_law_1072 (by decide) (fun qc249 => ?_) (fun qc249 => ?_)
        · replace h := ifp h qc249
          refine r_iinc (v := x4 + 6) (lo' := [(4, .int (x4 + 6)), (0, .ref (ad 1200)), (1, .ref (ad 0)), (2, .ref (ad 90)), (3, .ref (ad 80))]) dL_law_1478 0 rfl rfl (by decide) rfl ?_
          refine r_goto (t := 23) dL_law_1481 (by decide) ?_
          exact ab_E.lo [0, 1, 2, 3, 4] rfl (ih _ _ h)
        · replace h := ifn h qc249
          refine r_iconst (v := 0) dL_law_1075 (by decide) ?_
          refine r_zret rfl (by decide) dL_law_1076 ?_
          exact lfI h
      replace h := ifn h qw3_20
      by_cases qw3_21 : yq4 = 21
      · replace h := ifp h qw3_21
        refine r_tableIn (t := 1077) (off := 1037) dL_law_40 (by rw [qw3_21]; decide) (by rw [qw3_21]; decide) (by rw [qw3_21]; rfl) (by decide) ?_
        refine r_aload_n dL_law_1077 2 rfl ?_
        refine r_aload_n dL_law_1078 1 rfl ?_
        refine r_iload dL_law_1079 0 rfl ?_
        refine r_iconst (v := 1) dL_law_1081 (by decide) ?_
        refine r_iadd dL_law_1082 ?_
        obtain ⟨qg250, h⟩ := grd_at h
        refine s_sld hsn hsq dL_law_1083 (inb_of qg250) ?_
        obtain ⟨rq252, σ253, qg251, h⟩ := bd2_at h
        refine x_callV (Y := mX11_all) (d' := 12) dL_law_1084 ml_L_108 yv_X11_all (by omega) rfl rfl (by simp [Value.category]) (sR_is rfl rfl) (lc_X11_all qg251) ?_
        refine r_aload_n dL_law_1087 3 rfl ?_
        refine r_aload_n dL_law_1088 1 rfl ?_
        refine r_iload dL_law_1089 0 rfl ?_
        refine r_iconst (v := 1) dL_law_1091 (by decide) ?_
        refine r_iadd dL_law_1092 ?_
        obtain ⟨qg254, h⟩ := grd_at h
        refine s_sld hsn hsq dL_law_1093 (inb_of qg254) ?_
        obtain ⟨rq256, σ257, qg255, h⟩ := bd2_at h
        refine x_callV (Y := mX12_all) (d' := 9) dL_law_1094 ml_L_111 yv_X12_all (by omega) rfl rfl (by simp [Value.category]) (sR_is rfl rfl) (lc_X12_all qg255) ?_
        refine r_icmp_eq (t := 1478) dL_law_1097 (by decide) (fun qc258 => ?_) (fun qc258 => ?_)
        · replace h := ifp h qc258
          refine r_iinc (v := x4 + 6) (lo' := [(4, .int (x4 + 6)), (0, .ref (ad 1200)), (1, .ref (ad 0)), (2, .ref (ad 90)), (3, .ref (ad 80))]) dL_law_1478 0 rfl rfl (by decide) rfl ?_
          refine r_goto (t := 23) dL_law_1481 (by decide) ?_
          exact ab_E.lo [0, 1, 2, 3, 4] rfl (ih _ _ h)
        · replace h := ifn h qc258
          refine r_iconst (v := 0) dL_law_1100 (by decide) ?_
          refine r_zret rfl (by decide) dL_law_1101 ?_
          exact lfI h
      replace h := ifn h qw3_21
      by_cases qw3_22 : yq4 = 22
      · replace h := ifp h qw3_22
        refine r_tableIn (t := 1102) (off := 1062) dL_law_40 (by rw [qw3_22]; decide) (by rw [qw3_22]; decide) (by rw [qw3_22]; rfl) (by decide) ?_
        refine r_aload_n dL_law_1102 2 rfl ?_
        refine r_aload_n dL_law_1103 1 rfl ?_
        refine r_iload dL_law_1104 0 rfl ?_
        refine r_iconst (v := 1) dL_law_1106 (by decide) ?_
        refine r_iadd dL_law_1107 ?_
        obtain ⟨qg259, h⟩ := grd_at h
        refine s_sld hsn hsq dL_law_1108 (inb_of qg259) ?_
        refine r_aload_n dL_law_1109 1 rfl ?_
        refine r_iload dL_law_1110 0 rfl ?_
        refine r_iconst (v := 2) dL_law_1112 (by decide) ?_
        refine r_iadd dL_law_1113 ?_
        obtain ⟨qg260, h⟩ := grd_at h
        refine s_sld hsn hsq dL_law_1114 (inb_of qg260) ?_
        obtain ⟨rq262, σ263, qg261, h⟩ := bd2_at h
        refine x_callV (Y := mX11_within) (d' := 12) dL_law_1115 ml_L_112 yv_X11_within (by omega) rfl rfl (by simp [Value.category]) (sR_is rfl rfl) (lc_X11_within qg261) ?_
        refine r_aload_n dL_law_1118 3 rfl ?_
        refine r_aload_n dL_law_1119 1 rfl ?_
        refine r_iload dL_law_1120 0 rfl ?_
        refine r_iconst (v := 1) dL_law_1122 (by decide) ?_
        refine r_iadd dL_law_1123 ?_
        obtain ⟨qg264, h⟩ := grd_at h
        refine s_sld hsn hsq dL_law_1124 (inb_of qg264) ?_
        refine r_aload_n dL_law_1125 1 rfl ?_
        refine r_iload dL_law_1126 0 rfl ?_
        refine r_iconst (v := 2) dL_law_1128 (by decide) ?_
        refine r_iadd dL_law_1129 ?_
        obtain ⟨qg265, h⟩ := grd_at h
        refine s_sld hsn hsq dL_law_1130 (inb_of qg265) ?_
        obtain ⟨rq267, σ268, qg266, h⟩ := bd2_at h
        refine x_callV (Y := mX12_within) (d' := 9) dL_law_1131 ml_L_115 yv_X12_within (by omega) rfl rfl (by simp [Value.category]) (sR_is rfl rfl) (lc_X12_within qg266) ?_
        refine r_icmp_eq (t := 1478) dL_law_1134 (by decide) (fun qc269 => ?_) (fun qc269 => ?_)
        · replace h := ifp h qc269
          refine r_iinc (v := x4 + 6) (lo' := [(4, .int (x4 + 6)), (0, .ref (ad 1200)), (1, .ref (ad 0)), (2, .ref (ad 90)), (3, .ref (ad 80))]) dL_law_1478 0 rfl rfl (by decide) rfl ?_
          refine r_goto (t := 23) dL_law_1481 (by decide) ?_
          exact ab_E.lo [0, 1, 2, 3, 4] rfl (ih _ _ h)
        · replace h := ifn h qc269
          refine r_iconst (v := 0) dL_law_1137 (by decide) ?_
          refine r_zret rfl (by decide) dL_law_1138 ?_
          exact lfI h
      replace h := ifn h qw3_22
      by_cases qw3_23 : yq4 = 23
      · replace h := ifp h qw3_23
        refine r_tableIn (t := 1139) (off := 1099) dL_law_40 (by rw [qw3_23]; decide) (by rw [qw3_23]; decide) (by rw [qw3_23]; rfl) (by decide) ?_
        refine r_aload_n dL_law_1139 2 rfl ?_
        refine x_callV (Y := mX11_met) (d' := 1) dL_law_1140 ml_L_116 yv_X11_met (by omega) rfl rfl (by simp [Value.category]) (sR_is rfl rfl) (lc_X11_met σ) ?_
        refine r_aload_n dL_law_1143 3 rfl ?_
        obtain ⟨rq271, σ272, qg270, h⟩ := bd2_at h
        refine x_callV (Y := mX12_met) (d' := 1) dL_law_1144 ml_L_119 yv_X12_met (by omega) rfl rfl (by simp [Value.category]) (sR_is rfl rfl) (lc_X12_met qg270) ?_
        refine r_icmp_eq (t := 1478) dL_law_1147 (by decide) (fun qc273 => ?_) (fun qc273 => ?_)
        · replace h := ifp h qc273
          refine r_iinc (v := x4 + 6) (lo' := [(4, .int (x4 + 6)), (0, .ref (ad 1200)), (1, .ref (ad 0)), (2, .ref (ad 90)), (3, .ref (ad 80))]) dL_law_1478 0 rfl rfl (by decide) rfl ?_
          refine r_goto (t := 23) dL_law_1481 (by decide) ?_
          exact ab_E.lo [0, 1, 2, 3, 4] rfl (ih _ _ h)
        · replace h := ifn h qc273
          refine r_iconst (v := 0) dL_law_1150 (by decide) ?_
          refine r_zret rfl (by decide) dL_law_1151 ?_
          exact lfI h
      replace h := ifn h qw3_23
      by_cases qw3_24 : yq4 = 24
      · replace h := ifp h qw3_24
        refine r_tableIn (t := 1152) (off := 1112) dL_law_40 (by rw [qw3_24]; decide) (by rw [qw3_24]; decide) (by rw [qw3_24]; rfl) (by decide) ?_
        refine r_aload_n dL_law_1152 2 rfl ?_
        refine r_aload_n dL_law_1153 1 rfl ?_
        refine r_iload dL_law_1154 0 rfl ?_
        refine r_iconst (v := 1) dL_law_1156 (by decide) ?_
        refine r_iadd dL_law_1157 ?_
        obtain ⟨qg274, h⟩ := grd_at h
        refine s_sld hsn hsq dL_law_1158 (inb_of qg274) ?_
        obtain ⟨rq276, σ277, qg275, h⟩ := bd2_at h
        refine x_callV (Y := mX11_shown) (d' := 2) dL_law_1159 ml_L_120 yv_X11_shown (by omega) rfl rfl (by simp [Value.category]) (sR_is rfl rfl) (lc_X11_shown qg275) ?_
        refine r_aload_n dL_law_1162 3 rfl ?_
        refine r_aload_n dL_law_1163 1 rfl ?_
        refine r_iload dL_law_1164 0 rfl ?_
        refine r_iconst (v := 1) dL_law_1166 (by decide) ?_
        refine r_iadd dL_law_1167 ?_
        obtain ⟨qg278, h⟩ := grd_at h
        refine s_sld hsn hsq dL_law_1168 (inb_of qg278) ?_
        obtain ⟨rq280, σ281, qg279, h⟩ := bd2_at h
        refine x_callV (Y := mX12_shown) (d' := 2) dL_law_1169 ml_L_123 yv_X12_shown (by omega) rfl rfl (by simp [Value.category]) (sR_is rfl rfl) (lc_X12_shown qg279) ?_
        refine r_icmp_eq (t := 1478) dL_law_1172 (by decide) (fun qc282 => ?_) (fun qc282 => ?_)
        · replace h := ifp h qc282
          refine r_iinc (v := x4 + 6) (lo' := [(4, .int (x4 + 6)), (0, .ref (ad 1200)), (1, .ref (ad 0)), (2, .ref (ad 90)), (3, .ref (ad 80))]) dL_law_1478 0 rfl rfl (by decide) rfl ?_
          refine r_goto (t := 23) dL_law_1481 (by decide) ?_
          exact ab_E.lo [0, 1, 2, 3, 4] rfl (ih _ _ h)
        · replace h := ifn h qc282
          refine r_iconst (v := 0) dL_law_1175 (by decide) ?_
          refine r_zret rfl (by decide) dL_law_1176 ?_
          exact lfI h
      replace h := ifn h qw3_24
      by_cases qw3_25 : yq4 = 25
      · replace h := ifp h qw3_25
        refine r_tableIn (t := 1177) (off := 1137) dL_law_40 (by rw [qw3_25]; decide) (by rw [qw3_25]; decide) (by rw [qw3_25]; rfl) (by decide) ?_
        refine r_aload_n dL_law_1177 2 rfl ?_
        refine r_aload_n dL_law_1178 1 rfl ?_
        refine r_iload dL_law_1179 0 rfl ?_
        refine r_iconst (v := 1) dL_law_1181 (by decide) ?_
        refine r_iadd dL_law_1182 ?_
        obtain ⟨qg283, h⟩ := grd_at h
        refine s_sld hsn hsq dL_law_1183 (inb_of qg283) ?_
        refine r_aload_n dL_law_1184 4 rfl ?_
        obtain ⟨rq285, σ286, qg284, h⟩ := bd2_at h
        refine x_callSW dL_law_1185 ml_L_124 (by omega) rfl (by simp [Value.category]) (lc_L_letter qg284) ?_
        refine r_istore (lo' := [(5, .int rq285), (4, .int x4), (0, .ref (ad 1200)), (1, .ref (ad 0)), (2, .ref (ad 90)), (3, .ref (ad 80))]) dL_law_1188 (by decide) rfl ?_
        refine r_aload_n dL_law_1190 4 rfl ?_
        refine r_aload_n dL_law_1191 2 rfl ?_
        refine r_iload dL_law_1192 1 rfl ?_
        refine r_iconst (v := 1) dL_law_1194 (by decide) ?_
        refine r_iadd dL_law_1195 ?_
        obtain ⟨qg287, h⟩ := grd_at h
        refine s_sld hsn hsq dL_law_1196 (inb_of qg287) ?_
        obtain ⟨rq289, σ290, qg288, h⟩ := bd2_at h
        refine x_callV (Y := mX12_letter) (d' := 2) dL_law_1197 ml_L_129 yv_X12_letter (by omega) rfl rfl (by simp [Value.category]) (sR_is rfl rfl) (lc_X12_letter qg288) ?_
        refine r_istore (lo' := [(6, .int rq289), (5, .int rq285), (4, .int x4), (0, .ref (ad 1200)), (1, .ref (ad 0)), (2, .ref (ad 90)), (3, .ref (ad 80))]) dL_law_1200 (by decide) rfl ?_
        refine r_aload_n dL_law_1202 5 rfl ?_
        refine x_callV (Y := mX12_thrown) (d' := 1) dL_law_1203 ml_L_130 yv_X12_thrown (by omega) rfl rfl (by simp [Value.category]) (sR_is rfl rfl) (lc_X12_thrown σ290) ?_
        refine r_iload dL_law_1206 1 rfl ?_
        refine r_icmp_eq (t := 1213) dL_law_1208 (by decide) (fun qc291 => ?_) (fun qc291 => ?_)
        · replace h := ifp h qc291
          refine r_iload dL_law_1213 1 rfl ?_
          refine r_if_ne (t := 1230) dL_law_1215 (by decide) (fun qc292 => ?_) (fun qc292 => ?_)
          · replace h := ifn h qc292
            refine r_goto (t := 1478) dL_law_1230 (by decide) ?_
            refine r_iinc (v := x4 + 6) (lo' := [(4, .int (x4 + 6)), (6, .int rq289), (5, .int rq285), (0, .ref (ad 1200)), (1, .ref (ad 0)), (2, .ref (ad 90)), (3, .ref (ad 80))]) dL_law_1478 2 rfl rfl (by decide) rfl ?_
            refine r_goto (t := 23) dL_law_1481 (by decide) ?_
            exact ab_E.lo [0, 3, 4, 5, 6] rfl (ih _ _ h)
          · replace h := ifp h qc292
            refine r_aload_n dL_law_1218 6 rfl ?_
            refine r_iconst (v := 0) dL_law_1219 (by decide) ?_
            refine s_lald dL_law_1220 rfl (inb_of (by decide)) ?_
            refine r_iload dL_law_1221 0 rfl ?_
            refine r_i2l dL_law_1223 ?_
            refine r_lcmp dL_law_1224 ?_
            refine r_if_eq (t := 1230) dL_law_1225 (by decide) (fun qc293 => ?_) (fun qc293 => ?_)
            · replace h := ifp h qc293
              refine r_goto (t := 1478) dL_law_1230 (by decide) ?_
              refine r_iinc (v := x4 + 6) (lo' := [(4, .int (x4 + 6)), (6, .int rq289), (5, .int rq285), (0, .ref (ad 1200)), (1, .ref (ad 0)), (2, .ref (ad 90)), (3, .ref (ad 80))]) dL_law_1478 2 rfl rfl (by decide) rfl ?_
              refine r_goto (t := 23) dL_law_1481 (by decide) ?_
              exact ab_E.lo [0, 3, 4, 5, 6] rfl (ih _ _ h)
            · replace h := ifn h qc293
              refine r_iconst (v := 0) dL_law_1228 (by decide) ?_
              refine r_zret rfl (by decide) dL_law_1229 ?_
              exact lfI h
        · replace h := ifn h qc291
          refine r_iconst (v := 0) dL_law_1211 (by decide) ?_
          refine r_zret rfl (by decide) dL_law_1212 ?_
          exact lfI h
      replace h := ifn h qw3_25
      by_cases qw3_26 : yq4 = 26
      · replace h := ifp h qw3_26
        refine r_tableIn (t := 1233) (off := 1193) dL_law_40 (by rw [qw3_26]; decide) (by rw [qw3_26]; decide) (by rw [qw3_26]; rfl) (by decide) ?_
        refine r_aload_n dL_law_1233 2 rfl ?_
        refine r_aload_n dL_law_1234 1 rfl ?_
        refine r_iload dL_law_1235 0 rfl ?_
        refine r_iconst (v := 1) dL_law_1237 (by decide) ?_
        refine r_iadd dL_law_1238 ?_
        obtain ⟨qg294, h⟩ := grd_at h
        refine s_sld hsn hsq dL_law_1239 (inb_of qg294) ?_
        refine r_aload_n dL_law_1240 1 rfl ?_
        refine r_iload dL_law_1241 0 rfl ?_
        refine r_iconst (v := 2) dL_law_1243 (by decide) ?_
        refine r_iadd dL_law_1244 ?_
        obtain ⟨qg295, h⟩ := grd_at h
        refine s_sld hsn hsq dL_law_1245 (inb_of qg295) ?_
        refine r_aload_n dL_law_1246 1 rfl ?_
        refine r_iload dL_law_1247 0 rfl ?_
        refine r_iconst (v := 3) dL_law_1249 (by decide) ?_
        refine r_iadd dL_law_1250 ?_
        obtain ⟨qg296, h⟩ := grd_at h
        refine s_sld hsn hsq dL_law_1251 (inb_of qg296) ?_
        refine r_aload_n dL_law_1252 1 rfl ?_
        refine r_iload dL_law_1253 0 rfl ?_
        refine r_iconst (v := 4) dL_law_1255 (by decide) ?_
        refine r_iadd dL_law_1256 ?_
        obtain ⟨qg297, h⟩ := grd_at h
        refine s_sld hsn hsq dL_law_1257 (inb_of qg297) ?_
        refine r_aload_n dL_law_1258 1 rfl ?_
        refine r_iload dL_law_1259 0 rfl ?_
        refine r_iconst (v := 5) dL_law_1261 (by decide) ?_
        refine r_iadd dL_law_1262 ?_
        obtain ⟨qg298, h⟩ := grd_at h
        refine s_sld hsn hsq dL_law_1263 (inb_of qg298) ?_
        refine r_if_eq (t := 1271) dL_law_1264 (by decide) (fun qc299 => ?_) (fun qc299 => ?_)
        · replace h := ifp h qc299
          refine r_iconst (v := 0) dL_law_1271 (by decide) ?_
          obtain ⟨rq301, σ302, qg300, h⟩ := bd2_at h
          refine x_callV (Y := mX11_link) (d' := 4) dL_law_1272 ml_L_133 yv_X11_link (by omega) rfl rfl (by simp [Value.category]) (sR_is rfl rfl) (lc_X11_link qg300) ?_
          refine r_aload_n dL_law_1275 3 rfl ?_
          refine r_aload_n dL_law_1276 1 rfl ?_
          refine r_iload dL_law_1277 0 rfl ?_
          refine r_iconst (v := 1) dL_law_1279 (by decide) ?_
          refine r_iadd dL_law_1280 ?_
          obtain ⟨qg303, h⟩ := grd_at h
          refine s_sld hsn hsq dL_law_1281 (inb_of qg303) ?_
          refine r_aload_n dL_law_1282 1 rfl ?_
          refine r_iload dL_law_1283 0 rfl ?_
          refine r_iconst (v := 2) dL_law_1285 (by decide) ?_
          refine r_iadd dL_law_1286 ?_
          obtain ⟨qg304, h⟩ := grd_at h
          refine s_sld hsn hsq dL_law_1287 (inb_of qg304) ?_
          refine r_aload_n dL_law_1288 1 rfl ?_
          refine r_iload dL_law_1289 0 rfl ?_
          refine r_iconst (v := 3) dL_law_1291 (by decide) ?_
          refine r_iadd dL_law_1292 ?_
          obtain ⟨qg305, h⟩ := grd_at h
          refine s_sld hsn hsq dL_law_1293 (inb_of qg305) ?_
          refine r_aload_n dL_law_1294 1 rfl ?_
          refine r_iload dL_law_1295 0 rfl ?_
          refine r_iconst (v := 4) dL_law_1297 (by decide) ?_
          refine r_iadd dL_law_1298 ?_
          obtain ⟨qg306, h⟩ := grd_at h
          refine s_sld hsn hsq dL_law_1299 (inb_of qg306) ?_
          refine r_aload_n dL_law_1300 1 rfl ?_
          refine r_iload dL_law_1301 0 rfl ?_
          refine r_iconst (v := 5) dL_law_1303 (by decide) ?_
          refine r_iadd dL_law_1304 ?_
          obtain ⟨qg307, h⟩ := grd_at h
          refine s_sld hsn hsq dL_law_1305 (inb_of qg307) ?_
          refine r_if_eq (t := 1313) dL_law_1306 (by decide) (fun qc308 => ?_) (fun qc308 => ?_)
          · replace h := ifp h qc308
            refine r_iconst (v := 0) dL_law_1313 (by decide) ?_
            obtain ⟨rq310, σ311, qg309, h⟩ := bd2_at h
            refine x_callV (Y := mX12_link) (d' := 4) dL_law_1314 ml_L_137 yv_X12_link (by omega) rfl rfl (by simp [Value.category]) (sR_is rfl rfl) (lc_X12_link qg309) ?_
            refine r_icmp_eq (t := 1478) dL_law_1317 (by decide) (fun qc312 => ?_) (fun qc312 => ?_)
            · replace h := ifp h qc312
              refine r_iinc (v := x4 + 6) (lo' := [(4, .int (x4 + 6)), (0, .ref (ad 1200)), (1, .ref (ad 0)), (2, .ref (ad 90)), (3, .ref (ad 80))]) dL_law_1478 0 rfl rfl (by decide) rfl ?_
              refine r_goto (t := 23) dL_law_1481 (by decide) ?_
              exact ab_E.lo [0, 1, 2, 3, 4] rfl (ih _ _ h)
            · replace h := ifn h qc312
              refine r_iconst (v := 0) dL_law_1320 (by decide) ?_
              refine r_zret rfl (by decide) dL_law_1321 ?_
              exact lfI h
          · replace h := ifn h qc308
            refine r_iconst (v := 1) dL_law_1309 (by decide) ?_
            refine r_goto (t := 1314) dL_law_1310 (by decide) ?_
            obtain ⟨rq314, σ315, qg313, h⟩ := bd2_at h
            refine x_callV (Y := mX12_link) (d' := 4) dL_law_1314 ml_L_137 yv_X12_link (by omega) rfl rfl (by simp [Value.category]) (sR_is rfl rfl) (lc_X12_link qg313) ?_
            refine r_icmp_eq (t := 1478) dL_law_1317 (by decide) (fun qc316 => ?_) (fun qc316 => ?_)
            · replace h := ifp h qc316
              refine r_iinc (v := x4 + 6) (lo' := [(4, .int (x4 + 6)), (0, .ref (ad 1200)), (1, .ref (ad 0)), (2, .ref (ad 90)), (3, .ref (ad 80))]) dL_law_1478 0 rfl rfl (by decide) rfl ?_
              refine r_goto (t := 23) dL_law_1481 (by decide) ?_
              exact ab_E.lo [0, 1, 2, 3, 4] rfl (ih _ _ h)
            · replace h := ifn h qc316
              refine r_iconst (v := 0) dL_law_1320 (by decide) ?_
              refine r_zret rfl (by decide) dL_law_1321 ?_
              exact lfI h
        · replace h := ifn h qc299
          refine r_iconst (v := 1) dL_law_1267 (by decide) ?_
          refine r_goto (t := 1272) dL_law_1268 (by decide) ?_
          obtain ⟨rq318, σ319, qg317, h⟩ := bd2_at h
          refine x_callV (Y := mX11_link) (d' := 4) dL_law_1272 ml_L_133 yv_X11_link (by omega) rfl rfl (by simp [Value.category]) (sR_is rfl rfl) (lc_X11_link qg317) ?_
          refine r_aload_n dL_law_1275 3 rfl ?_
          refine r_aload_n dL_law_1276 1 rfl ?_
          refine r_iload dL_law_1277 0 rfl ?_
          refine r_iconst (v := 1) dL_law_1279 (by decide) ?_
          refine r_iadd dL_law_1280 ?_
          obtain ⟨qg320, h⟩ := grd_at h
          refine s_sld hsn hsq dL_law_1281 (inb_of qg320) ?_
          refine r_aload_n dL_law_1282 1 rfl ?_
          refine r_iload dL_law_1283 0 rfl ?_
          refine r_iconst (v := 2) dL_law_1285 (by decide) ?_
          refine r_iadd dL_law_1286 ?_
          obtain ⟨qg321, h⟩ := grd_at h
          refine s_sld hsn hsq dL_law_1287 (inb_of qg321) ?_
          refine r_aload_n dL_law_1288 1 rfl ?_
          refine r_iload dL_law_1289 0 rfl ?_
          refine r_iconst (v := 3) dL_law_1291 (by decide) ?_
          refine r_iadd dL_law_1292 ?_
          obtain ⟨qg322, h⟩ := grd_at h
          refine s_sld hsn hsq dL_law_1293 (inb_of qg322) ?_
          refine r_aload_n dL_law_1294 1 rfl ?_
          refine r_iload dL_law_1295 0 rfl ?_
          refine r_iconst (v := 4) dL_law_1297 (by decide) ?_
          refine r_iadd dL_law_1298 ?_
          obtain ⟨qg323, h⟩ := grd_at h
          refine s_sld hsn hsq dL_law_1299 (inb_of qg323) ?_
          refine r_aload_n dL_law_1300 1 rfl ?_
          refine r_iload dL_law_1301 0 rfl ?_
          refine r_iconst (v := 5) dL_law_1303 (by decide) ?_
          refine r_iadd dL_law_1304 ?_
          obtain ⟨qg324, h⟩ := grd_at h
          refine s_sld hsn hsq dL_law_1305 (inb_of qg324) ?_
          refine r_if_eq (t := 1313) dL_law_1306 (by decide) (fun qc325 => ?_) (fun qc325 => ?_)
          · replace h := ifp h qc325
            refine r_iconst (v := 0) dL_law_1313 (by decide) ?_
            obtain ⟨rq327, σ328, qg326, h⟩ := bd2_at h
            refine x_callV (Y := mX12_link) (d' := 4) dL_law_1314 ml_L_137 yv_X12_link (by omega) rfl rfl (by simp [Value.category]) (sR_is rfl rfl) (lc_X12_link qg326) ?_
            refine r_icmp_eq (t := 1478) dL_law_1317 (by decide) (fun qc329 => ?_) (fun qc329 => ?_)
            · replace h := ifp h qc329
              refine r_iinc (v := x4 + 6) (lo' := [(4, .int (x4 + 6)), (0, .ref (ad 1200)), (1, .ref (ad 0)), (2, .ref (ad 90)), (3, .ref (ad 80))]) dL_law_1478 0 rfl rfl (by decide) rfl ?_
              refine r_goto (t := 23) dL_law_1481 (by decide) ?_
              exact ab_E.lo [0, 1, 2, 3, 4] rfl (ih _ _ h)
            · replace h := ifn h qc329
              refine r_iconst (v := 0) dL_law_1320 (by decide) ?_
              refine r_zret rfl (by decide) dL_law_1321 ?_
              exact lfI h
          · replace h := ifn h qc325
            refine r_iconst (v := 1) dL_law_1309 (by decide) ?_
            refine r_goto (t := 1314) dL_law_1310 (by decide) ?_
            obtain ⟨rq331, σ332, qg330, h⟩ := bd2_at h
            refine x_callV (Y := mX12_link) (d' := 4) dL_law_1314 ml_L_137 yv_X12_link (by omega) rfl rfl (by simp [Value.category]) (sR_is rfl rfl) (lc_X12_link qg330) ?_
            refine r_icmp_eq (t := 1478) dL_law_1317 (by decide) (fun qc333 => ?_) (fun qc333 => ?_)
            · replace h := ifp h qc333
              refine r_iinc (v := x4 + 6) (lo' := [(4, .int (x4 + 6)), (0, .ref (ad 1200)), (1, .ref (ad 0)), (2, .ref (ad 90)), (3, .ref (ad 80))]) dL_law_1478 0 rfl rfl (by decide) rfl ?_
              refine r_goto (t := 23) dL_law_1481 (by decide) ?_
              exact ab_E.lo [0, 1, 2, 3, 4] rfl (ih _ _ h)
            · replace h := ifn h qc333
              refine r_iconst (v := 0) dL_law_1320 (by decide) ?_
              refine r_zret rfl (by decide) dL_law_1321 ?_
              exact lfI h
      replace h := ifn h qw3_26
      by_cases qw3_27 : yq4 = 27
      · replace h := ifp h qw3_27
        refine r_tableIn (t := 1322) (off := 1282) dL_law_40 (by rw [qw3_27]; decide) (by rw [qw3_27]; decide) (by rw [qw3_27]; rfl) (by decide) ?_
        refine r_aload_n dL_law_1322 2 rfl ?_
        refine r_aload_n dL_law_1323 1 rfl ?_
        refine r_iload dL_law_1324 0 rfl ?_
        refine r_iconst (v := 1) dL_law_1326 (by decide) ?_
        refine r_iadd dL_law_1327 ?_
        obtain ⟨qg334, h⟩ := grd_at h
        refine s_sld hsn hsq dL_law_1328 (inb_of qg334) ?_
        refine r_aload_n dL_law_1329 1 rfl ?_
        refine r_iload dL_law_1330 0 rfl ?_
        refine r_iconst (v := 2) dL_law_1332 (by decide) ?_
        refine r_iadd dL_law_1333 ?_
        obtain ⟨qg335, h⟩ := grd_at h
        refine s_sld hsn hsq dL_law_1334 (inb_of qg335) ?_
        refine r_aload_n dL_law_1335 1 rfl ?_
        refine r_iload dL_law_1336 0 rfl ?_
        refine r_iconst (v := 3) dL_law_1338 (by decide) ?_
        refine r_iadd dL_law_1339 ?_
        obtain ⟨qg336, h⟩ := grd_at h
        refine s_sld hsn hsq dL_law_1340 (inb_of qg336) ?_
        refine r_if_eq (t := 1348) dL_law_1341 (by decide) (fun qc337 => ?_) (fun qc337 => ?_)
        · replace h := ifp h qc337
          refine r_iconst (v := 0) dL_law_1348 (by decide) ?_
          obtain ⟨rq339, σ340, qg338, h⟩ := bd2_at h
          refine x_callV (Y := mX11_mark) (d' := 3) dL_law_1349 ml_L_138 yv_X11_mark (by omega) rfl rfl (by simp [Value.category]) (sR_is rfl rfl) (lc_X11_mark qg338) ?_
          refine r_aload_n dL_law_1352 3 rfl ?_
          refine r_aload_n dL_law_1353 1 rfl ?_
          refine r_iload dL_law_1354 0 rfl ?_
          refine r_iconst (v := 1) dL_law_1356 (by decide) ?_
          refine r_iadd dL_law_1357 ?_
          obtain ⟨qg341, h⟩ := grd_at h
          refine s_sld hsn hsq dL_law_1358 (inb_of qg341) ?_
          refine r_aload_n dL_law_1359 1 rfl ?_
          refine r_iload dL_law_1360 0 rfl ?_
          refine r_iconst (v := 2) dL_law_1362 (by decide) ?_
          refine r_iadd dL_law_1363 ?_
          obtain ⟨qg342, h⟩ := grd_at h
          refine s_sld hsn hsq dL_law_1364 (inb_of qg342) ?_
          refine r_aload_n dL_law_1365 1 rfl ?_
          refine r_iload dL_law_1366 0 rfl ?_
          refine r_iconst (v := 3) dL_law_1368 (by decide) ?_
          refine r_iadd dL_law_1369 ?_
          obtain ⟨qg343, h⟩ := grd_at h
          refine s_sld hsn hsq dL_law_1370 (inb_of qg343) ?_
          refine r_if_eq (t := 1378) dL_law_1371 (by decide) (fun qc344 => ?_) (fun qc344 => ?_)
          · replace h := ifp h qc344
            refine r_iconst (v := 0) dL_law_1378 (by decide) ?_
            obtain ⟨rq346, σ347, qg345, h⟩ := bd2_at h
            refine x_callV (Y := mX12_mark) (d' := 4) dL_law_1379 ml_L_142 yv_X12_mark (by omega) rfl rfl (by simp [Value.category]) (sR_is rfl rfl) (lc_X12_mark qg345) ?_
            refine r_icmp_eq (t := 1478) dL_law_1382 (by decide) (fun qc348 => ?_) (fun qc348 => ?_)
            · replace h := ifp h qc348
              refine r_iinc (v := x4 + 6) (lo' := [(4, .int (x4 + 6)), (0, .ref (ad 1200)), (1, .ref (ad 0)), (2, .ref (ad 90)), (3, .ref (ad 80))]) dL_law_1478 0 rfl rfl (by decide) rfl ?_
              refine r_goto (t := 23) dL_law_1481 (by decide) ?_
              exact ab_E.lo [0, 1, 2, 3, 4] rfl (ih _ _ h)
            · replace h := ifn h qc348
              refine r_iconst (v := 0) dL_law_1385 (by decide) ?_
              refine r_zret rfl (by decide) dL_law_1386 ?_
              exact lfI h
          · replace h := ifn h qc344
            refine r_iconst (v := 1) dL_law_1374 (by decide) ?_
            refine r_goto (t := 1379) dL_law_1375 (by decide) ?_
            obtain ⟨rq350, σ351, qg349, h⟩ := bd2_at h
            refine x_callV (Y := mX12_mark) (d' := 4) dL_law_1379 ml_L_142 yv_X12_mark (by omega) rfl rfl (by simp [Value.category]) (sR_is rfl rfl) (lc_X12_mark qg349) ?_
            refine r_icmp_eq (t := 1478) dL_law_1382 (by decide) (fun qc352 => ?_) (fun qc352 => ?_)
            · replace h := ifp h qc352
              refine r_iinc (v := x4 + 6) (lo' := [(4, .int (x4 + 6)), (0, .ref (ad 1200)), (1, .ref (ad 0)), (2, .ref (ad 90)), (3, .ref (ad 80))]) dL_law_1478 0 rfl rfl (by decide) rfl ?_
              refine r_goto (t := 23) dL_law_1481 (by decide) ?_
              exact ab_E.lo [0, 1, 2, 3, 4] rfl (ih _ _ h)
            · replace h := ifn h qc352
              refine r_iconst (v := 0) dL_law_1385 (by decide) ?_
              refine r_zret rfl (by decide) dL_law_1386 ?_
              exact lfI h
        · replace h := ifn h qc337
          refine r_iconst (v := 1) dL_law_1344 (by decide) ?_
          refine r_goto (t := 1349) dL_law_1345 (by decide) ?_
          obtain ⟨rq354, σ355, qg353, h⟩ := bd2_at h
          refine x_callV (Y := mX11_mark) (d' := 3) dL_law_1349 ml_L_138 yv_X11_mark (by omega) rfl rfl (by simp [Value.category]) (sR_is rfl rfl) (lc_X11_mark qg353) ?_
          refine r_aload_n dL_law_1352 3 rfl ?_
          refine r_aload_n dL_law_1353 1 rfl ?_
          refine r_iload dL_law_1354 0 rfl ?_
          refine r_iconst (v := 1) dL_law_1356 (by decide) ?_
          refine r_iadd dL_law_1357 ?_
          obtain ⟨qg356, h⟩ := grd_at h
          refine s_sld hsn hsq dL_law_1358 (inb_of qg356) ?_
          refine r_aload_n dL_law_1359 1 rfl ?_
          refine r_iload dL_law_1360 0 rfl ?_
          refine r_iconst (v := 2) dL_law_1362 (by decide) ?_
          refine r_iadd dL_law_1363 ?_
          obtain ⟨qg357, h⟩ := grd_at h
          refine s_sld hsn hsq dL_law_1364 (inb_of qg357) ?_
          refine r_aload_n dL_law_1365 1 rfl ?_
          refine r_iload dL_law_1366 0 rfl ?_
          refine r_iconst (v := 3) dL_law_1368 (by decide) ?_
          refine r_iadd dL_law_1369 ?_
          obtain ⟨qg358, h⟩ := grd_at h
          refine s_sld hsn hsq dL_law_1370 (inb_of qg358) ?_
          refine r_if_eq (t := 1378) dL_law_1371 (by decide) (fun qc359 => ?_) (fun qc359 => ?_)
          · replace h := ifp h qc359
            refine r_iconst (v := 0) dL_law_1378 (by decide) ?_
            obtain ⟨rq361, σ362, qg360, h⟩ := bd2_at h
            refine x_callV (Y := mX12_mark) (d' := 4) dL_law_1379 ml_L_142 yv_X12_mark (by omega) rfl rfl (by simp [Value.category]) (sR_is rfl rfl) (lc_X12_mark qg360) ?_
            refine r_icmp_eq (t := 1478) dL_law_1382 (by decide) (fun qc363 => ?_) (fun qc363 => ?_)
            · replace h := ifp h qc363
              refine r_iinc (v := x4 + 6) (lo' := [(4, .int (x4 + 6)), (0, .ref (ad 1200)), (1, .ref (ad 0)), (2, .ref (ad 90)), (3, .ref (ad 80))]) dL_law_1478 0 rfl rfl (by decide) rfl ?_
              refine r_goto (t := 23) dL_law_1481 (by decide) ?_
              exact ab_E.lo [0, 1, 2, 3, 4] rfl (ih _ _ h)
            · replace h := ifn h qc363
              refine r_iconst (v := 0) dL_law_1385 (by decide) ?_
              refine r_zret rfl (by decide) dL_law_1386 ?_
              exact lfI h
          · replace h := ifn h qc359
            refine r_iconst (v := 1) dL_law_1374 (by decide) ?_
            refine r_goto (t := 1379) dL_law_1375 (by decide) ?_
            obtain ⟨rq365, σ366, qg364, h⟩ := bd2_at h
            refine x_callV (Y := mX12_mark) (d' := 4) dL_law_1379 ml_L_142 yv_X12_mark (by omega) rfl rfl (by simp [Value.category]) (sR_is rfl rfl) (lc_X12_mark qg364) ?_
            refine r_icmp_eq (t := 1478) dL_law_1382 (by decide) (fun qc367 => ?_) (fun qc367 => ?_)
            · replace h := ifp h qc367
              refine r_iinc (v := x4 + 6) (lo' := [(4, .int (x4 + 6)), (0, .ref (ad 1200)), (1, .ref (ad 0)), (2, .ref (ad 90)), (3, .ref (ad 80))]) dL_law_1478 0 rfl rfl (by decide) rfl ?_
              refine r_goto (t := 23) dL_law_1481 (by decide) ?_
              exact ab_E.lo [0, 1, 2, 3, 4] rfl (ih _ _ h)
            · replace h := ifn h qc367
              refine r_iconst (v := 0) dL_law_1385 (by decide) ?_
              refine r_zret rfl (by decide) dL_law_1386 ?_
              exact lfI h
      replace h := ifn h qw3_27
      by_cases qw3_28 : yq4 = 28
      · replace h := ifp h qw3_28
        refine r_tableIn (t := 1387) (off := 1347) dL_law_40 (by rw [qw3_28]; decide) (by rw [qw3_28]; decide) (by rw [qw3_28]; rfl) (by decide) ?_
        refine r_aload_n dL_law_1387 2 rfl ?_
        refine r_aload_n dL_law_1388 1 rfl ?_
        refine r_iload dL_law_1389 0 rfl ?_
        refine r_iconst (v := 1) dL_law_1391 (by decide) ?_
        refine r_iadd dL_law_1392 ?_
        obtain ⟨qg368, h⟩ := grd_at h
        refine s_sld hsn hsq dL_law_1393 (inb_of qg368) ?_
        refine r_aload_n dL_law_1394 1 rfl ?_
        refine r_iload dL_law_1395 0 rfl ?_
        refine r_iconst (v := 2) dL_law_1397 (by decide) ?_
        refine r_iadd dL_law_1398 ?_
        obtain ⟨qg369, h⟩ := grd_at h
        refine s_sld hsn hsq dL_law_1399 (inb_of qg369) ?_
        refine r_aload_n dL_law_1400 1 rfl ?_
        refine r_iload dL_law_1401 0 rfl ?_
        refine r_iconst (v := 3) dL_law_1403 (by decide) ?_
        refine r_iadd dL_law_1404 ?_
        obtain ⟨qg370, h⟩ := grd_at h
        refine s_sld hsn hsq dL_law_1405 (inb_of qg370) ?_
        refine r_if_eq (t := 1413) dL_law_1406 (by decide) (fun qc371 => ?_) (fun qc371 => ?_)
        · replace h := ifp h qc371
          refine r_iconst (v := 0) dL_law_1413 (by decide) ?_
          obtain ⟨rq373, σ374, qg372, h⟩ := bd2_at h
          refine x_callV (Y := mX11_begin) (d' := 3) dL_law_1414 ml_L_143 yv_X11_begin (by omega) rfl rfl (by simp [Value.category]) (sR_is rfl rfl) (lc_X11_begin qg372) ?_
          refine r_aload_n dL_law_1417 3 rfl ?_
          refine r_aload_n dL_law_1418 1 rfl ?_
          refine r_iload dL_law_1419 0 rfl ?_
          refine r_iconst (v := 1) dL_law_1421 (by decide) ?_
          refine r_iadd dL_law_1422 ?_
          obtain ⟨qg375, h⟩ := grd_at h
          refine s_sld hsn hsq dL_law_1423 (inb_of qg375) ?_
          refine r_aload_n dL_law_1424 1 rfl ?_
          refine r_iload dL_law_1425 0 rfl ?_
          refine r_iconst (v := 2) dL_law_1427 (by decide) ?_
          refine r_iadd dL_law_1428 ?_
          obtain ⟨qg376, h⟩ := grd_at h
          refine s_sld hsn hsq dL_law_1429 (inb_of qg376) ?_
          refine r_aload_n dL_law_1430 1 rfl ?_
          refine r_iload dL_law_1431 0 rfl ?_
          refine r_iconst (v := 3) dL_law_1433 (by decide) ?_
          refine r_iadd dL_law_1434 ?_
          obtain ⟨qg377, h⟩ := grd_at h
          refine s_sld hsn hsq dL_law_1435 (inb_of qg377) ?_
          refine r_if_eq (t := 1443) dL_law_1436 (by decide) (fun qc378 => ?_) (fun qc378 => ?_)
          · replace h := ifp h qc378
            refine r_iconst (v := 0) dL_law_1443 (by decide) ?_
            obtain ⟨rq380, σ381, qg379, h⟩ := bd2_at h
            refine x_callV (Y := mX12_begin) (d' := 4) dL_law_1444 ml_L_146 yv_X12_begin (by omega) rfl rfl (by simp [Value.category]) (sR_is rfl rfl) (lc_X12_begin qg379) ?_
            refine r_icmp_eq (t := 1478) dL_law_1447 (by decide) (fun qc382 => ?_) (fun qc382 => ?_)
            · replace h := ifp h qc382
              refine r_iinc (v := x4 + 6) (lo' := [(4, .int (x4 + 6)), (0, .ref (ad 1200)), (1, .ref (ad 0)), (2, .ref (ad 90)), (3, .ref (ad 80))]) dL_law_1478 0 rfl rfl (by decide) rfl ?_
              refine r_goto (t := 23) dL_law_1481 (by decide) ?_
              exact ab_E.lo [0, 1, 2, 3, 4] rfl (ih _ _ h)
            · replace h := ifn h qc382
              refine r_iconst (v := 0) dL_law_1450 (by decide) ?_
              refine r_zret rfl (by decide) dL_law_1451 ?_
              exact lfI h
          · replace h := ifn h qc378
            refine r_iconst (v := 1) dL_law_1439 (by decide) ?_
            refine r_goto (t := 1444) dL_law_1440 (by decide) ?_
            obtain ⟨rq384, σ385, qg383, h⟩ := bd2_at h
            refine x_callV (Y := mX12_begin) (d' := 4) dL_law_1444 ml_L_146 yv_X12_begin (by omega) rfl rfl (by simp [Value.category]) (sR_is rfl rfl) (lc_X12_begin qg383) ?_
            refine r_icmp_eq (t := 1478) dL_law_1447 (by decide) (fun qc386 => ?_) (fun qc386 => ?_)
            · replace h := ifp h qc386
              refine r_iinc (v := x4 + 6) (lo' := [(4, .int (x4 + 6)), (0, .ref (ad 1200)), (1, .ref (ad 0)), (2, .ref (ad 90)), (3, .ref (ad 80))]) dL_law_1478 0 rfl rfl (by decide) rfl ?_
              refine r_goto (t := 23) dL_law_1481 (by decide) ?_
              exact ab_E.lo [0, 1, 2, 3, 4] rfl (ih _ _ h)
            · replace h := ifn h qc386
              refine r_iconst (v := 0) dL_law_1450 (by decide) ?_
              refine r_zret rfl (by decide) dL_law_1451 ?_
              exact lfI h
        · replace h := ifn h qc371
          refine r_iconst (v := 1) dL_law_1409 (by decide) ?_
          refine r_goto (t := 1414) dL_law_1410 (by decide) ?_
          obtain ⟨rq388, σ389, qg387, h⟩ := bd2_at h
          refine x_callV (Y := mX11_begin) (d' := 3) dL_law_1414 ml_L_143 yv_X11_begin (by omega) rfl rfl (by simp [Value.category]) (sR_is rfl rfl) (lc_X11_begin qg387) ?_
          refine r_aload_n dL_law_1417 3 rfl ?_
          refine r_aload_n dL_law_1418 1 rfl ?_
          refine r_iload dL_law_1419 0 rfl ?_
          refine r_iconst (v := 1) dL_law_1421 (by decide) ?_
          refine r_iadd dL_law_1422 ?_
          obtain ⟨qg390, h⟩ := grd_at h
          refine s_sld hsn hsq dL_law_1423 (inb_of qg390) ?_
          refine r_aload_n dL_law_1424 1 rfl ?_
          refine r_iload dL_law_1425 0 rfl ?_
          refine r_iconst (v := 2) dL_law_1427 (by decide) ?_
          refine r_iadd dL_law_1428 ?_
          obtain ⟨qg391, h⟩ := grd_at h
          refine s_sld hsn hsq dL_law_1429 (inb_of qg391) ?_
          refine r_aload_n dL_law_1430 1 rfl ?_
          refine r_iload dL_law_1431 0 rfl ?_
          refine r_iconst (v := 3) dL_law_1433 (by decide) ?_
          refine r_iadd dL_law_1434 ?_
          obtain ⟨qg392, h⟩ := grd_at h
          refine s_sld hsn hsq dL_law_1435 (inb_of qg392) ?_
          refine r_if_eq (t := 1443) dL_law_1436 (by decide) (fun qc393 => ?_) (fun qc393 => ?_)
          · replace h := ifp h qc393
            refine r_iconst (v := 0) dL_law_1443 (by decide) ?_
            obtain ⟨rq395, σ396, qg394, h⟩ := bd2_at h
            refine x_callV (Y := mX12_begin) (d' := 4) dL_law_1444 ml_L_146 yv_X12_begin (by omega) rfl rfl (by simp [Value.category]) (sR_is rfl rfl) (lc_X12_begin qg394) ?_
            refine r_icmp_eq (t := 1478) dL_law_1447 (by decide) (fun qc397 => ?_) (fun qc397 => ?_)
            · replace h := ifp h qc397
              refine r_iinc (v := x4 + 6) (lo' := [(4, .int (x4 + 6)), (0, .ref (ad 1200)), (1, .ref (ad 0)), (2, .ref (ad 90)), (3, .ref (ad 80))]) dL_law_1478 0 rfl rfl (by decide) rfl ?_
              refine r_goto (t := 23) dL_law_1481 (by decide) ?_
              exact ab_E.lo [0, 1, 2, 3, 4] rfl (ih _ _ h)
            · replace h := ifn h qc397
              refine r_iconst (v := 0) dL_law_1450 (by decide) ?_
              refine r_zret rfl (by decide) dL_law_1451 ?_
              exact lfI h
          · replace h := ifn h qc393
            refine r_iconst (v := 1) dL_law_1439 (by decide) ?_
            refine r_goto (t := 1444) dL_law_1440 (by decide) ?_
            obtain ⟨rq399, σ400, qg398, h⟩ := bd2_at h
            refine x_callV (Y := mX12_begin) (d' := 4) dL_law_1444 ml_L_146 yv_X12_begin (by omega) rfl rfl (by simp [Value.category]) (sR_is rfl rfl) (lc_X12_begin qg398) ?_
            refine r_icmp_eq (t := 1478) dL_law_1447 (by decide) (fun qc401 => ?_) (fun qc401 => ?_)
            · replace h := ifp h qc401
              refine r_iinc (v := x4 + 6) (lo' := [(4, .int (x4 + 6)), (0, .ref (ad 1200)), (1, .ref (ad 0)), (2, .ref (ad 90)), (3, .ref (ad 80))]) dL_law_1478 0 rfl rfl (by decide) rfl ?_
              refine r_goto (t := 23) dL_law_1481 (by decide) ?_
              exact ab_E.lo [0, 1, 2, 3, 4] rfl (ih _ _ h)
            · replace h := ifn h qc401
              refine r_iconst (v := 0) dL_law_1450 (by decide) ?_
              refine r_zret rfl (by decide) dL_law_1451 ?_
              exact lfI h
      replace h := ifn h qw3_28
      by_cases qw3_29 : yq4 = 29
      · replace h := ifp h qw3_29
        refine r_tableIn (t := 1452) (off := 1412) dL_law_40 (by rw [qw3_29]; decide) (by rw [qw3_29]; decide) (by rw [qw3_29]; rfl) (by decide) ?_
        refine r_aload_n dL_law_1452 2 rfl ?_
        refine x_callV (Y := mX11_size) (d' := 1) dL_law_1453 ml_L_147 yv_X11_size (by omega) rfl rfl (by simp [Value.category]) (sR_is rfl rfl) (lc_X11_size σ) ?_
        refine r_aload_n dL_law_1456 3 rfl ?_
        obtain ⟨rq403, σ404, qg402, h⟩ := bd2_at h
        refine x_callV (Y := mX12_size) (d' := 1) dL_law_1457 ml_L_150 yv_X12_size (by omega) rfl rfl (by simp [Value.category]) (sR_is rfl rfl) (lc_X12_size qg402) ?_
        refine r_icmp_eq (t := 1478) dL_law_1460 (by decide) (fun qc405 => ?_) (fun qc405 => ?_)
        · replace h := ifp h qc405
          refine r_iinc (v := x4 + 6) (lo' := [(4, .int (x4 + 6)), (0, .ref (ad 1200)), (1, .ref (ad 0)), (2, .ref (ad 90)), (3, .ref (ad 80))]) dL_law_1478 0 rfl rfl (by decide) rfl ?_
          refine r_goto (t := 23) dL_law_1481 (by decide) ?_
          exact ab_E.lo [0, 1, 2, 3, 4] rfl (ih _ _ h)
        · replace h := ifn h qc405
          refine r_iconst (v := 0) dL_law_1463 (by decide) ?_
          refine r_zret rfl (by decide) dL_law_1464 ?_
          exact lfI h
      replace h := ifn h qw3_29
      by_cases qw3_30 : yq4 = 30
      · replace h := ifp h qw3_30
        refine r_tableIn (t := 1465) (off := 1425) dL_law_40 (by rw [qw3_30]; decide) (by rw [qw3_30]; decide) (by rw [qw3_30]; rfl) (by decide) ?_
        refine r_aload_n dL_law_1465 2 rfl ?_
        refine x_callV (Y := mX11_trouble) (d' := 1) dL_law_1466 ml_L_151 yv_X11_trouble (by omega) rfl rfl (by simp [Value.category]) (sR_is rfl rfl) (lc_X11_trouble σ) ?_
        refine r_aload_n dL_law_1469 3 rfl ?_
        obtain ⟨rq407, σ408, qg406, h⟩ := bd2_at h
        refine x_callV (Y := mX12_trouble) (d' := 1) dL_law_1470 ml_L_154 yv_X12_trouble (by omega) rfl rfl (by simp [Value.category]) (sR_is rfl rfl) (lc_X12_trouble qg406) ?_
        refine r_icmp_eq (t := 1478) dL_law_1473 (by decide) (fun qc409 => ?_) (fun qc409 => ?_)
        · replace h := ifp h qc409
          refine r_iinc (v := x4 + 6) (lo' := [(4, .int (x4 + 6)), (0, .ref (ad 1200)), (1, .ref (ad 0)), (2, .ref (ad 90)), (3, .ref (ad 80))]) dL_law_1478 0 rfl rfl (by decide) rfl ?_
          refine r_goto (t := 23) dL_law_1481 (by decide) ?_
          exact ab_E.lo [0, 1, 2, 3, 4] rfl (ih _ _ h)
        · replace h := ifn h qc409
          refine r_iconst (v := 0) dL_law_1476 (by decide) ?_
          refine r_zret rfl (by decide) dL_law_1477 ?_
          exact lfI h
      replace h := ifn h qw3_30
      refine r_tableOut (t := 1478) dL_law_40 (tb_o31 qw3_0 qw3_1 qw3_2 qw3_3 qw3_4 qw3_5 qw3_6 qw3_7 qw3_8 qw3_9 qw3_10 qw3_11 qw3_12 qw3_13 qw3_14 qw3_15 qw3_16 qw3_17 qw3_18 qw3_19 qw3_20 qw3_21 qw3_22 qw3_23 qw3_24 qw3_25 qw3_26 qw3_27 qw3_28 qw3_29 qw3_30) (by decide) ?_
      refine r_iinc (v := x4 + 6) (lo' := [(4, .int (x4 + 6)), (0, .ref (ad 1200)), (1, .ref (ad 0)), (2, .ref (ad 90)), (3, .ref (ad 80))]) dL_law_1478 0 rfl rfl (by decide) rfl ?_
      refine r_goto (t := 23) dL_law_1481 (by decide) ?_
      exact ab_E.lo [0, 1, 2, 3, 4] rfl (ih _ _ h)
