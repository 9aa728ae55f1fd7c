/-! the reference, lifted, 8 -/
set_option maxRecDepth 8000 in
def L_X12_hasEdge_164 (σ : sS) (x1 : Int32) (x2 : Int32) : Option Int32 := grd (inb (x1 - x1 / 10 * 10) 10) (if x2 = (vI σ 140 (x1 - x1 / 10 * 10).toNatClampNeg) then (some ((0 : Int32))) else (some ((-1 : Int32))))
set_option maxRecDepth 8000 in
theorem l_X12_hasEdge_164 {ad : Nat → Nat} {σ : sS} {z : Int32} (x1 : Int32) (x2 : Int32) (h : L_X12_hasEdge_164 σ x1 x2 = some z) : ab_E (sR ad) mX12_hasEdge 2 164 [(1, .int x1), (2, .int x2), (0, .ref (ad 90))] [] σ (fun r9 σ9 => r9 = some (.int z) ∧ σ9 = σ) := by
  unfold L_X12_hasEdge_164 at h
  refine r_iload_n dX12_hasEdge_164 1 rfl ?_
  refine r_aload_n dX12_hasEdge_165 2 rfl ?_
  refine s_getR (b := 140) ok_X12 dX12_hasEdge_166 (k := 40) (by decide) fl_X12_70 rfl rfl rfl ?_
  refine r_iload_n dX12_hasEdge_169 0 rfl ?_
  refine r_bipush (v := 10) dX12_hasEdge_170 (by decide) ?_
  refine r_irem dX12_hasEdge_172 (by decide) ?_
  obtain ⟨qg20, h⟩ := grd_at h
  refine s_iald dX12_hasEdge_173 rfl (inb_of qg20) ?_
  refine r_icmp_ne (t := 181) dX12_hasEdge_174 (by decide) (fun qc21 => ?_) (fun qc21 => ?_)
  · replace h := ifn h qc21
    refine r_iconst (v := (-1)) dX12_hasEdge_181 (by decide) ?_
    refine r_iret rfl dX12_hasEdge_182 ?_
    exact lfP h
  · replace h := ifp h qc21
    refine r_iconst (v := 0) dX12_hasEdge_177 (by decide) ?_
    refine r_goto (t := 182) dX12_hasEdge_178 (by decide) ?_
    refine r_iret rfl dX12_hasEdge_182 ?_
    exact lfP h
set_option maxRecDepth 8000 in
def L_X12_hasEdge (x1 : Int32) (x2 : Int32) (x3 : Int32) (x4 : Int32) (σ : sS) : Option Int32 := bnd (vI σ 90 37) (fun yq2 => if yq2 = 0 then (if x4 = 0 then (bd (L_X12_edgesOf (vI σ 90 38) x2 x1 σ) (fun rq5 => some ((rq5 >>> (x3 &&& 31)) &&& 1))) else (some ((0 : Int32)))) else (if yq2 = 1 then (if x3 = 0 then (bd (L_X12_edgesFrom x1 x2 σ) (fun rq8 => if rq8 ≤ x4 then (some ((-1 : Int32))) else (some ((1 : Int32))))) else (some ((-1 : Int32)))) else (if yq2 = 2 then (grd (inb x1 1000) (bd (L_X12_edgesOf (vI σ 90 38) x2 (vI σ 143 x1.toNatClampNeg) σ) (fun rq12 => if ((rq12 >>> (x3 &&& 31)) &&& 1) = 1 then (grd (inb x1 1000) (bd (L_X12_edgesFrom (vI σ 144 x1.toNatClampNeg) x2 σ) (fun rq16 => if rq16 ≤ x4 then (some ((0 : Int32))) else (some ((1 : Int32)))))) else (some ((0 : Int32)))))) else (if yq2 = 3 then (grd (inb (x1 - x1 / 10 * 10) 10) (if x2 = (vI σ 140 (x1 - x1 / 10 * 10).toNatClampNeg) then (if x4 = 0 then (bd (L_X12_edgesOf (vI σ 90 38) x2 (x1 / 10) σ) (fun rq22 => some ((rq22 >>> (x3 &&& 31)) &&& 1))) else (L_X12_hasEdge_164 σ x1 x2)) else (L_X12_hasEdge_164 σ x1 x2))) else (grd (inb (x1 - x1 / 10 * 10) 10) (if x2 = (vI σ 140 (x1 - x1 / 10 * 10).toNatClampNeg) then (if x3 = 0 then (bd (L_X12_edgesFrom (x1 / 10) x2 σ) (fun rq27 => if rq27 ≤ x4 then (some ((-1 : Int32))) else (some ((1 : Int32))))) else (some ((-1 : Int32)))) else (some ((-1 : Int32)))))))))
set_option maxRecDepth 8000 in
theorem e_X12_hasEdge {ad : Nat → Nat} {x1 : Int32} {x2 : Int32} {x3 : Int32} {x4 : Int32} {σ : sS} {z : Int32} (h : L_X12_hasEdge x1 x2 x3 x4 σ = some z) : ab_E (sR ad) mX12_hasEdge 2 0 [(0, .ref (ad 90)), (1, .int x1), (2, .int x2), (3, .int x3), (4, .int x4)] [] σ (fun r9 σ9 => r9 = some (.int z) ∧ σ9 = σ) := by
  unfold L_X12_hasEdge at h
  refine r_aload_n dX12_hasEdge_0 0 rfl ?_
  refine s_getI ok_X12 dX12_hasEdge_1 (k := 37) (by decide) fl_X12_393 rfl rfl ?_
  refine r_topi (fun yq2 eyq2 => ?_)
  replace h := bnd_at h eyq2
  by_cases qw1_0 : yq2 = 0
  · replace h := ifp h qw1_0
    refine r_tableIn (t := 36) (off := 32) dX12_hasEdge_4 (by rw [qw1_0]; decide) (by rw [qw1_0]; decide) (by rw [qw1_0]; rfl) (by decide) ?_
    refine r_iload dX12_hasEdge_36 4 rfl ?_
    refine r_if_ne (t := 58) dX12_hasEdge_38 (by decide) (fun qc3 => ?_) (fun qc3 => ?_)
    · replace h := ifn h qc3
      refine r_iconst (v := 0) dX12_hasEdge_58 (by decide) ?_
      refine r_iret rfl dX12_hasEdge_59 ?_
      exact lfP h
    · replace h := ifp h qc3
      refine r_aload_n dX12_hasEdge_41 0 rfl ?_
      refine r_aload_n dX12_hasEdge_42 0 rfl ?_
      refine s_getI ok_X12 dX12_hasEdge_43 (k := 38) (by decide) fl_X12_396 rfl rfl ?_
      refine r_iload_n dX12_hasEdge_46 2 rfl ?_
      refine r_iload_n dX12_hasEdge_47 1 rfl ?_
      obtain ⟨rq5, qg4, h⟩ := bd_at h
      refine x_callV (Y := mX12_edgesOf) (d' := 1) dX12_hasEdge_48 ml_X12_309 yv_X12_edgesOf (by omega) rfl rfl (by simp [Value.category]) (sR_is rfl rfl) (lc_X12_edgesOf qg4) ?_
      refine r_iload_n dX12_hasEdge_51 3 rfl ?_
      refine r_ishr dX12_hasEdge_52 ?_
      refine r_iconst (v := 1) dX12_hasEdge_53 (by decide) ?_
      refine r_iand dX12_hasEdge_54 ?_
      refine r_goto (t := 59) dX12_hasEdge_55 (by decide) ?_
      refine r_iret rfl dX12_hasEdge_59 ?_
      exact lfP h
  replace h := ifn h qw1_0
  by_cases qw1_1 : yq2 = 1
  · replace h := ifp h qw1_1
    refine r_tableIn (t := 60) (off := 56) dX12_hasEdge_4 (by rw [qw1_1]; decide) (by rw [qw1_1]; decide) (by rw [qw1_1]; rfl) (by decide) ?_
    refine r_iload_n dX12_hasEdge_60 3 rfl ?_
    refine r_if_ne (t := 79) dX12_hasEdge_61 (by decide) (fun qc6 => ?_) (fun qc6 => ?_)
    · replace h := ifn h qc6
      refine r_iconst (v := (-1)) dX12_hasEdge_79 (by decide) ?_
      refine r_iret rfl dX12_hasEdge_80 ?_
      exact lfP h
    · replace h := ifp h qc6
      refine r_iload dX12_hasEdge_64 4 rfl ?_
      refine r_aload_n dX12_hasEdge_66 0 rfl ?_
      refine r_iload_n dX12_hasEdge_67 1 rfl ?_
      refine r_iload_n dX12_hasEdge_68 2 rfl ?_
      obtain ⟨rq8, qg7, h⟩ := bd_at h
      refine x_callV (Y := mX12_edgesFrom) (d' := 1) dX12_hasEdge_69 ml_X12_387 yv_X12_edgesFrom (by omega) rfl rfl (by simp [Value.category]) (sR_is rfl rfl) (lc_X12_edgesFrom qg7) ?_
      refine r_icmp_ge (t := 79) dX12_hasEdge_72 (by decide) (fun qc9 => ?_) (fun qc9 => ?_)
      · replace h := ifp h qc9
        refine r_iconst (v := (-1)) dX12_hasEdge_79 (by decide) ?_
        refine r_iret rfl dX12_hasEdge_80 ?_
        exact lfP h
      · replace h := ifn h qc9
        refine r_iconst (v := 1) dX12_hasEdge_75 (by decide) ?_
        refine r_goto (t := 80) dX12_hasEdge_76 (by decide) ?_
        refine r_iret rfl dX12_hasEdge_80 ?_
        exact lfP h
  replace h := ifn h qw1_1
  by_cases qw1_2 : yq2 = 2
  · replace h := ifp h qw1_2
    refine r_tableIn (t := 81) (off := 77) dX12_hasEdge_4 (by rw [qw1_2]; decide) (by rw [qw1_2]; decide) (by rw [qw1_2]; rfl) (by decide) ?_
    refine r_aload_n dX12_hasEdge_81 0 rfl ?_
    refine r_aload_n dX12_hasEdge_82 0 rfl ?_
    refine s_getI ok_X12 dX12_hasEdge_83 (k := 38) (by decide) fl_X12_396 rfl rfl ?_
    refine r_iload_n dX12_hasEdge_86 2 rfl ?_
    refine r_aload_n dX12_hasEdge_87 0 rfl ?_
    refine s_getR (b := 143) ok_X12 dX12_hasEdge_88 (k := 43) (by decide) fl_X12_73 rfl rfl rfl ?_
    refine r_iload_n dX12_hasEdge_91 1 rfl ?_
    obtain ⟨qg10, h⟩ := grd_at h
    refine s_iald dX12_hasEdge_92 rfl (inb_of qg10) ?_
    obtain ⟨rq12, qg11, h⟩ := bd_at h
    refine x_callV (Y := mX12_edgesOf) (d' := 1) dX12_hasEdge_93 ml_X12_309 yv_X12_edgesOf (by omega) rfl rfl (by simp [Value.category]) (sR_is rfl rfl) (lc_X12_edgesOf qg11) ?_
    refine r_iload_n dX12_hasEdge_96 3 rfl ?_
    refine r_ishr dX12_hasEdge_97 ?_
    refine r_iconst (v := 1) dX12_hasEdge_98 (by decide) ?_
    refine r_iand dX12_hasEdge_99 ?_
    refine r_iconst (v := 1) dX12_hasEdge_100 (by decide) ?_
    refine r_icmp_ne (t := 124) dX12_hasEdge_101 (by decide) (fun qc13 => ?_) (fun qc13 => ?_)
    · replace h := ifn h qc13
      refine r_iconst (v := 0) dX12_hasEdge_124 (by decide) ?_
      refine r_iret rfl dX12_hasEdge_125 ?_
      exact lfP h
    · replace h := ifp h qc13
      refine r_iload dX12_hasEdge_104 4 rfl ?_
      refine r_aload_n dX12_hasEdge_106 0 rfl ?_
      refine r_aload_n dX12_hasEdge_107 0 rfl ?_
      refine s_getR (b := 144) ok_X12 dX12_hasEdge_108 (k := 44) (by decide) fl_X12_76 rfl rfl rfl ?_
      refine r_iload_n dX12_hasEdge_111 1 rfl ?_
      obtain ⟨qg14, h⟩ := grd_at h
      refine s_iald dX12_hasEdge_112 rfl (inb_of qg14) ?_
      refine r_iload_n dX12_hasEdge_113 2 rfl ?_
      obtain ⟨rq16, qg15, h⟩ := bd_at h
      refine x_callV (Y := mX12_edgesFrom) (d' := 1) dX12_hasEdge_114 ml_X12_387 yv_X12_edgesFrom (by omega) rfl rfl (by simp [Value.category]) (sR_is rfl rfl) (lc_X12_edgesFrom qg15) ?_
      refine r_icmp_ge (t := 124) dX12_hasEdge_117 (by decide) (fun qc17 => ?_) (fun qc17 => ?_)
      · replace h := ifp h qc17
        refine r_iconst (v := 0) dX12_hasEdge_124 (by decide) ?_
        refine r_iret rfl dX12_hasEdge_125 ?_
        exact lfP h
      · replace h := ifn h qc17
        refine r_iconst (v := 1) dX12_hasEdge_120 (by decide) ?_
        refine r_goto (t := 125) dX12_hasEdge_121 (by decide) ?_
        refine r_iret rfl dX12_hasEdge_125 ?_
        exact lfP h
  replace h := ifn h qw1_2
  by_cases qw1_3 : yq2 = 3
  · replace h := ifp h qw1_3
    refine r_tableIn (t := 126) (off := 122) dX12_hasEdge_4 (by rw [qw1_3]; decide) (by rw [qw1_3]; decide) (by rw [qw1_3]; rfl) (by decide) ?_
    refine r_iload_n dX12_hasEdge_126 2 rfl ?_
    refine r_aload_n dX12_hasEdge_127 0 rfl ?_
    refine s_getR (b := 140) ok_X12 dX12_hasEdge_128 (k := 40) (by decide) fl_X12_70 rfl rfl rfl ?_
    refine r_iload_n dX12_hasEdge_131 1 rfl ?_
    refine r_bipush (v := 10) dX12_hasEdge_132 (by decide) ?_
    refine r_irem dX12_hasEdge_134 (by decide) ?_
    obtain ⟨qg18, h⟩ := grd_at h
    refine s_iald dX12_hasEdge_135 rfl (inb_of qg18) ?_
    refine r_icmp_ne (t := 164) dX12_hasEdge_136 (by decide) (fun qc19 => ?_) (fun qc19 => ?_)
    · replace h := ifn h qc19
      exact ab_E.lo [1, 2, 0] rfl (l_X12_hasEdge_164 _ _ h)
    · replace h := ifp h qc19
      refine r_iload dX12_hasEdge_139 4 rfl ?_
      refine r_if_ne (t := 164) dX12_hasEdge_141 (by decide) (fun qc20 => ?_) (fun qc20 => ?_)
      · replace h := ifn h qc20
        exact ab_E.lo [1, 2, 0] rfl (l_X12_hasEdge_164 _ _ h)
      · replace h := ifp h qc20
        refine r_aload_n dX12_hasEdge_144 0 rfl ?_
        refine r_aload_n dX12_hasEdge_145 0 rfl ?_
        refine s_getI ok_X12 dX12_hasEdge_146 (k := 38) (by decide) fl_X12_396 rfl rfl ?_
        refine r_iload_n dX12_hasEdge_149 2 rfl ?_
        refine r_iload_n dX12_hasEdge_150 1 rfl ?_
        refine r_bipush (v := 10) dX12_hasEdge_151 (by decide) ?_
        refine r_idiv dX12_hasEdge_153 (by decide) ?_
        obtain ⟨rq22, qg21, h⟩ := bd_at h
        refine x_callV (Y := mX12_edgesOf) (d' := 1) dX12_hasEdge_154 ml_X12_309 yv_X12_edgesOf (by omega) rfl rfl (by simp [Value.category]) (sR_is rfl rfl) (lc_X12_edgesOf qg21) ?_
        refine r_iload_n dX12_hasEdge_157 3 rfl ?_
        refine r_ishr dX12_hasEdge_158 ?_
        refine r_iconst (v := 1) dX12_hasEdge_159 (by decide) ?_
        refine r_iand dX12_hasEdge_160 ?_
        refine r_goto (t := 182) dX12_hasEdge_161 (by decide) ?_
        refine r_iret rfl dX12_hasEdge_182 ?_
        exact lfP h
  replace h := ifn h qw1_3
  refine r_tableOut (t := 183) dX12_hasEdge_4 (tb_o4 qw1_0 qw1_1 qw1_2 qw1_3) (by decide) ?_
  refine r_iload_n dX12_hasEdge_183 2 rfl ?_
  refine r_aload_n dX12_hasEdge_184 0 rfl ?_
  refine s_getR (b := 140) ok_X12 dX12_hasEdge_185 (k := 40) (by decide) fl_X12_70 rfl rfl rfl ?_
  refine r_iload_n dX12_hasEdge_188 1 rfl ?_
  refine r_bipush (v := 10) dX12_hasEdge_189 (by decide) ?_
  refine r_irem dX12_hasEdge_191 (by decide) ?_
  obtain ⟨qg23, h⟩ := grd_at h
  refine s_iald dX12_hasEdge_192 rfl (inb_of qg23) ?_
  refine r_icmp_ne (t := 218) dX12_hasEdge_193 (by decide) (fun qc24 => ?_) (fun qc24 => ?_)
  · replace h := ifn h qc24
    refine r_iconst (v := (-1)) dX12_hasEdge_218 (by decide) ?_
    refine r_iret rfl dX12_hasEdge_219 ?_
    exact lfP h
  · replace h := ifp h qc24
    refine r_iload_n dX12_hasEdge_196 3 rfl ?_
    refine r_if_ne (t := 218) dX12_hasEdge_197 (by decide) (fun qc25 => ?_) (fun qc25 => ?_)
    · replace h := ifn h qc25
      refine r_iconst (v := (-1)) dX12_hasEdge_218 (by decide) ?_
      refine r_iret rfl dX12_hasEdge_219 ?_
      exact lfP h
    · replace h := ifp h qc25
      refine r_iload dX12_hasEdge_200 4 rfl ?_
      refine r_aload_n dX12_hasEdge_202 0 rfl ?_
      refine r_iload_n dX12_hasEdge_203 1 rfl ?_
      refine r_bipush (v := 10) dX12_hasEdge_204 (by decide) ?_
      refine r_idiv dX12_hasEdge_206 (by decide) ?_
      refine r_iload_n dX12_hasEdge_207 2 rfl ?_
      obtain ⟨rq27, qg26, h⟩ := bd_at h
      refine x_callV (Y := mX12_edgesFrom) (d' := 1) dX12_hasEdge_208 ml_X12_387 yv_X12_edgesFrom (by omega) rfl rfl (by simp [Value.category]) (sR_is rfl rfl) (lc_X12_edgesFrom qg26) ?_
      refine r_icmp_ge (t := 218) dX12_hasEdge_211 (by decide) (fun qc28 => ?_) (fun qc28 => ?_)
      · replace h := ifp h qc28
        refine r_iconst (v := (-1)) dX12_hasEdge_218 (by decide) ?_
        refine r_iret rfl dX12_hasEdge_219 ?_
        exact lfP h
      · replace h := ifn h qc28
        refine r_iconst (v := 1) dX12_hasEdge_214 (by decide) ?_
        refine r_goto (t := 219) dX12_hasEdge_215 (by decide) ?_
        refine r_iret rfl dX12_hasEdge_219 ?_
        exact lfP h
set_option maxRecDepth 8000 in
theorem lc_X12_hasEdge {ad : Nat → Nat} {x1 : Int32} {x2 : Int32} {x3 : Int32} {x4 : Int32} {σ : sS} {r : Int32} (h : L_X12_hasEdge x1 x2 x3 x4 σ = some r) : ab_X (sR ad) 2 mX12_hasEdge [.ref (ad 90), .int x1, .int x2, .int x3, .int x4] σ (some (.int r)) σ := ab_X.of (by decide) (Nat.le_of_ble_eq_true rfl) (e_X12_hasEdge h)
set_option maxRecDepth 8000 in
def L_X12_edgeFrom_7 (F : Nat) (x1 : Int32) (x4 : Int32) (σ : sS) (kx : Option Int32) : Nat → Int32 → Option Int32
  | 0, _ => none
  | n + 1, x3 => if x4 ≤ x3 then (kx) else (bnd (x3 / 2048) (fun yq2 => bnd ((x3 - x3 / 2048 * 2048) / 512) (fun yq3 => bnd (x3 - x3 / 512 * 512) (fun yq4 => if yq2 < (vI σ 90 19) then (bd (L_X12_hasEdge x1 yq2 yq3 yq4 σ) (fun rq7 => if rq7 = 1 then (some x3) else (if rq7 = 0 then (bnd ((x3 - yq4) + 512) (fun yq11 => L_X12_edgeFrom_7 F x1 x4 σ kx n yq11)) else (bnd ((x3 - (x3 - x3 / 2048 * 2048)) + 2048) (fun yq10 => L_X12_edgeFrom_7 F x1 x4 σ kx n yq10))))) else (some ((-1 : Int32)))))))
set_option maxRecDepth 8000 in
theorem l_X12_edgeFrom_7 {ad : Nat → Nat} {F : Nat} {x1 : Int32} {x4 : Int32} {σ : sS} {z : Int32} {kx : Option Int32} (hx : kx  = some z → ab_E (sR ad) mX12_edgeFrom 3 101 [] [] σ (fun r9 σ9 => r9 = some (.int z) ∧ σ9 = σ)) : ∀ (n : Nat) (x3 : Int32), L_X12_edgeFrom_7 F x1 x4 σ kx n x3 = some z → ab_E (sR ad) mX12_edgeFrom 3 7 [(3, .int x3), (1, .int x1), (4, .int x4), (0, .ref (ad 90))] [] σ (fun r9 σ9 => r9 = some (.int z) ∧ σ9 = σ) := by
  intro n
  induction n with
  | zero =>
    intro x3 h
    rw [L_X12_edgeFrom_7] at h
    cases h
  | succ n ih =>
    intro x3 h
    rw [L_X12_edgeFrom_7] at h
    refine r_iload_n dX12_edgeFrom_7 0 rfl ?_
    refine r_iload dX12_edgeFrom_8 2 rfl ?_
    refine r_icmp_ge (t := 101) dX12_edgeFrom_10 (by decide) (fun qc1 => ?_) (fun qc1 => ?_)
    · replace h := ifp h qc1
      exact ab_E.lo [] rfl (hx  h)
    · replace h := ifn h qc1
      refine r_iload_n dX12_edgeFrom_13 0 rfl ?_
      refine r_sipush (v := 2048) dX12_edgeFrom_14 (by decide) ?_
      refine r_idiv dX12_edgeFrom_17 (by decide) ?_
      refine r_topi (fun yq2 eyq2 => ?_)
      replace h := bnd_at h eyq2
      refine r_istore (lo' := [(5, .int yq2), (3, .int x3), (1, .int x1), (4, .int x4), (0, .ref (ad 90))]) dX12_edgeFrom_18 (by decide) rfl ?_
      refine r_iload_n dX12_edgeFrom_20 1 rfl ?_
      refine r_sipush (v := 2048) dX12_edgeFrom_21 (by decide) ?_
      refine r_irem dX12_edgeFrom_24 (by decide) ?_
      refine r_sipush (v := 512) dX12_edgeFrom_25 (by decide) ?_
      refine r_idiv dX12_edgeFrom_28 (by decide) ?_
      refine r_topi (fun yq3 eyq3 => ?_)
      replace h := bnd_at h eyq3
      refine r_istore (lo' := [(6, .int yq3), (5, .int yq2), (3, .int x3), (1, .int x1), (4, .int x4), (0, .ref (ad 90))]) dX12_edgeFrom_29 (by decide) rfl ?_
      refine r_iload_n dX12_edgeFrom_31 2 rfl ?_
      refine r_sipush (v := 512) dX12_edgeFrom_32 (by decide) ?_
      refine r_irem dX12_edgeFrom_35 (by decide) ?_
      refine r_topi (fun yq4 eyq4 => ?_)
      replace h := bnd_at h eyq4
      refine r_istore (lo' := [(7, .int yq4), (6, .int yq3), (5, .int yq2), (3, .int x3), (1, .int x1), (4, .int x4), (0, .ref (ad 90))]) dX12_edgeFrom_36 (by decide) rfl ?_
      refine r_iload dX12_edgeFrom_38 2 rfl ?_
      refine r_aload_n dX12_edgeFrom_40 6 rfl ?_
      refine s_getI ok_X12 dX12_edgeFrom_41 (k := 19) (by decide) fl_X12_283 rfl rfl ?_
      refine r_icmp_lt (t := 49) dX12_edgeFrom_44 (by decide) (fun qc5 => ?_) (fun qc5 => ?_)
      · replace h := ifp h qc5
        refine r_aload_n dX12_edgeFrom_49 6 rfl ?_
        refine r_iload_n dX12_edgeFrom_50 4 rfl ?_
        refine r_iload dX12_edgeFrom_51 2 rfl ?_
        refine r_iload dX12_edgeFrom_53 1 rfl ?_
        refine r_iload dX12_edgeFrom_55 0 rfl ?_
        obtain ⟨rq7, qg6, h⟩ := bd_at h
        refine x_callV (Y := mX12_hasEdge) (d' := 2) dX12_edgeFrom_57 ml_X12_390 yv_X12_hasEdge (by omega) rfl rfl (by simp [Value.category]) (sR_is rfl rfl) (lc_X12_hasEdge qg6) ?_
        refine r_istore (lo' := [(8, .int rq7), (7, .int yq4), (6, .int yq3), (5, .int yq2), (3, .int x3), (1, .int x1), (4, .int x4), (0, .ref (ad 90))]) dX12_edgeFrom_60 (by decide) rfl ?_
        refine r_iload dX12_edgeFrom_62 0 rfl ?_
        refine r_iconst (v := 1) dX12_edgeFrom_64 (by decide) ?_
        refine r_icmp_ne (t := 70) dX12_edgeFrom_65 (by decide) (fun qc8 => ?_) (fun qc8 => ?_)
        · replace h := ifn h qc8
          refine r_iload dX12_edgeFrom_70 0 rfl ?_
          refine r_if_ne (t := 86) dX12_edgeFrom_72 (by decide) (fun qc9 => ?_) (fun qc9 => ?_)
          · replace h := ifn h qc9
            refine r_iload_n dX12_edgeFrom_86 4 rfl ?_
            refine r_iload_n dX12_edgeFrom_87 4 rfl ?_
            refine r_sipush (v := 2048) dX12_edgeFrom_88 (by decide) ?_
            refine r_irem dX12_edgeFrom_91 (by decide) ?_
            refine r_isub dX12_edgeFrom_92 ?_
            refine r_sipush (v := 2048) dX12_edgeFrom_93 (by decide) ?_
            refine r_iadd dX12_edgeFrom_96 ?_
            refine r_topi (fun yq10 eyq10 => ?_)
            replace h := bnd_at h eyq10
            refine r_istore_n (lo' := [(3, .int yq10), (8, .int rq7), (7, .int yq4), (6, .int yq3), (5, .int yq2), (1, .int x1), (4, .int x4), (0, .ref (ad 90))]) dX12_edgeFrom_97 (by decide) rfl ?_
            refine r_goto (t := 7) dX12_edgeFrom_98 (by decide) ?_
            exact ab_E.lo [0, 5, 6, 7] rfl (ih _ h)
          · replace h := ifp h qc9
            refine r_iload_n dX12_edgeFrom_75 4 rfl ?_
            refine r_iload dX12_edgeFrom_76 1 rfl ?_
            refine r_isub dX12_edgeFrom_78 ?_
            refine r_sipush (v := 512) dX12_edgeFrom_79 (by decide) ?_
            refine r_iadd dX12_edgeFrom_82 ?_
            refine r_goto (t := 97) dX12_edgeFrom_83 (by decide) ?_
            refine r_topi (fun yq11 eyq11 => ?_)
            replace h := bnd_at h eyq11
            refine r_istore_n (lo' := [(3, .int yq11), (8, .int rq7), (7, .int yq4), (6, .int yq3), (5, .int yq2), (1, .int x1), (4, .int x4), (0, .ref (ad 90))]) dX12_edgeFrom_97 (by decide) rfl ?_
            refine r_goto (t := 7) dX12_edgeFrom_98 (by decide) ?_
            exact ab_E.lo [0, 5, 6, 7] rfl (ih _ h)
        · replace h := ifp h qc8
          refine r_iload_n dX12_edgeFrom_68 4 rfl ?_
          refine r_iret rfl dX12_edgeFrom_69 ?_
          exact lfP h
      · replace h := ifn h qc5
        refine r_iconst (v := (-1)) dX12_edgeFrom_47 (by decide) ?_
        refine r_iret rfl dX12_edgeFrom_48 ?_
        exact lfP h
set_option maxRecDepth 8000 in
def L_X12_edgeFrom (F : Nat) (x1 : Int32) (x2 : Int32) (σ : sS) : Option Int32 := L_X12_edgeFrom_7 F x1 6144 σ (some ((-1 : Int32))) F x2
set_option maxRecDepth 8000 in
theorem e_X12_edgeFrom {ad : Nat → Nat} {F : Nat} {x1 : Int32} {x2 : Int32} {σ : sS} {z : Int32} (h : L_X12_edgeFrom F x1 x2 σ = some z) : ab_E (sR ad) mX12_edgeFrom 3 0 [(0, .ref (ad 90)), (1, .int x1), (2, .int x2)] [] σ (fun r9 σ9 => r9 = some (.int z) ∧ σ9 = σ) := by
  unfold L_X12_edgeFrom at h
  refine r_iload_n dX12_edgeFrom_0 2 rfl ?_
  refine r_istore_n (lo' := [(3, .int x2), (0, .ref (ad 90)), (1, .int x1), (2, .int x2)]) dX12_edgeFrom_1 (by decide) rfl ?_
  refine r_sipush (v := 6144) dX12_edgeFrom_2 (by decide) ?_
  refine r_istore (lo' := [(4, .int 6144), (3, .int x2), (0, .ref (ad 90)), (1, .int x1), (2, .int x2)]) dX12_edgeFrom_5 (by decide) rfl ?_
  refine ab_E.lo [1, 3, 0, 2] rfl (l_X12_edgeFrom_7 (fun h => ?_) _ _ h)
  refine r_iconst (v := (-1)) dX12_edgeFrom_101 (by decide) ?_
  refine r_iret rfl dX12_edgeFrom_102 ?_
  exact lfP h
set_option maxRecDepth 8000 in
theorem lc_X12_edgeFrom {ad : Nat → Nat} {F : Nat} {x1 : Int32} {x2 : Int32} {σ : sS} {r : Int32} (h : L_X12_edgeFrom F x1 x2 σ = some r) : ab_X (sR ad) 3 mX12_edgeFrom [.ref (ad 90), .int x1, .int x2] σ (some (.int r)) σ := ab_X.of (by decide) (Nat.le_of_ble_eq_true rfl) (e_X12_edgeFrom h)
set_option maxRecDepth 8000 in
def L_X12_edgeAt (x1 : Int32) (x2 : Int32) (x3 : Int32) (σ : sS) : Option Int32 := grd (inb (((3 : Int32) * x1) + x2) 901) (grd (inb ((vI σ 130 (((3 : Int32) * x1) + x2).toNatClampNeg) + x3) 270300) (some (vI σ 131 ((vI σ 130 (((3 : Int32) * x1) + x2).toNatClampNeg) + x3).toNatClampNeg)))
set_option maxRecDepth 8000 in
theorem e_X12_edgeAt {ad : Nat → Nat} {x1 : Int32} {x2 : Int32} {x3 : Int32} {σ : sS} {z : Int32} (h : L_X12_edgeAt x1 x2 x3 σ = some z) : ab_E (sR ad) mX12_edgeAt 1 0 [(0, .ref (ad 90)), (1, .int x1), (2, .int x2), (3, .int x3)] [] σ (fun r9 σ9 => r9 = some (.int z) ∧ σ9 = σ) := by
  unfold L_X12_edgeAt at h
  refine r_aload_n dX12_edgeAt_0 0 rfl ?_
  refine s_getR (b := 131) ok_X12 dX12_edgeAt_1 (k := 31) (by decide) fl_X12_58 rfl rfl rfl ?_
  refine r_aload_n dX12_edgeAt_4 0 rfl ?_
  refine s_getR (b := 130) ok_X12 dX12_edgeAt_5 (k := 30) (by decide) fl_X12_54 rfl rfl rfl ?_
  refine r_iconst (v := 3) dX12_edgeAt_8 (by decide) ?_
  refine r_iload_n dX12_edgeAt_9 1 rfl ?_
  refine r_imul dX12_edgeAt_10 ?_
  refine r_iload_n dX12_edgeAt_11 2 rfl ?_
  refine r_iadd dX12_edgeAt_12 ?_
  obtain ⟨qg1, h⟩ := grd_at h
  refine s_iald dX12_edgeAt_13 rfl (inb_of qg1) ?_
  refine r_iload_n dX12_edgeAt_14 3 rfl ?_
  refine r_iadd dX12_edgeAt_15 ?_
  obtain ⟨qg2, h⟩ := grd_at h
  refine s_iald dX12_edgeAt_16 rfl (inb_of qg2) ?_
  refine r_iret rfl dX12_edgeAt_17 ?_
  exact lfP h
set_option maxRecDepth 8000 in
theorem lc_X12_edgeAt {ad : Nat → Nat} {x1 : Int32} {x2 : Int32} {x3 : Int32} {σ : sS} {r : Int32} (h : L_X12_edgeAt x1 x2 x3 σ = some r) : ab_X (sR ad) 1 mX12_edgeAt [.ref (ad 90), .int x1, .int x2, .int x3] σ (some (.int r)) σ := ab_X.of (by decide) (Nat.le_of_ble_eq_true rfl) (e_X12_edgeAt h)
set_option maxRecDepth 8000 in
def L_X12_three (x1 : Int32) (x2 : Int32) (x3 : Int32) (σ : sS) : Option (Int32 × sS) := bnd ((((x1 * 300) + x2) * 2) + x3) (fun yq1 => grd (inb yq1 2400) (if (vI σ 146 yq1.toNatClampNeg) = ((-1)) then (if (vI σ 90 47) = 1000 then (bnd (uI σ 90 48 0) (fun σ14 => some (((-1), σ14)))) else (grd (inb (vI σ 90 47) 1000) (bnd (uI σ 143 (vI σ 90 47).toNatClampNeg x1) (fun σ6 => grd (inb (vI σ6 90 47) 1000) (bnd (uI σ6 144 (vI σ6 90 47).toNatClampNeg x2) (fun σ8 => grd (inb (vI σ8 90 47) 1000) (bnd (uI σ8 145 (vI σ8 90 47).toNatClampNeg x3) (fun σ10 => grd (inb yq1 2400) (bnd (uI σ10 146 yq1.toNatClampNeg (vI σ10 90 47)) (fun σ12 => bnd (uI σ12 90 47 ((vI σ12 90 47) + 1)) (fun σ13 => some (((vI σ13 90 47) - 1, σ13))))))))))))) else (grd (inb yq1 2400) (some ((vI σ 146 yq1.toNatClampNeg, σ))))))
set_option maxRecDepth 8000 in
theorem e_X12_three {ad : Nat → Nat} {x1 : Int32} {x2 : Int32} {x3 : Int32} {σ : sS} {z : (Int32 × sS)} (h : L_X12_three x1 x2 x3 σ = some z) : ab_E (sR ad) mX12_three 1 0 [(0, .ref (ad 90)), (1, .int x1), (2, .int x2), (3, .int x3)] [] σ (fun r9 σ9 => r9 = some (.int z.1) ∧ σ9 = z.2) := by
  unfold L_X12_three at h
  refine r_iload_n dX12_three_0 1 rfl ?_
  refine r_sipush (v := 300) dX12_three_1 (by decide) ?_
  refine r_imul dX12_three_4 ?_
  refine r_iload_n dX12_three_5 2 rfl ?_
  refine r_iadd dX12_three_6 ?_
  refine r_iconst (v := 2) dX12_three_7 (by decide) ?_
  refine r_imul dX12_three_8 ?_
  refine r_iload_n dX12_three_9 3 rfl ?_
  refine r_iadd dX12_three_10 ?_
  refine r_topi (fun yq1 eyq1 => ?_)
  replace h := bnd_at h eyq1
  refine r_istore (lo' := [(4, .int yq1), (0, .ref (ad 90)), (1, .int x1), (2, .int x2), (3, .int x3)]) dX12_three_11 (by decide) rfl ?_
  refine r_aload_n dX12_three_13 1 rfl ?_
  refine s_getR (b := 146) ok_X12 dX12_three_14 (k := 46) (by decide) fl_X12_82 rfl rfl rfl ?_
  refine r_iload dX12_three_17 0 rfl ?_
  obtain ⟨qg2, h⟩ := grd_at h
  refine s_iald dX12_three_19 rfl (inb_of qg2) ?_
  refine r_iconst (v := (-1)) dX12_three_20 (by decide) ?_
  refine r_icmp_eq (t := 32) dX12_three_21 (by decide) (fun qc3 => ?_) (fun qc3 => ?_)
  · replace h := ifp h qc3
    refine r_aload_n dX12_three_32 1 rfl ?_
    refine s_getI ok_X12 dX12_three_33 (k := 47) (by decide) fl_X12_408 rfl rfl ?_
    refine r_sipush (v := 1000) dX12_three_36 (by decide) ?_
    refine r_icmp_ne (t := 49) dX12_three_39 (by decide) (fun qc4 => ?_) (fun qc4 => ?_)
    · replace h := ifn h qc4
      refine r_aload_n dX12_three_49 1 rfl ?_
      refine s_getR (b := 143) ok_X12 dX12_three_50 (k := 43) (by decide) fl_X12_73 rfl rfl rfl ?_
      refine r_aload_n dX12_three_53 1 rfl ?_
      refine s_getI ok_X12 dX12_three_54 (k := 47) (by decide) fl_X12_408 rfl rfl ?_
      refine r_iload_n dX12_three_57 2 rfl ?_
      obtain ⟨qg5, h⟩ := grd_at h
      refine s_iast dX12_three_58 rfl (inb_of qg5) ?_
      refine r_st (fun σ6 eσ6 => ?_)
      replace h := bnd_at h eσ6
      refine r_aload_n dX12_three_59 1 rfl ?_
      refine s_getR (b := 144) ok_X12 dX12_three_60 (k := 44) (by decide) fl_X12_76 rfl rfl rfl ?_
      refine r_aload_n dX12_three_63 1 rfl ?_
      refine s_getI ok_X12 dX12_three_64 (k := 47) (by decide) fl_X12_408 rfl rfl ?_
      refine r_iload_n dX12_three_67 3 rfl ?_
      obtain ⟨qg7, h⟩ := grd_at h
      refine s_iast dX12_three_68 rfl (inb_of qg7) ?_
      refine r_st (fun σ8 eσ8 => ?_)
      replace h := bnd_at h eσ8
      refine r_aload_n dX12_three_69 1 rfl ?_
      refine s_getR (b := 145) ok_X12 dX12_three_70 (k := 45) (by decide) fl_X12_79 rfl rfl rfl ?_
      refine r_aload_n dX12_three_73 1 rfl ?_
      refine s_getI ok_X12 dX12_three_74 (k := 47) (by decide) fl_X12_408 rfl rfl ?_
      refine r_iload_n dX12_three_77 4 rfl ?_
      obtain ⟨qg9, h⟩ := grd_at h
      refine s_iast dX12_three_78 rfl (inb_of qg9) ?_
      refine r_st (fun σ10 eσ10 => ?_)
      replace h := bnd_at h eσ10
      refine r_aload_n dX12_three_79 1 rfl ?_
      refine s_getR (b := 146) ok_X12 dX12_three_80 (k := 46) (by decide) fl_X12_82 rfl rfl rfl ?_
      refine r_iload dX12_three_83 0 rfl ?_
      refine r_aload_n dX12_three_85 1 rfl ?_
      refine s_getI ok_X12 dX12_three_86 (k := 47) (by decide) fl_X12_408 rfl rfl ?_
      obtain ⟨qg11, h⟩ := grd_at h
      refine s_iast dX12_three_89 rfl (inb_of qg11) ?_
      refine r_st (fun σ12 eσ12 => ?_)
      replace h := bnd_at h eσ12
      refine r_aload_n dX12_three_90 1 rfl ?_
      refine r_dup dX12_three_91 rfl ?_
      refine s_getI ok_X12 dX12_three_92 (k := 47) (by decide) fl_X12_408 rfl rfl ?_
      refine r_iconst (v := 1) dX12_three_95 (by decide) ?_
      refine r_iadd dX12_three_96 ?_
      refine s_putI ok_X12 dX12_three_97 (k := 47) (by decide) fl_X12_408 rfl rfl rfl rfl rfl ?_
      refine r_st (fun σ13 eσ13 => ?_)
      replace h := bnd_at h eσ13
      refine r_aload_n dX12_three_100 1 rfl ?_
      refine s_getI ok_X12 dX12_three_101 (k := 47) (by decide) fl_X12_408 rfl rfl ?_
      refine r_iconst (v := 1) dX12_three_104 (by decide) ?_
      refine r_isub dX12_three_105 ?_
      refine r_iret rfl dX12_three_106 ?_
      exact lfI h
    · replace h := ifp h qc4
      refine r_aload_n dX12_three_42 1 rfl ?_
      refine r_iconst (v := 0) dX12_three_43 (by decide) ?_
      refine s_putI ok_X12 dX12_three_44 (k := 48) (by decide) fl_X12_411 rfl (by decide) (by decide) rfl rfl ?_
      refine r_st (fun σ14 eσ14 => ?_)
      replace h := bnd_at h eσ14
      refine r_iconst (v := (-1)) dX12_three_47 (by decide) ?_
      refine r_iret rfl dX12_three_48 ?_
      exact lfI h
  · replace h := ifn h qc3
    refine r_aload_n dX12_three_24 1 rfl ?_
    refine s_getR (b := 146) ok_X12 dX12_three_25 (k := 46) (by decide) fl_X12_82 rfl rfl rfl ?_
    refine r_iload dX12_three_28 0 rfl ?_
    obtain ⟨qg15, h⟩ := grd_at h
    refine s_iald dX12_three_30 rfl (inb_of qg15) ?_
    refine r_iret rfl dX12_three_31 ?_
    exact lfI h
set_option maxRecDepth 8000 in
theorem lc_X12_three {ad : Nat → Nat} {x1 : Int32} {x2 : Int32} {x3 : Int32} {σ τ : sS} {r : Int32} (h : L_X12_three x1 x2 x3 σ = some (r, τ)) : ab_X (sR ad) 1 mX12_three [.ref (ad 90), .int x1, .int x2, .int x3] σ (some (.int r)) τ := ab_X.of (by decide) (Nat.le_of_ble_eq_true rfl) (e_X12_three h)
set_option maxRecDepth 8000 in
def L_X12_goesBy (x1 : Int32) (x2 : Int32) (σ : sS) : Option (Int32 × sS) := bnd (x2 / 2048) (fun yq1 => bnd ((x2 - x2 / 2048 * 2048) / 512) (fun yq2 => bnd (x2 - x2 / 512 * 512) (fun yq3 => bnd (vI σ 90 37) (fun yq5 => if yq5 = 0 then (some ((yq2, σ))) else (if yq5 = 1 then (bd (L_X12_edgeAt x1 yq1 yq3 σ) (fun rq7 => some ((rq7, σ)))) else (if yq5 = 2 then (grd (inb x1 1000) (if (vI σ 145 x1.toNatClampNeg) = 0 then (grd (inb (vI σ 90 38) 6) (grd (inb x1 1000) (bnd (((vI σ 116 (vI σ 90 38).toNatClampNeg) >>> ((vI σ 143 x1.toNatClampNeg) &&& 31)) &&& 1) (fun yq28 => grd (inb x1 1000) (bd (L_X12_edgeAt (vI σ 144 x1.toNatClampNeg) yq1 yq3 σ) (fun rq31 => bd2 (L_X12_three yq2 rq31 yq28 σ) (fun rq33 σ34 => some ((rq33, σ34))))))))) else (grd (inb x1 1000) (bd (L_X12_isFinalNode (vI σ 144 x1.toNatClampNeg) σ) (fun rq12 => if rq12 = 0 then (grd (inb x1 1000) (bd (L_X12_edgeAt (vI σ 144 x1.toNatClampNeg) yq1 yq3 σ) (fun rq16 => bd2 (L_X12_three yq2 rq16 1 σ) (fun rq18 σ19 => some ((rq18, σ19)))))) else (grd (inb x1 1000) (bd (L_X12_edgeAt (vI σ 144 x1.toNatClampNeg) yq1 yq3 σ) (fun rq22 => bd2 (L_X12_three yq2 rq22 0 σ) (fun rq24 σ25 => some ((rq24, σ25))))))))))) else (if yq5 = 3 then (grd (!decide ((vI σ 90 42) = (0 : Int32))) (some ((((10 : Int32) * yq2) + (((x1 - x1 / 10 * 10) + 1) - ((x1 - x1 / 10 * 10) + 1) / (vI σ 90 42) * (vI σ 90 42)), σ)))) else (bd (L_X12_edgeAt (x1 / 10) yq1 yq3 σ) (fun rq37 => grd (!decide ((vI σ 90 42) = (0 : Int32))) (some ((((10 : Int32) * rq37) + (((x1 - x1 / 10 * 10) + 1) - ((x1 - x1 / 10 * 10) + 1) / (vI σ 90 42) * (vI σ 90 42)), σ))))))))))))
set_option maxRecDepth 8000 in
theorem e_X12_goesBy {ad : Nat → Nat} {x1 : Int32} {x2 : Int32} {σ : sS} {z : (Int32 × sS)} (h : L_X12_goesBy x1 x2 σ = some z) : ab_E (sR ad) mX12_goesBy 2 0 [(0, .ref (ad 90)), (1, .int x1), (2, .int x2)] [] σ (fun r9 σ9 => r9 = some (.int z.1) ∧ σ9 = z.2) := by
  unfold L_X12_goesBy at h
  refine r_iload_n dX12_goesBy_0 2 rfl ?_
  refine r_sipush (v := 2048) dX12_goesBy_1 (by decide) ?_
  refine r_idiv dX12_goesBy_4 (by decide) ?_
  refine r_topi (fun yq1 eyq1 => ?_)
  replace h := bnd_at h eyq1
  refine r_istore_n (lo' := [(3, .int yq1), (0, .ref (ad 90)), (1, .int x1), (2, .int x2)]) dX12_goesBy_5 (by decide) rfl ?_
  refine r_iload_n dX12_goesBy_6 3 rfl ?_
  refine r_sipush (v := 2048) dX12_goesBy_7 (by decide) ?_
  refine r_irem dX12_goesBy_10 (by decide) ?_
  refine r_sipush (v := 512) dX12_goesBy_11 (by decide) ?_
  refine r_idiv dX12_goesBy_14 (by decide) ?_
  refine r_topi (fun yq2 eyq2 => ?_)
  replace h := bnd_at h eyq2
  refine r_istore (lo' := [(4, .int yq2), (3, .int yq1), (0, .ref (ad 90)), (1, .int x1), (2, .int x2)]) dX12_goesBy_15 (by decide) rfl ?_
  refine r_iload_n dX12_goesBy_17 4 rfl ?_
  refine r_sipush (v := 512) dX12_goesBy_18 (by decide) ?_
  refine r_irem dX12_goesBy_21 (by decide) ?_
  refine r_topi (fun yq3 eyq3 => ?_)
  replace h := bnd_at h eyq3
  refine r_istore (lo' := [(5, .int yq3), (4, .int yq2), (3, .int yq1), (0, .ref (ad 90)), (1, .int x1), (2, .int x2)]) dX12_goesBy_22 (by decide) rfl ?_
  refine r_aload_n dX12_goesBy_24 3 rfl ?_
  refine s_getI ok_X12 dX12_goesBy_25 (k := 37) (by decide) fl_X12_393 rfl rfl ?_
  refine r_topi (fun yq5 eyq5 => ?_)
  replace h := bnd_at h eyq5
  by_cases qw4_0 : yq5 = 0
  · replace h := ifp h qw4_0
    refine r_tableIn (t := 60) (off := 32) dX12_goesBy_28 (by rw [qw4_0]; decide) (by rw [qw4_0]; decide) (by rw [qw4_0]; rfl) (by decide) ?_
    refine r_iload dX12_goesBy_60 1 rfl ?_
    refine r_iret rfl dX12_goesBy_62 ?_
    exact lfI h
  replace h := ifn h qw4_0
  by_cases qw4_1 : yq5 = 1
  · replace h := ifp h qw4_1
    refine r_tableIn (t := 63) (off := 35) dX12_goesBy_28 (by rw [qw4_1]; decide) (by rw [qw4_1]; decide) (by rw [qw4_1]; rfl) (by decide) ?_
    refine r_aload_n dX12_goesBy_63 3 rfl ?_
    refine r_iload_n dX12_goesBy_64 4 rfl ?_
    refine r_iload_n dX12_goesBy_65 2 rfl ?_
    refine r_iload dX12_goesBy_66 0 rfl ?_
    obtain ⟨rq7, qg6, h⟩ := bd_at h
    refine x_callV (Y := mX12_edgeAt) (d' := 1) dX12_goesBy_68 ml_X12_399 yv_X12_edgeAt (by omega) rfl rfl (by simp [Value.category]) (sR_is rfl rfl) (lc_X12_edgeAt qg6) ?_
    refine r_iret rfl dX12_goesBy_71 ?_
    exact lfI h
  replace h := ifn h qw4_1
  by_cases qw4_2 : yq5 = 2
  · replace h := ifp h qw4_2
    refine r_tableIn (t := 72) (off := 44) dX12_goesBy_28 (by rw [qw4_2]; decide) (by rw [qw4_2]; decide) (by rw [qw4_2]; rfl) (by decide) ?_
    refine r_aload_n dX12_goesBy_72 3 rfl ?_
    refine s_getR (b := 145) ok_X12 dX12_goesBy_73 (k := 45) (by decide) fl_X12_79 rfl rfl rfl ?_
    refine r_iload_n dX12_goesBy_76 4 rfl ?_
    obtain ⟨qg8, h⟩ := grd_at h
    refine s_iald dX12_goesBy_77 rfl (inb_of qg8) ?_
    refine r_if_ne (t := 102) dX12_goesBy_78 (by decide) (fun qc9 => ?_) (fun qc9 => ?_)
    · replace h := ifn h qc9
      refine r_aload_n dX12_goesBy_102 3 rfl ?_
      refine r_aload_n dX12_goesBy_103 3 rfl ?_
      refine s_getR (b := 144) ok_X12 dX12_goesBy_104 (k := 44) (by decide) fl_X12_76 rfl rfl rfl ?_
      refine r_iload_n dX12_goesBy_107 4 rfl ?_
      obtain ⟨qg10, h⟩ := grd_at h
      refine s_iald dX12_goesBy_108 rfl (inb_of qg10) ?_
      obtain ⟨rq12, qg11, h⟩ := bd_at h
      refine x_callV (Y := mX12_isFinalNode) (d' := 1) dX12_goesBy_109 ml_X12_381 yv_X12_isFinalNode (by omega) rfl rfl (by simp [Value.category]) (sR_is rfl rfl) (lc_X12_isFinalNode qg11) ?_
      refine r_if_eq (t := 119) dX12_goesBy_112 (by decide) (fun qc13 => ?_) (fun qc13 => ?_)
      · replace h := ifp h qc13
        refine r_iconst (v := 1) dX12_goesBy_119 (by decide) ?_
        refine r_istore (lo' := [(6, .int 1), (5, .int yq3), (4, .int yq2), (3, .int yq1), (0, .ref (ad 90)), (1, .int x1), (2, .int x2)]) dX12_goesBy_120 (by decide) rfl ?_
        refine r_aload_n dX12_goesBy_122 4 rfl ?_
        refine r_iload dX12_goesBy_123 2 rfl ?_
        refine r_aload_n dX12_goesBy_125 4 rfl ?_
        refine r_aload_n dX12_goesBy_126 4 rfl ?_
        refine s_getR (b := 144) ok_X12 dX12_goesBy_127 (k := 44) (by decide) fl_X12_76 rfl rfl rfl ?_
        refine r_iload_n dX12_goesBy_130 5 rfl ?_
        obtain ⟨qg14, h⟩ := grd_at h
        refine s_iald dX12_goesBy_131 rfl (inb_of qg14) ?_
        refine r_iload_n dX12_goesBy_132 3 rfl ?_
        refine r_iload dX12_goesBy_133 1 rfl ?_
        obtain ⟨rq16, qg15, h⟩ := bd_at h
        refine x_callV (Y := mX12_edgeAt) (d' := 1) dX12_goesBy_135 ml_X12_399 yv_X12_edgeAt (by omega) rfl rfl (by simp [Value.category]) (sR_is rfl rfl) (lc_X12_edgeAt qg15) ?_
        refine r_iload dX12_goesBy_138 0 rfl ?_
        obtain ⟨rq18, σ19, qg17, h⟩ := bd2_at h
        refine x_callV (Y := mX12_three) (d' := 1) dX12_goesBy_140 ml_X12_402 yv_X12_three (by omega) rfl rfl (by simp [Value.category]) (sR_is rfl rfl) (lc_X12_three qg17) ?_
        refine r_iret rfl dX12_goesBy_143 ?_
        exact lfI h
      · replace h := ifn h qc13
        refine r_iconst (v := 0) dX12_goesBy_115 (by decide) ?_
        refine r_goto (t := 120) dX12_goesBy_116 (by decide) ?_
        refine r_istore (lo' := [(6, .int 0), (5, .int yq3), (4, .int yq2), (3, .int yq1), (0, .ref (ad 90)), (1, .int x1), (2, .int x2)]) dX12_goesBy_120 (by decide) rfl ?_
        refine r_aload_n dX12_goesBy_122 4 rfl ?_
        refine r_iload dX12_goesBy_123 2 rfl ?_
        refine r_aload_n dX12_goesBy_125 4 rfl ?_
        refine r_aload_n dX12_goesBy_126 4 rfl ?_
        refine s_getR (b := 144) ok_X12 dX12_goesBy_127 (k := 44) (by decide) fl_X12_76 rfl rfl rfl ?_
        refine r_iload_n dX12_goesBy_130 5 rfl ?_
        obtain ⟨qg20, h⟩ := grd_at h
        refine s_iald dX12_goesBy_131 rfl (inb_of qg20) ?_
        refine r_iload_n dX12_goesBy_132 3 rfl ?_
        refine r_iload dX12_goesBy_133 1 rfl ?_
        obtain ⟨rq22, qg21, h⟩ := bd_at h
        refine x_callV (Y := mX12_edgeAt) (d' := 1) dX12_goesBy_135 ml_X12_399 yv_X12_edgeAt (by omega) rfl rfl (by simp [Value.category]) (sR_is rfl rfl) (lc_X12_edgeAt qg21) ?_
        refine r_iload dX12_goesBy_138 0 rfl ?_
        obtain ⟨rq24, σ25, qg23, h⟩ := bd2_at h
        refine x_callV (Y := mX12_three) (d' := 1) dX12_goesBy_140 ml_X12_402 yv_X12_three (by omega) rfl rfl (by simp [Value.category]) (sR_is rfl rfl) (lc_X12_three qg23) ?_
        refine r_iret rfl dX12_goesBy_143 ?_
        exact lfI h
    · replace h := ifp h qc9
      refine r_aload_n dX12_goesBy_81 3 rfl ?_
      refine s_getR (b := 116) ok_X12 dX12_goesBy_82 (k := 16) (by decide) fl_X12_23 rfl rfl rfl ?_
      refine r_aload_n dX12_goesBy_85 3 rfl ?_
      refine s_getI ok_X12 dX12_goesBy_86 (k := 38) (by decide) fl_X12_396 rfl rfl ?_
      obtain ⟨qg26, h⟩ := grd_at h
      refine s_iald dX12_goesBy_89 rfl (inb_of qg26) ?_
      refine r_aload_n dX12_goesBy_90 3 rfl ?_
      refine s_getR (b := 143) ok_X12 dX12_goesBy_91 (k := 43) (by decide) fl_X12_73 rfl rfl rfl ?_
      refine r_iload_n dX12_goesBy_94 4 rfl ?_
      obtain ⟨qg27, h⟩ := grd_at h
      refine s_iald dX12_goesBy_95 rfl (inb_of qg27) ?_
      refine r_ishr dX12_goesBy_96 ?_
      refine r_iconst (v := 1) dX12_goesBy_97 (by decide) ?_
      refine r_iand dX12_goesBy_98 ?_
      refine r_goto (t := 120) dX12_goesBy_99 (by decide) ?_
      refine r_topi (fun yq28 eyq28 => ?_)
      replace h := bnd_at h eyq28
      refine r_istore (lo' := [(6, .int yq28), (5, .int yq3), (4, .int yq2), (3, .int yq1), (0, .ref (ad 90)), (1, .int x1), (2, .int x2)]) dX12_goesBy_120 (by decide) rfl ?_
      refine r_aload_n dX12_goesBy_122 4 rfl ?_
      refine r_iload dX12_goesBy_123 2 rfl ?_
      refine r_aload_n dX12_goesBy_125 4 rfl ?_
      refine r_aload_n dX12_goesBy_126 4 rfl ?_
      refine s_getR (b := 144) ok_X12 dX12_goesBy_127 (k := 44) (by decide) fl_X12_76 rfl rfl rfl ?_
      refine r_iload_n dX12_goesBy_130 5 rfl ?_
      obtain ⟨qg29, h⟩ := grd_at h
      refine s_iald dX12_goesBy_131 rfl (inb_of qg29) ?_
      refine r_iload_n dX12_goesBy_132 3 rfl ?_
      refine r_iload dX12_goesBy_133 1 rfl ?_
      obtain ⟨rq31, qg30, h⟩ := bd_at h
      refine x_callV (Y := mX12_edgeAt) (d' := 1) dX12_goesBy_135 ml_X12_399 yv_X12_edgeAt (by omega) rfl rfl (by simp [Value.category]) (sR_is rfl rfl) (lc_X12_edgeAt qg30) ?_
      refine r_iload dX12_goesBy_138 0 rfl ?_
      obtain ⟨rq33, σ34, qg32, h⟩ := bd2_at h
      refine x_callV (Y := mX12_three) (d' := 1) dX12_goesBy_140 ml_X12_402 yv_X12_three (by omega) rfl rfl (by simp [Value.category]) (sR_is rfl rfl) (lc_X12_three qg32) ?_
      refine r_iret rfl dX12_goesBy_143 ?_
      exact lfI h
  replace h := ifn h qw4_2
  by_cases qw4_3 : yq5 = 3
  · replace h := ifp h qw4_3
    refine r_tableIn (t := 144) (off := 116) dX12_goesBy_28 (by rw [qw4_3]; decide) (by rw [qw4_3]; decide) (by rw [qw4_3]; rfl) (by decide) ?_
    refine r_bipush (v := 10) dX12_goesBy_144 (by decide) ?_
    refine r_iload dX12_goesBy_146 1 rfl ?_
    refine r_imul dX12_goesBy_148 ?_
    refine r_iload_n dX12_goesBy_149 4 rfl ?_
    refine r_bipush (v := 10) dX12_goesBy_150 (by decide) ?_
    refine r_irem dX12_goesBy_152 (by decide) ?_
    refine r_iconst (v := 1) dX12_goesBy_153 (by decide) ?_
    refine r_iadd dX12_goesBy_154 ?_
    refine r_aload_n dX12_goesBy_155 3 rfl ?_
    refine s_getI ok_X12 dX12_goesBy_156 (k := 42) (by decide) fl_X12_405 rfl rfl ?_
    obtain ⟨qg35, h⟩ := grd_at h
    refine r_irem dX12_goesBy_159 (nz_of qg35) ?_
    refine r_iadd dX12_goesBy_160 ?_
    refine r_iret rfl dX12_goesBy_161 ?_
    exact lfI h
  replace h := ifn h qw4_3
  refine r_tableOut (t := 162) dX12_goesBy_28 (tb_o4 qw4_0 qw4_1 qw4_2 qw4_3) (by decide) ?_
  refine r_bipush (v := 10) dX12_goesBy_162 (by decide) ?_
  refine r_aload_n dX12_goesBy_164 3 rfl ?_
  refine r_iload_n dX12_goesBy_165 4 rfl ?_
  refine r_bipush (v := 10) dX12_goesBy_166 (by decide) ?_
  refine r_idiv dX12_goesBy_168 (by decide) ?_
  refine r_iload_n dX12_goesBy_169 2 rfl ?_
  refine r_iload dX12_goesBy_170 0 rfl ?_
  obtain ⟨rq37, qg36, h⟩ := bd_at h
  refine x_callV (Y := mX12_edgeAt) (d' := 1) dX12_goesBy_172 ml_X12_399 yv_X12_edgeAt (by omega) rfl rfl (by simp [Value.category]) (sR_is rfl rfl) (lc_X12_edgeAt qg36) ?_
  refine r_imul dX12_goesBy_175 ?_
  refine r_iload_n dX12_goesBy_176 4 rfl ?_
  refine r_bipush (v := 10) dX12_goesBy_177 (by decide) ?_
  refine r_irem dX12_goesBy_179 (by decide) ?_
  refine r_iconst (v := 1) dX12_goesBy_180 (by decide) ?_
  refine r_iadd dX12_goesBy_181 ?_
  refine r_aload_n dX12_goesBy_182 3 rfl ?_
  refine s_getI ok_X12 dX12_goesBy_183 (k := 42) (by decide) fl_X12_405 rfl rfl ?_
  obtain ⟨qg38, h⟩ := grd_at h
  refine r_irem dX12_goesBy_186 (nz_of qg38) ?_
  refine r_iadd dX12_goesBy_187 ?_
  refine r_iret rfl dX12_goesBy_188 ?_
  exact lfI h
set_option maxRecDepth 8000 in
theorem lc_X12_goesBy {ad : Nat → Nat} {x1 : Int32} {x2 : Int32} {σ τ : sS} {r : Int32} (h : L_X12_goesBy x1 x2 σ = some (r, τ)) : ab_X (sR ad) 2 mX12_goesBy [.ref (ad 90), .int x1, .int x2] σ (some (.int r)) τ := ab_X.of (by decide) (Nat.le_of_ble_eq_true rfl) (e_X12_goesBy h)
set_option maxRecDepth 8000 in
def L_X12_isMarked (x1 : Int32) (σ : sS) : Option Int32 := bnd (vI σ 90 37) (fun yq2 => if yq2 = 0 then (grd (inb (vI σ 90 38) 6) (if (((vI σ 116 (vI σ 90 38).toNatClampNeg) >>> (x1 &&& 31)) &&& 1) = 1 then (some ((1 : Int32))) else (some ((0 : Int32))))) else (if yq2 = 1 then (bd (L_X12_isFinalNode x1 σ) (fun rq6 => grd (is01 rq6) (some rq6))) else (if yq2 = 2 then (grd (inb x1 1000) (if (vI σ 145 x1.toNatClampNeg) = 1 then (grd (inb x1 1000) (bd (L_X12_isFinalNode (vI σ 144 x1.toNatClampNeg) σ) (fun rq12 => if rq12 = 0 then (some ((0 : Int32))) else (some ((1 : Int32)))))) else (some ((0 : Int32))))) else (if yq2 = 3 then (grd (inb (vI σ 90 38) 6) (if (((vI σ 116 (vI σ 90 38).toNatClampNeg) >>> ((x1 / 10) &&& 31)) &&& 1) = 1 then (some ((1 : Int32))) else (some ((0 : Int32))))) else (bd (L_X12_isFinalNode (x1 / 10) σ) (fun rq17 => grd (is01 rq17) (some rq17)))))))
set_option maxRecDepth 8000 in
theorem e_X12_isMarked {ad : Nat → Nat} {x1 : Int32} {σ : sS} {z : Int32} (h : L_X12_isMarked x1 σ = some z) : ab_E (sR ad) mX12_isMarked 2 0 [(0, .ref (ad 90)), (1, .int x1)] [] σ (fun r9 σ9 => r9 = some (.int z) ∧ σ9 = σ) := by
  unfold L_X12_isMarked at h
  refine r_aload_n dX12_isMarked_0 0 rfl ?_
  refine s_getI ok_X12 dX12_isMarked_1 (k := 37) (by decide) fl_X12_393 rfl rfl ?_
  refine r_topi (fun yq2 eyq2 => ?_)
  replace h := bnd_at h eyq2
  by_cases qw1_0 : yq2 = 0
  · replace h := ifp h qw1_0
    refine r_tableIn (t := 36) (off := 32) dX12_isMarked_4 (by rw [qw1_0]; decide) (by rw [qw1_0]; decide) (by rw [qw1_0]; rfl) (by decide) ?_
    refine r_aload_n dX12_isMarked_36 0 rfl ?_
    refine s_getR (b := 116) ok_X12 dX12_isMarked_37 (k := 16) (by decide) fl_X12_23 rfl rfl rfl ?_
    refine r_aload_n dX12_isMarked_40 0 rfl ?_
    refine s_getI ok_X12 dX12_isMarked_41 (k := 38) (by decide) fl_X12_396 rfl rfl ?_
    obtain ⟨qg3, h⟩ := grd_at h
    refine s_iald dX12_isMarked_44 rfl (inb_of qg3) ?_
    refine r_iload_n dX12_isMarked_45 1 rfl ?_
    refine r_ishr dX12_isMarked_46 ?_
    refine r_iconst (v := 1) dX12_isMarked_47 (by decide) ?_
    refine r_iand dX12_isMarked_48 ?_
    refine r_iconst (v := 1) dX12_isMarked_49 (by decide) ?_
    refine r_icmp_ne (t := 57) dX12_isMarked_50 (by decide) (fun qc4 => ?_) (fun qc4 => ?_)
    · replace h := ifn h qc4
      refine r_iconst (v := 0) dX12_isMarked_57 (by decide) ?_
      refine r_zret rfl (by decide) dX12_isMarked_58 ?_
      exact lfP h
    · replace h := ifp h qc4
      refine r_iconst (v := 1) dX12_isMarked_53 (by decide) ?_
      refine r_goto (t := 58) dX12_isMarked_54 (by decide) ?_
      refine r_zret rfl (by decide) dX12_isMarked_58 ?_
      exact lfP h
  replace h := ifn h qw1_0
  by_cases qw1_1 : yq2 = 1
  · replace h := ifp h qw1_1
    refine r_tableIn (t := 59) (off := 55) dX12_isMarked_4 (by rw [qw1_1]; decide) (by rw [qw1_1]; decide) (by rw [qw1_1]; rfl) (by decide) ?_
    refine r_aload_n dX12_isMarked_59 0 rfl ?_
    refine r_iload_n dX12_isMarked_60 1 rfl ?_
    obtain ⟨rq6, qg5, h⟩ := bd_at h
    refine x_callV (Y := mX12_isFinalNode) (d' := 1) dX12_isMarked_61 ml_X12_381 yv_X12_isFinalNode (by omega) rfl rfl (by simp [Value.category]) (sR_is rfl rfl) (lc_X12_isFinalNode qg5) ?_
    obtain ⟨qg7, h⟩ := grd_at h
    refine r_zret rfl (nar01 qg7) dX12_isMarked_64 ?_
    exact lfP h
  replace h := ifn h qw1_1
  by_cases qw1_2 : yq2 = 2
  · replace h := ifp h qw1_2
    refine r_tableIn (t := 65) (off := 61) dX12_isMarked_4 (by rw [qw1_2]; decide) (by rw [qw1_2]; decide) (by rw [qw1_2]; rfl) (by decide) ?_
    refine r_aload_n dX12_isMarked_65 0 rfl ?_
    refine s_getR (b := 145) ok_X12 dX12_isMarked_66 (k := 45) (by decide) fl_X12_79 rfl rfl rfl ?_
    refine r_iload_n dX12_isMarked_69 1 rfl ?_
    obtain ⟨qg8, h⟩ := grd_at h
    refine s_iald dX12_isMarked_70 rfl (inb_of qg8) ?_
    refine r_iconst (v := 1) dX12_isMarked_71 (by decide) ?_
    refine r_icmp_ne (t := 92) dX12_isMarked_72 (by decide) (fun qc9 => ?_) (fun qc9 => ?_)
    · replace h := ifn h qc9
      refine r_iconst (v := 0) dX12_isMarked_92 (by decide) ?_
      refine r_zret rfl (by decide) dX12_isMarked_93 ?_
      exact lfP h
    · replace h := ifp h qc9
      refine r_aload_n dX12_isMarked_75 0 rfl ?_
      refine r_aload_n dX12_isMarked_76 0 rfl ?_
      refine s_getR (b := 144) ok_X12 dX12_isMarked_77 (k := 44) (by decide) fl_X12_76 rfl rfl rfl ?_
      refine r_iload_n dX12_isMarked_80 1 rfl ?_
      obtain ⟨qg10, h⟩ := grd_at h
      refine s_iald dX12_isMarked_81 rfl (inb_of qg10) ?_
      obtain ⟨rq12, qg11, h⟩ := bd_at h
      refine x_callV (Y := mX12_isFinalNode) (d' := 1) dX12_isMarked_82 ml_X12_381 yv_X12_isFinalNode (by omega) rfl rfl (by simp [Value.category]) (sR_is rfl rfl) (lc_X12_isFinalNode qg11) ?_
      refine r_if_eq (t := 92) dX12_isMarked_85 (by decide) (fun qc13 => ?_) (fun qc13 => ?_)
      · replace h := ifp h qc13
        refine r_iconst (v := 0) dX12_isMarked_92 (by decide) ?_
        refine r_zret rfl (by decide) dX12_isMarked_93 ?_
        exact lfP h
      · replace h := ifn h qc13
        refine r_iconst (v := 1) dX12_isMarked_88 (by decide) ?_
        refine r_goto (t := 93) dX12_isMarked_89 (by decide) ?_
        refine r_zret rfl (by decide) dX12_isMarked_93 ?_
        exact lfP h
  replace h := ifn h qw1_2
  by_cases qw1_3 : yq2 = 3
  · replace h := ifp h qw1_3
    refine r_tableIn (t := 94) (off := 90) dX12_isMarked_4 (by rw [qw1_3]; decide) (by rw [qw1_3]; decide) (by rw [qw1_3]; rfl) (by decide) ?_
    refine r_aload_n dX12_isMarked_94 0 rfl ?_
    refine s_getR (b := 116) ok_X12 dX12_isMarked_95 (k := 16) (by decide) fl_X12_23 rfl rfl rfl ?_
    refine r_aload_n dX12_isMarked_98 0 rfl ?_
    refine s_getI ok_X12 dX12_isMarked_99 (k := 38) (by decide) fl_X12_396 rfl rfl ?_
    obtain ⟨qg14, h⟩ := grd_at h
    refine s_iald dX12_isMarked_102 rfl (inb_of qg14) ?_
    refine r_iload_n dX12_isMarked_103 1 rfl ?_
    refine r_bipush (v := 10) dX12_isMarked_104 (by decide) ?_
    refine r_idiv dX12_isMarked_106 (by decide) ?_
    refine r_ishr dX12_isMarked_107 ?_
    refine r_iconst (v := 1) dX12_isMarked_108 (by decide) ?_
    refine r_iand dX12_isMarked_109 ?_
    refine r_iconst (v := 1) dX12_isMarked_110 (by decide) ?_
    refine r_icmp_ne (t := 118) dX12_isMarked_111 (by decide) (fun qc15 => ?_) (fun qc15 => ?_)
    · replace h := ifn h qc15
      refine r_iconst (v := 0) dX12_isMarked_118 (by decide) ?_
      refine r_zret rfl (by decide) dX12_isMarked_119 ?_
      exact lfP h
    · replace h := ifp h qc15
      refine r_iconst (v := 1) dX12_isMarked_114 (by decide) ?_
      refine r_goto (t := 119) dX12_isMarked_115 (by decide) ?_
      refine r_zret rfl (by decide) dX12_isMarked_119 ?_
      exact lfP h
  replace h := ifn h qw1_3
  refine r_tableOut (t := 120) dX12_isMarked_4 (tb_o4 qw1_0 qw1_1 qw1_2 qw1_3) (by decide) ?_
  refine r_aload_n dX12_isMarked_120 0 rfl ?_
  refine r_iload_n dX12_isMarked_121 1 rfl ?_
  refine r_bipush (v := 10) dX12_isMarked_122 (by decide) ?_
  refine r_idiv dX12_isMarked_124 (by decide) ?_
  obtain ⟨rq17, qg16, h⟩ := bd_at h
  refine x_callV (Y := mX12_isFinalNode) (d' := 1) dX12_isMarked_125 ml_X12_381 yv_X12_isFinalNode (by omega) rfl rfl (by simp [Value.category]) (sR_is rfl rfl) (lc_X12_isFinalNode qg16) ?_
  obtain ⟨qg18, h⟩ := grd_at h
  refine r_zret rfl (nar01 qg18) dX12_isMarked_128 ?_
  exact lfP h
set_option maxRecDepth 8000 in
theorem lc_X12_isMarked {ad : Nat → Nat} {x1 : Int32} {σ : sS} {r : Int32} (h : L_X12_isMarked x1 σ = some r) : ab_X (sR ad) 2 mX12_isMarked [.ref (ad 90), .int x1] σ (some (.int r)) σ := ab_X.of (by decide) (Nat.le_of_ble_eq_true rfl) (e_X12_isMarked h)
