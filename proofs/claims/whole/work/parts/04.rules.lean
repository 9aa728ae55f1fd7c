section ABR
variable {S : Type} {Rp : S → ab_S → Prop} {X : ab_M} {d pc : Nat} {lo lo' : List (Nat × Value)} {st : List Value} {σ : S} {Q : Option Value → S → Prop}
theorem r_iconst {n : Int} {v : Int32} (hd : decode X.2.1 pc = .ok (.iconst n, 1)) (hv : Int32.ofInt n = v) (K : ab_E Rp X d (pc + 1) lo (.int v :: st) σ Q) : ab_E Rp X d pc lo st σ Q :=
  ab_E.go (fun l κ p e R s m args below meth c H locs cells slots Qq ls cx hdd hll hcc hss hl kk => lv_iconst cx.1 cx.2.1 hd hv (kk ls hl)) K
theorem r_bipush {n : Int} {v : Int32} (hd : decode X.2.1 pc = .ok (.bipush n, 2)) (hv : (Int8.ofInt n).toInt32 = v) (K : ab_E Rp X d (pc + 2) lo (.int v :: st) σ Q) : ab_E Rp X d pc lo st σ Q :=
  ab_E.go (fun l κ p e R s m args below meth c H locs cells slots Qq ls cx hdd hll hcc hss hl kk => lv_bipush cx.1 cx.2.1 hd hv (kk ls hl)) K
theorem r_sipush {n : Int} {v : Int32} (hd : decode X.2.1 pc = .ok (.sipush n, 3)) (hv : (Int16.ofInt n).toInt32 = v) (K : ab_E Rp X d (pc + 3) lo (.int v :: st) σ Q) : ab_E Rp X d pc lo st σ Q :=
  ab_E.go (fun l κ p e R s m args below meth c H locs cells slots Qq ls cx hdd hll hcc hss hl kk => lv_sipush cx.1 cx.2.1 hd hv (kk ls hl)) K
theorem r_lconst {n : Fin 2} {v : Int64} (hd : decode X.2.1 pc = .ok (.lconst n, 1)) (hv : Int64.ofNat (n : Nat) = v) (K : ab_E Rp X d (pc + 1) lo (.long v :: st) σ Q) : ab_E Rp X d pc lo st σ Q :=
  ab_E.go (fun l κ p e R s m args below meth c H locs cells slots Qq ls cx hdd hll hcc hss hl kk => lv_lconst cx.1 cx.2.1 hd hv (kk ls hl)) K
theorem r_null (hd : decode X.2.1 pc = .ok (.aconst_null, 1)) (K : ab_E Rp X d (pc + 1) lo (.null :: st) σ Q) : ab_E Rp X d pc lo st σ Q :=
  ab_E.go (fun l κ p e R s m args below meth c H locs cells slots Qq ls cx hdd hll hcc hss hl kk => lv_null cx.1 cx.2.1 hd (kk ls hl)) K
theorem r_ldc {i : Nat} {v : Int32} (hd : decode X.2.1 pc = .ok (.ldc i, 2)) (hw : Cond.constant X.1.cls i v ∈ ab_tb) (K : ab_E Rp X d (pc + 2) lo (.int v :: st) σ Q) : ab_E Rp X d pc lo st σ Q :=
  ab_E.go (fun l κ p e R s m args below meth c H locs cells slots Qq ls cx hdd hll hcc hss hl kk => lv_ldc cx.1 cx.2.1 cx.2.2.2.2.2.1 (cx.2.2.2.2.2.2.2.1 _ hw) hd (kk ls hl)) K
theorem r_ldcw {i : Nat} {v : Int32} (hd : decode X.2.1 pc = .ok (.ldc_w i, 3)) (hw : Cond.constant X.1.cls i v ∈ ab_tb) (K : ab_E Rp X d (pc + 3) lo (.int v :: st) σ Q) : ab_E Rp X d pc lo st σ Q :=
  ab_E.go (fun l κ p e R s m args below meth c H locs cells slots Qq ls cx hdd hll hcc hss hl kk => lv_ldcw cx.1 cx.2.1 cx.2.2.2.2.2.1 (cx.2.2.2.2.2.2.2.1 _ hw) hd (kk ls hl)) K
theorem r_ldc2 {i : Nat} {v : Int64} (hd : decode X.2.1 pc = .ok (.ldc2_w i, 3)) (hw : Cond.constantLong X.1.cls i v ∈ ab_tb) (K : ab_E Rp X d (pc + 3) lo (.long v :: st) σ Q) : ab_E Rp X d pc lo st σ Q :=
  ab_E.go (fun l κ p e R s m args below meth c H locs cells slots Qq ls cx hdd hll hcc hss hl kk => lv_ldc2 cx.1 cx.2.1 cx.2.2.2.2.2.1 (cx.2.2.2.2.2.2.2.1 _ hw) hd (kk ls hl)) K
theorem r_iload_n {k : Fin 4} {x : Int32} (hd : decode X.2.1 pc = .ok (.iload_n k, 1)) (j : Nat) (hj : lo[j]? = some ((k : Nat), .int x)) (K : ab_E Rp X d (pc + 1) lo (.int x :: st) σ Q) : ab_E Rp X d pc lo st σ Q :=
  ab_E.go (fun l κ p e R s m args below meth c H locs cells slots Qq ls cx hdd hll hcc hss hl kk => lv_iload_n cx.1 cx.2.1 hd rfl (lv_at hl j hj) (kk ls hl)) K
theorem r_iload {i : Nat} {x : Int32} (hd : decode X.2.1 pc = .ok (.iload i, 2)) (j : Nat) (hj : lo[j]? = some (i, .int x)) (K : ab_E Rp X d (pc + 2) lo (.int x :: st) σ Q) : ab_E Rp X d pc lo st σ Q :=
  ab_E.go (fun l κ p e R s m args below meth c H locs cells slots Qq ls cx hdd hll hcc hss hl kk => lv_iload cx.1 cx.2.1 hd (lv_at hl j hj) (kk ls hl)) K
theorem r_lload_n {k : Fin 4} {x : Int64} (hd : decode X.2.1 pc = .ok (.lload_n k, 1)) (j : Nat) (hj : lo[j]? = some ((k : Nat), .long x)) (K : ab_E Rp X d (pc + 1) lo (.long x :: st) σ Q) : ab_E Rp X d pc lo st σ Q :=
  ab_E.go (fun l κ p e R s m args below meth c H locs cells slots Qq ls cx hdd hll hcc hss hl kk => lv_lload_n cx.1 cx.2.1 hd rfl (lv_at hl j hj) (kk ls hl)) K
theorem r_lload {i : Nat} {x : Int64} (hd : decode X.2.1 pc = .ok (.lload i, 2)) (j : Nat) (hj : lo[j]? = some (i, .long x)) (K : ab_E Rp X d (pc + 2) lo (.long x :: st) σ Q) : ab_E Rp X d pc lo st σ Q :=
  ab_E.go (fun l κ p e R s m args below meth c H locs cells slots Qq ls cx hdd hll hcc hss hl kk => lv_lload cx.1 cx.2.1 hd (lv_at hl j hj) (kk ls hl)) K
theorem r_aload_n {k : Fin 4} {x : Nat} (hd : decode X.2.1 pc = .ok (.aload_n k, 1)) (j : Nat) (hj : lo[j]? = some ((k : Nat), .ref x)) (K : ab_E Rp X d (pc + 1) lo (.ref x :: st) σ Q) : ab_E Rp X d pc lo st σ Q :=
  ab_E.go (fun l κ p e R s m args below meth c H locs cells slots Qq ls cx hdd hll hcc hss hl kk => lv_aload_n cx.1 cx.2.1 hd rfl (lv_at hl j hj) (kk ls hl)) K
theorem r_aload {i : Nat} {x : Nat} (hd : decode X.2.1 pc = .ok (.aload i, 2)) (j : Nat) (hj : lo[j]? = some (i, .ref x)) (K : ab_E Rp X d (pc + 2) lo (.ref x :: st) σ Q) : ab_E Rp X d pc lo st σ Q :=
  ab_E.go (fun l κ p e R s m args below meth c H locs cells slots Qq ls cx hdd hll hcc hss hl kk => lv_aload cx.1 cx.2.1 hd (lv_at hl j hj) (kk ls hl)) K
theorem r_aload_nN {k : Fin 4} (hd : decode X.2.1 pc = .ok (.aload_n k, 1)) (j : Nat) (hj : lo[j]? = some ((k : Nat), .null)) (K : ab_E Rp X d (pc + 1) lo (.null :: st) σ Q) : ab_E Rp X d pc lo st σ Q :=
  ab_E.go (fun l κ p e R s m args below meth c H locs cells slots Qq ls cx hdd hll hcc hss hl kk => lv_aload_nN cx.1 cx.2.1 hd rfl (lv_at hl j hj) (kk ls hl)) K
theorem r_aloadN {i : Nat} (hd : decode X.2.1 pc = .ok (.aload i, 2)) (j : Nat) (hj : lo[j]? = some (i, .null)) (K : ab_E Rp X d (pc + 2) lo (.null :: st) σ Q) : ab_E Rp X d pc lo st σ Q :=
  ab_E.go (fun l κ p e R s m args below meth c H locs cells slots Qq ls cx hdd hll hcc hss hl kk => lv_aloadN cx.1 cx.2.1 hd (lv_at hl j hj) (kk ls hl)) K
theorem r_istore_n {k : Fin 4} {x : Int32} (hd : decode X.2.1 pc = .ok (.istore_n k, 1)) (hn : (k : Nat) < X.2.2.1) (hl' : ((k : Nat), Value.int x) :: lo.filter (fun q => !(q.1 == (k : Nat)) && !(q.1 + 1 == (k : Nat) && q.2.category == 2)) = lo') (K : ab_E Rp X d (pc + 1) lo' st σ Q) : ab_E Rp X d pc lo (.int x :: st) σ Q :=
  ab_E.go (fun l κ p e R s m args below meth c H locs cells slots Qq ls cx hdd hll hcc hss hl kk => lv_istore_n cx.1 cx.2.1 hd rfl hl hn hl' kk) K
theorem r_istore {i : Nat} {x : Int32} (hd : decode X.2.1 pc = .ok (.istore i, 2)) (hn : i < X.2.2.1) (hl' : (i, Value.int x) :: lo.filter (fun q => !(q.1 == i) && !(q.1 + 1 == i && q.2.category == 2)) = lo') (K : ab_E Rp X d (pc + 2) lo' st σ Q) : ab_E Rp X d pc lo (.int x :: st) σ Q :=
  ab_E.go (fun l κ p e R s m args below meth c H locs cells slots Qq ls cx hdd hll hcc hss hl kk => lv_istore cx.1 cx.2.1 hd hl hn hl' kk) K
theorem r_astore_n {k : Fin 4} {x : Nat} (hd : decode X.2.1 pc = .ok (.astore_n k, 1)) (hn : (k : Nat) < X.2.2.1) (hl' : ((k : Nat), Value.ref x) :: lo.filter (fun q => !(q.1 == (k : Nat)) && !(q.1 + 1 == (k : Nat) && q.2.category == 2)) = lo') (K : ab_E Rp X d (pc + 1) lo' st σ Q) : ab_E Rp X d pc lo (.ref x :: st) σ Q :=
  ab_E.go (fun l κ p e R s m args below meth c H locs cells slots Qq ls cx hdd hll hcc hss hl kk => lv_astore_n cx.1 cx.2.1 hd rfl hl hn hl' kk) K
theorem r_astore {i : Nat} {x : Nat} (hd : decode X.2.1 pc = .ok (.astore i, 2)) (hn : i < X.2.2.1) (hl' : (i, Value.ref x) :: lo.filter (fun q => !(q.1 == i) && !(q.1 + 1 == i && q.2.category == 2)) = lo') (K : ab_E Rp X d (pc + 2) lo' st σ Q) : ab_E Rp X d pc lo (.ref x :: st) σ Q :=
  ab_E.go (fun l κ p e R s m args below meth c H locs cells slots Qq ls cx hdd hll hcc hss hl kk => lv_astore cx.1 cx.2.1 hd hl hn hl' kk) K
theorem r_lstore_n {k : Fin 4} {x : Int64} (hd : decode X.2.1 pc = .ok (.lstore_n k, 1)) (hn : (k : Nat) + 1 < X.2.2.1) (hl' : ((k : Nat), Value.long x) :: lo.filter (fun q => !(q.1 == (k : Nat)) && (!(q.1 == (k : Nat) + 1) && !(q.1 + 1 == (k : Nat) && q.2.category == 2))) = lo') (K : ab_E Rp X d (pc + 1) lo' st σ Q) : ab_E Rp X d pc lo (.long x :: st) σ Q :=
  ab_E.go (fun l κ p e R s m args below meth c H locs cells slots Qq ls cx hdd hll hcc hss hl kk => lv_lstore_n cx.1 cx.2.1 hd rfl hl hn hl' kk) K
theorem r_lstore {i : Nat} {x : Int64} (hd : decode X.2.1 pc = .ok (.lstore i, 2)) (hn : i + 1 < X.2.2.1) (hl' : (i, Value.long x) :: lo.filter (fun q => !(q.1 == i) && (!(q.1 == i + 1) && !(q.1 + 1 == i && q.2.category == 2))) = lo') (K : ab_E Rp X d (pc + 2) lo' st σ Q) : ab_E Rp X d pc lo (.long x :: st) σ Q :=
  ab_E.go (fun l κ p e R s m args below meth c H locs cells slots Qq ls cx hdd hll hcc hss hl kk => lv_lstore cx.1 cx.2.1 hd hl hn hl' kk) K
theorem r_astore_nN {k : Fin 4} (hd : decode X.2.1 pc = .ok (.astore_n k, 1)) (hn : (k : Nat) < X.2.2.1) (hl' : ((k : Nat), Value.null) :: lo.filter (fun q => !(q.1 == (k : Nat)) && !(q.1 + 1 == (k : Nat) && q.2.category == 2)) = lo') (K : ab_E Rp X d (pc + 1) lo' st σ Q) : ab_E Rp X d pc lo (.null :: st) σ Q :=
  ab_E.go (fun l κ p e R s m args below meth c H locs cells slots Qq ls cx hdd hll hcc hss hl kk => lv_astore_nN cx.1 cx.2.1 hd rfl hl hn hl' kk) K
theorem r_astoreN {i : Nat} (hd : decode X.2.1 pc = .ok (.astore i, 2)) (hn : i < X.2.2.1) (hl' : (i, Value.null) :: lo.filter (fun q => !(q.1 == i) && !(q.1 + 1 == i && q.2.category == 2)) = lo') (K : ab_E Rp X d (pc + 2) lo' st σ Q) : ab_E Rp X d pc lo (.null :: st) σ Q :=
  ab_E.go (fun l κ p e R s m args below meth c H locs cells slots Qq ls cx hdd hll hcc hss hl kk => lv_astoreN cx.1 cx.2.1 hd hl hn hl' kk) K
theorem r_iinc {i : Nat} {n : Int} {x v : Int32} (hd : decode X.2.1 pc = .ok (.iinc i n, 3)) (j : Nat) (hj : lo[j]? = some (i, .int x)) (hv : x + Int32.ofInt n = v) (hn : i < X.2.2.1) (hl' : (i, Value.int v) :: lo.filter (fun q => !(q.1 == i) && !(q.1 + 1 == i && q.2.category == 2)) = lo') (K : ab_E Rp X d (pc + 3) lo' st σ Q) : ab_E Rp X d pc lo st σ Q :=
  ab_E.go (fun l κ p e R s m args below meth c H locs cells slots Qq ls cx hdd hll hcc hss hl kk => lv_iinc cx.1 cx.2.1 hd hl hj hv hn hl' kk) K
theorem r_iadd {x y : Int32} (hd : decode X.2.1 pc = .ok (.iadd, 1)) (K : ab_E Rp X d (pc + 1) lo (.int (x + y) :: st) σ Q) : ab_E Rp X d pc lo (.int y :: .int x :: st) σ Q :=
  ab_E.go (fun l κ p e R s m args below meth c H locs cells slots Qq ls cx hdd hll hcc hss hl kk => lv_iadd cx.1 cx.2.1 hd (kk ls hl)) K
theorem r_isub {x y : Int32} (hd : decode X.2.1 pc = .ok (.isub, 1)) (K : ab_E Rp X d (pc + 1) lo (.int (x - y) :: st) σ Q) : ab_E Rp X d pc lo (.int y :: .int x :: st) σ Q :=
  ab_E.go (fun l κ p e R s m args below meth c H locs cells slots Qq ls cx hdd hll hcc hss hl kk => lv_isub cx.1 cx.2.1 hd (kk ls hl)) K
theorem r_imul {x y : Int32} (hd : decode X.2.1 pc = .ok (.imul, 1)) (K : ab_E Rp X d (pc + 1) lo (.int (x * y) :: st) σ Q) : ab_E Rp X d pc lo (.int y :: .int x :: st) σ Q :=
  ab_E.go (fun l κ p e R s m args below meth c H locs cells slots Qq ls cx hdd hll hcc hss hl kk => lv_imul cx.1 cx.2.1 hd (kk ls hl)) K
theorem r_iand {x y : Int32} (hd : decode X.2.1 pc = .ok (.iand, 1)) (K : ab_E Rp X d (pc + 1) lo (.int (x &&& y) :: st) σ Q) : ab_E Rp X d pc lo (.int y :: .int x :: st) σ Q :=
  ab_E.go (fun l κ p e R s m args below meth c H locs cells slots Qq ls cx hdd hll hcc hss hl kk => lv_iand cx.1 cx.2.1 hd (kk ls hl)) K
theorem r_ior {x y : Int32} (hd : decode X.2.1 pc = .ok (.ior, 1)) (K : ab_E Rp X d (pc + 1) lo (.int (x ||| y) :: st) σ Q) : ab_E Rp X d pc lo (.int y :: .int x :: st) σ Q :=
  ab_E.go (fun l κ p e R s m args below meth c H locs cells slots Qq ls cx hdd hll hcc hss hl kk => lv_ior cx.1 cx.2.1 hd (kk ls hl)) K
theorem r_ixor {x y : Int32} (hd : decode X.2.1 pc = .ok (.ixor, 1)) (K : ab_E Rp X d (pc + 1) lo (.int (x ^^^ y) :: st) σ Q) : ab_E Rp X d pc lo (.int y :: .int x :: st) σ Q :=
  ab_E.go (fun l κ p e R s m args below meth c H locs cells slots Qq ls cx hdd hll hcc hss hl kk => lv_ixor cx.1 cx.2.1 hd (kk ls hl)) K
theorem r_ishl {x y : Int32} (hd : decode X.2.1 pc = .ok (.ishl, 1)) (K : ab_E Rp X d (pc + 1) lo (.int (x <<< (y &&& 31)) :: st) σ Q) : ab_E Rp X d pc lo (.int y :: .int x :: st) σ Q :=
  ab_E.go (fun l κ p e R s m args below meth c H locs cells slots Qq ls cx hdd hll hcc hss hl kk => lv_ishl cx.1 cx.2.1 hd (kk ls hl)) K
theorem r_ishr {x y : Int32} (hd : decode X.2.1 pc = .ok (.ishr, 1)) (K : ab_E Rp X d (pc + 1) lo (.int (x >>> (y &&& 31)) :: st) σ Q) : ab_E Rp X d pc lo (.int y :: .int x :: st) σ Q :=
  ab_E.go (fun l κ p e R s m args below meth c H locs cells slots Qq ls cx hdd hll hcc hss hl kk => lv_ishr cx.1 cx.2.1 hd (kk ls hl)) K
theorem r_iushr {x y : Int32} (hd : decode X.2.1 pc = .ok (.iushr, 1)) (K : ab_E Rp X d (pc + 1) lo (.int (x.toUInt32 >>> (y.toUInt32 &&& Int32.toUInt32 31)).toInt32 :: st) σ Q) : ab_E Rp X d pc lo (.int y :: .int x :: st) σ Q :=
  ab_E.go (fun l κ p e R s m args below meth c H locs cells slots Qq ls cx hdd hll hcc hss hl kk => lv_iushr cx.1 cx.2.1 hd rfl (kk ls hl)) K
theorem r_idiv {x y : Int32} (hd : decode X.2.1 pc = .ok (.idiv, 1)) (hy : ¬ y = 0) (K : ab_E Rp X d (pc + 1) lo (.int (x / y) :: st) σ Q) : ab_E Rp X d pc lo (.int y :: .int x :: st) σ Q :=
  ab_E.go (fun l κ p e R s m args below meth c H locs cells slots Qq ls cx hdd hll hcc hss hl kk => lv_idiv cx.1 cx.2.1 hd hy (kk ls hl)) K
theorem r_irem {x y : Int32} (hd : decode X.2.1 pc = .ok (.irem, 1)) (hy : ¬ y = 0) (K : ab_E Rp X d (pc + 1) lo (.int (x - x / y * y) :: st) σ Q) : ab_E Rp X d pc lo (.int y :: .int x :: st) σ Q :=
  ab_E.go (fun l κ p e R s m args below meth c H locs cells slots Qq ls cx hdd hll hcc hss hl kk => lv_irem cx.1 cx.2.1 hd hy (kk ls hl)) K
theorem r_ladd {x y : Int64} (hd : decode X.2.1 pc = .ok (.ladd, 1)) (K : ab_E Rp X d (pc + 1) lo (.long (x + y) :: st) σ Q) : ab_E Rp X d pc lo (.long y :: .long x :: st) σ Q :=
  ab_E.go (fun l κ p e R s m args below meth c H locs cells slots Qq ls cx hdd hll hcc hss hl kk => lv_ladd cx.1 cx.2.1 hd (kk ls hl)) K
theorem r_lsub {x y : Int64} (hd : decode X.2.1 pc = .ok (.lsub, 1)) (K : ab_E Rp X d (pc + 1) lo (.long (x - y) :: st) σ Q) : ab_E Rp X d pc lo (.long y :: .long x :: st) σ Q :=
  ab_E.go (fun l κ p e R s m args below meth c H locs cells slots Qq ls cx hdd hll hcc hss hl kk => lv_lsub cx.1 cx.2.1 hd (kk ls hl)) K
theorem r_lmul {x y : Int64} (hd : decode X.2.1 pc = .ok (.lmul, 1)) (K : ab_E Rp X d (pc + 1) lo (.long (x * y) :: st) σ Q) : ab_E Rp X d pc lo (.long y :: .long x :: st) σ Q :=
  ab_E.go (fun l κ p e R s m args below meth c H locs cells slots Qq ls cx hdd hll hcc hss hl kk => lv_lmul cx.1 cx.2.1 hd (kk ls hl)) K
theorem r_lcmp {x y : Int64} (hd : decode X.2.1 pc = .ok (.lcmp, 1)) (K : ab_E Rp X d (pc + 1) lo (.int (lg_cmp x y) :: st) σ Q) : ab_E Rp X d pc lo (.long y :: .long x :: st) σ Q :=
  ab_E.go (fun l κ p e R s m args below meth c H locs cells slots Qq ls cx hdd hll hcc hss hl kk => W.lcmp cx.1 cx.2.1 hd (kk ls hl)) K
theorem r_i2l {x : Int32} (hd : decode X.2.1 pc = .ok (.i2l, 1)) (K : ab_E Rp X d (pc + 1) lo (.long x.toInt64 :: st) σ Q) : ab_E Rp X d pc lo (.int x :: st) σ Q :=
  ab_E.go (fun l κ p e R s m args below meth c H locs cells slots Qq ls cx hdd hll hcc hss hl kk => lv_i2l cx.1 cx.2.1 hd rfl (kk ls hl)) K
theorem r_l2i {x : Int64} (hd : decode X.2.1 pc = .ok (.l2i, 1)) (K : ab_E Rp X d (pc + 1) lo (.int x.toInt32 :: st) σ Q) : ab_E Rp X d pc lo (.long x :: st) σ Q :=
  ab_E.go (fun l κ p e R s m args below meth c H locs cells slots Qq ls cx hdd hll hcc hss hl kk => lv_l2i cx.1 cx.2.1 hd rfl (kk ls hl)) K
theorem r_dup {v : Value} (hd : decode X.2.1 pc = .ok (.dup, 1)) (hv : v.category = 1) (K : ab_E Rp X d (pc + 1) lo (v :: v :: st) σ Q) : ab_E Rp X d pc lo (v :: st) σ Q :=
  ab_E.go (fun l κ p e R s m args below meth c H locs cells slots Qq ls cx hdd hll hcc hss hl kk => lv_dup cx.1 cx.2.1 hd hv (kk ls hl)) K
theorem r_pop {v : Value} (hd : decode X.2.1 pc = .ok (.pop, 1)) (hv : v.category = 1) (K : ab_E Rp X d (pc + 1) lo st σ Q) : ab_E Rp X d pc lo (v :: st) σ Q :=
  ab_E.go (fun l κ p e R s m args below meth c H locs cells slots Qq ls cx hdd hll hcc hss hl kk => lv_pop cx.1 cx.2.1 hd hv (kk ls hl)) K
theorem r_dup2 {v w : Value} (hd : decode X.2.1 pc = .ok (.dup2, 1)) (hv : v.category = 1) (hw : w.category = 1) (K : ab_E Rp X d (pc + 1) lo (v :: w :: v :: w :: st) σ Q) : ab_E Rp X d pc lo (v :: w :: st) σ Q :=
  ab_E.go (fun l κ p e R s m args below meth c H locs cells slots Qq ls cx hdd hll hcc hss hl kk => lv_dup2_11 cx.1 cx.2.1 hd hv hw (kk ls hl)) K
theorem r_dupx1 {v w : Value} (hd : decode X.2.1 pc = .ok (.dup_x1, 1)) (hv : v.category = 1) (hw : w.category = 1) (K : ab_E Rp X d (pc + 1) lo (v :: w :: v :: st) σ Q) : ab_E Rp X d pc lo (v :: w :: st) σ Q :=
  ab_E.go (fun l κ p e R s m args below meth c H locs cells slots Qq ls cx hdd hll hcc hss hl kk => lv_dup_x1 cx.1 cx.2.1 hd hv hw (kk ls hl)) K
theorem r_goto {off : Int} {t : Nat} (hd : decode X.2.1 pc = .ok (.goto off, 3)) (ht : (pc : Int) + off = (t : Int)) (K : ab_E Rp X d t lo st σ Q) : ab_E Rp X d pc lo st σ Q :=
  ab_E.go (fun l κ p e R s m args below meth c H locs cells slots Qq ls cx hdd hll hcc hss hl kk => lv_goto cx.1 cx.2.1 hd ht (kk ls hl)) K
theorem r_if_eq {x : Int32} {off : Int} {t : Nat} (hd : decode X.2.1 pc = .ok (.ifCond .eq off, 3)) (ht : (pc : Int) + off = (t : Int)) (K1 : x = 0 → ab_E Rp X d t lo st σ Q) (K2 : ¬ (x = 0) → ab_E Rp X d (pc + 3) lo st σ Q) : ab_E Rp X d pc lo (.int x :: st) σ Q := by
  by_cases hc : x = 0
  · exact ab_E.go (fun l κ p e R s m args below meth c H locs cells slots Qq ls cx hdd hll hcc hss hl kk => lv_if_eq cx.1 cx.2.1 hd ht (fun _ => kk ls hl) (fun h => absurd hc h)) (K1 hc)
  · exact ab_E.go (fun l κ p e R s m args below meth c H locs cells slots Qq ls cx hdd hll hcc hss hl kk => lv_if_eq cx.1 cx.2.1 hd ht (fun h => absurd h hc) (fun _ => kk ls hl)) (K2 hc)
theorem r_icmp_eq {x y : Int32} {off : Int} {t : Nat} (hd : decode X.2.1 pc = .ok (.if_icmp .eq off, 3)) (ht : (pc : Int) + off = (t : Int)) (K1 : x = y → ab_E Rp X d t lo st σ Q) (K2 : ¬ (x = y) → ab_E Rp X d (pc + 3) lo st σ Q) : ab_E Rp X d pc lo (.int y :: .int x :: st) σ Q := by
  by_cases hc : x = y
  · exact ab_E.go (fun l κ p e R s m args below meth c H locs cells slots Qq ls cx hdd hll hcc hss hl kk => lv_icmp_eq cx.1 cx.2.1 hd ht (fun _ => kk ls hl) (fun h => absurd hc h)) (K1 hc)
  · exact ab_E.go (fun l κ p e R s m args below meth c H locs cells slots Qq ls cx hdd hll hcc hss hl kk => lv_icmp_eq cx.1 cx.2.1 hd ht (fun h => absurd h hc) (fun _ => kk ls hl)) (K2 hc)
theorem r_if_lt {x : Int32} {off : Int} {t : Nat} (hd : decode X.2.1 pc = .ok (.ifCond .lt off, 3)) (ht : (pc : Int) + off = (t : Int)) (K1 : x < 0 → ab_E Rp X d t lo st σ Q) (K2 : ¬ (x < 0) → ab_E Rp X d (pc + 3) lo st σ Q) : ab_E Rp X d pc lo (.int x :: st) σ Q := by
  by_cases hc : x < 0
  · exact ab_E.go (fun l κ p e R s m args below meth c H locs cells slots Qq ls cx hdd hll hcc hss hl kk => lv_if_lt cx.1 cx.2.1 hd ht (fun _ => kk ls hl) (fun h => absurd hc h)) (K1 hc)
  · exact ab_E.go (fun l κ p e R s m args below meth c H locs cells slots Qq ls cx hdd hll hcc hss hl kk => lv_if_lt cx.1 cx.2.1 hd ht (fun h => absurd h hc) (fun _ => kk ls hl)) (K2 hc)
theorem r_icmp_lt {x y : Int32} {off : Int} {t : Nat} (hd : decode X.2.1 pc = .ok (.if_icmp .lt off, 3)) (ht : (pc : Int) + off = (t : Int)) (K1 : x < y → ab_E Rp X d t lo st σ Q) (K2 : ¬ (x < y) → ab_E Rp X d (pc + 3) lo st σ Q) : ab_E Rp X d pc lo (.int y :: .int x :: st) σ Q := by
  by_cases hc : x < y
  · exact ab_E.go (fun l κ p e R s m args below meth c H locs cells slots Qq ls cx hdd hll hcc hss hl kk => lv_icmp_lt cx.1 cx.2.1 hd ht (fun _ => kk ls hl) (fun h => absurd hc h)) (K1 hc)
  · exact ab_E.go (fun l κ p e R s m args below meth c H locs cells slots Qq ls cx hdd hll hcc hss hl kk => lv_icmp_lt cx.1 cx.2.1 hd ht (fun h => absurd h hc) (fun _ => kk ls hl)) (K2 hc)
theorem r_if_ge {x : Int32} {off : Int} {t : Nat} (hd : decode X.2.1 pc = .ok (.ifCond .ge off, 3)) (ht : (pc : Int) + off = (t : Int)) (K1 : 0 ≤ x → ab_E Rp X d t lo st σ Q) (K2 : ¬ (0 ≤ x) → ab_E Rp X d (pc + 3) lo st σ Q) : ab_E Rp X d pc lo (.int x :: st) σ Q := by
  by_cases hc : 0 ≤ x
  · exact ab_E.go (fun l κ p e R s m args below meth c H locs cells slots Qq ls cx hdd hll hcc hss hl kk => lv_if_ge cx.1 cx.2.1 hd ht (fun _ => kk ls hl) (fun h => absurd hc h)) (K1 hc)
  · exact ab_E.go (fun l κ p e R s m args below meth c H locs cells slots Qq ls cx hdd hll hcc hss hl kk => lv_if_ge cx.1 cx.2.1 hd ht (fun h => absurd h hc) (fun _ => kk ls hl)) (K2 hc)
theorem r_icmp_ge {x y : Int32} {off : Int} {t : Nat} (hd : decode X.2.1 pc = .ok (.if_icmp .ge off, 3)) (ht : (pc : Int) + off = (t : Int)) (K1 : y ≤ x → ab_E Rp X d t lo st σ Q) (K2 : ¬ (y ≤ x) → ab_E Rp X d (pc + 3) lo st σ Q) : ab_E Rp X d pc lo (.int y :: .int x :: st) σ Q := by
  by_cases hc : y ≤ x
  · exact ab_E.go (fun l κ p e R s m args below meth c H locs cells slots Qq ls cx hdd hll hcc hss hl kk => lv_icmp_ge cx.1 cx.2.1 hd ht (fun _ => kk ls hl) (fun h => absurd hc h)) (K1 hc)
  · exact ab_E.go (fun l κ p e R s m args below meth c H locs cells slots Qq ls cx hdd hll hcc hss hl kk => lv_icmp_ge cx.1 cx.2.1 hd ht (fun h => absurd h hc) (fun _ => kk ls hl)) (K2 hc)
theorem r_if_gt {x : Int32} {off : Int} {t : Nat} (hd : decode X.2.1 pc = .ok (.ifCond .gt off, 3)) (ht : (pc : Int) + off = (t : Int)) (K1 : 0 < x → ab_E Rp X d t lo st σ Q) (K2 : ¬ (0 < x) → ab_E Rp X d (pc + 3) lo st σ Q) : ab_E Rp X d pc lo (.int x :: st) σ Q := by
  by_cases hc : 0 < x
  · exact ab_E.go (fun l κ p e R s m args below meth c H locs cells slots Qq ls cx hdd hll hcc hss hl kk => lv_if_gt cx.1 cx.2.1 hd ht (fun _ => kk ls hl) (fun h => absurd hc h)) (K1 hc)
  · exact ab_E.go (fun l κ p e R s m args below meth c H locs cells slots Qq ls cx hdd hll hcc hss hl kk => lv_if_gt cx.1 cx.2.1 hd ht (fun h => absurd h hc) (fun _ => kk ls hl)) (K2 hc)
theorem r_icmp_gt {x y : Int32} {off : Int} {t : Nat} (hd : decode X.2.1 pc = .ok (.if_icmp .gt off, 3)) (ht : (pc : Int) + off = (t : Int)) (K1 : y < x → ab_E Rp X d t lo st σ Q) (K2 : ¬ (y < x) → ab_E Rp X d (pc + 3) lo st σ Q) : ab_E Rp X d pc lo (.int y :: .int x :: st) σ Q := by
  by_cases hc : y < x
  · exact ab_E.go (fun l κ p e R s m args below meth c H locs cells slots Qq ls cx hdd hll hcc hss hl kk => lv_icmp_gt cx.1 cx.2.1 hd ht (fun _ => kk ls hl) (fun h => absurd hc h)) (K1 hc)
  · exact ab_E.go (fun l κ p e R s m args below meth c H locs cells slots Qq ls cx hdd hll hcc hss hl kk => lv_icmp_gt cx.1 cx.2.1 hd ht (fun h => absurd h hc) (fun _ => kk ls hl)) (K2 hc)
theorem r_if_le {x : Int32} {off : Int} {t : Nat} (hd : decode X.2.1 pc = .ok (.ifCond .le off, 3)) (ht : (pc : Int) + off = (t : Int)) (K1 : x ≤ 0 → ab_E Rp X d t lo st σ Q) (K2 : ¬ (x ≤ 0) → ab_E Rp X d (pc + 3) lo st σ Q) : ab_E Rp X d pc lo (.int x :: st) σ Q := by
  by_cases hc : x ≤ 0
  · exact ab_E.go (fun l κ p e R s m args below meth c H locs cells slots Qq ls cx hdd hll hcc hss hl kk => lv_if_le cx.1 cx.2.1 hd ht (fun _ => kk ls hl) (fun h => absurd hc h)) (K1 hc)
  · exact ab_E.go (fun l κ p e R s m args below meth c H locs cells slots Qq ls cx hdd hll hcc hss hl kk => lv_if_le cx.1 cx.2.1 hd ht (fun h => absurd h hc) (fun _ => kk ls hl)) (K2 hc)
theorem r_icmp_le {x y : Int32} {off : Int} {t : Nat} (hd : decode X.2.1 pc = .ok (.if_icmp .le off, 3)) (ht : (pc : Int) + off = (t : Int)) (K1 : x ≤ y → ab_E Rp X d t lo st σ Q) (K2 : ¬ (x ≤ y) → ab_E Rp X d (pc + 3) lo st σ Q) : ab_E Rp X d pc lo (.int y :: .int x :: st) σ Q := by
  by_cases hc : x ≤ y
  · exact ab_E.go (fun l κ p e R s m args below meth c H locs cells slots Qq ls cx hdd hll hcc hss hl kk => lv_icmp_le cx.1 cx.2.1 hd ht (fun _ => kk ls hl) (fun h => absurd hc h)) (K1 hc)
  · exact ab_E.go (fun l κ p e R s m args below meth c H locs cells slots Qq ls cx hdd hll hcc hss hl kk => lv_icmp_le cx.1 cx.2.1 hd ht (fun h => absurd h hc) (fun _ => kk ls hl)) (K2 hc)
theorem r_if_ne {x : Int32} {off : Int} {t : Nat} (hd : decode X.2.1 pc = .ok (.ifCond .ne off, 3)) (ht : (pc : Int) + off = (t : Int)) (K1 : ¬ (x = 0) → ab_E Rp X d t lo st σ Q) (K2 : x = 0 → ab_E Rp X d (pc + 3) lo st σ Q) : ab_E Rp X d pc lo (.int x :: st) σ Q := by
  by_cases hc : x = 0
  · exact ab_E.go (fun l κ p e R s m args below meth c H locs cells slots Qq ls cx hdd hll hcc hss hl kk => lv_if_ne cx.1 cx.2.1 hd ht (fun h => absurd hc h) (fun _ => kk ls hl)) (K2 hc)
  · exact ab_E.go (fun l κ p e R s m args below meth c H locs cells slots Qq ls cx hdd hll hcc hss hl kk => lv_if_ne cx.1 cx.2.1 hd ht (fun _ => kk ls hl) (fun h => absurd h hc)) (K1 hc)
theorem r_icmp_ne {x y : Int32} {off : Int} {t : Nat} (hd : decode X.2.1 pc = .ok (.if_icmp .ne off, 3)) (ht : (pc : Int) + off = (t : Int)) (K1 : ¬ (x = y) → ab_E Rp X d t lo st σ Q) (K2 : x = y → ab_E Rp X d (pc + 3) lo st σ Q) : ab_E Rp X d pc lo (.int y :: .int x :: st) σ Q := by
  by_cases hc : x = y
  · exact ab_E.go (fun l κ p e R s m args below meth c H locs cells slots Qq ls cx hdd hll hcc hss hl kk => lv_icmp_ne cx.1 cx.2.1 hd ht (fun h => absurd hc h) (fun _ => kk ls hl)) (K2 hc)
  · exact ab_E.go (fun l κ p e R s m args below meth c H locs cells slots Qq ls cx hdd hll hcc hss hl kk => lv_icmp_ne cx.1 cx.2.1 hd ht (fun _ => kk ls hl) (fun h => absurd h hc)) (K1 hc)
theorem r_acmp_eq {rx ry : Option Nat} {off : Int} {t : Nat} (hd : decode X.2.1 pc = .ok (.if_acmp .eq off, 3)) (ht : (pc : Int) + off = (t : Int)) (K1 : rx = ry → ab_E Rp X d t lo st σ Q) (K2 : ¬ (rx = ry) → ab_E Rp X d (pc + 3) lo st σ Q) : ab_E Rp X d pc lo (va_rf ry :: va_rf rx :: st) σ Q := by
  by_cases hc : rx = ry
  · exact ab_E.go (fun l κ p e R s m args below meth c H locs cells slots Qq ls cx hdd hll hcc hss hl kk => lv_acmp_eq cx.1 cx.2.1 hd ht (fun _ => kk ls hl) (fun h => absurd hc h)) (K1 hc)
  · exact ab_E.go (fun l κ p e R s m args below meth c H locs cells slots Qq ls cx hdd hll hcc hss hl kk => lv_acmp_eq cx.1 cx.2.1 hd ht (fun h => absurd h hc) (fun _ => kk ls hl)) (K2 hc)
theorem r_ifnull {x : Nat} {off : Int} (hd : decode X.2.1 pc = .ok (.ifnull off, 3)) (K : ab_E Rp X d (pc + 3) lo st σ Q) : ab_E Rp X d pc lo (.ref x :: st) σ Q :=
  ab_E.go (fun l κ p e R s m args below meth c H locs cells slots Qq ls cx hdd hll hcc hss hl kk => lv_ifnull cx.1 cx.2.1 hd (kk ls hl)) K
theorem r_ifnullN {off : Int} {t : Nat} (hd : decode X.2.1 pc = .ok (.ifnull off, 3)) (ht : (pc : Int) + off = (t : Int)) (K : ab_E Rp X d t lo st σ Q) : ab_E Rp X d pc lo (.null :: st) σ Q :=
  ab_E.go (fun l κ p e R s m args below meth c H locs cells slots Qq ls cx hdd hll hcc hss hl kk => lv_ifnullN cx.1 cx.2.1 hd ht (kk ls hl)) K
theorem r_ifnonnull {x : Nat} {off : Int} {t : Nat} (hd : decode X.2.1 pc = .ok (.ifnonnull off, 3)) (ht : (pc : Int) + off = (t : Int)) (K : ab_E Rp X d t lo st σ Q) : ab_E Rp X d pc lo (.ref x :: st) σ Q :=
  ab_E.go (fun l κ p e R s m args below meth c H locs cells slots Qq ls cx hdd hll hcc hss hl kk => lv_ifnonnull cx.1 cx.2.1 hd ht (kk ls hl)) K
theorem r_ifnonnullN {off : Int} (hd : decode X.2.1 pc = .ok (.ifnonnull off, 3)) (K : ab_E Rp X d (pc + 3) lo st σ Q) : ab_E Rp X d pc lo (.null :: st) σ Q :=
  ab_E.go (fun l κ p e R s m args below meth c H locs cells slots Qq ls cx hdd hll hcc hss hl kk => lv_ifnonnullN cx.1 cx.2.1 hd (kk ls hl)) K
theorem r_tableOut {df lw hw : Int} {offs : Array Int} {len : Nat} {x : Int32} {t : Nat} (hd : decode X.2.1 pc = .ok (.tableswitch df lw hw offs, len)) (h : x.toInt < lw ∨ hw < x.toInt) (ht : (pc : Int) + df = (t : Int)) (K : ab_E Rp X d t lo st σ Q) : ab_E Rp X d pc lo (.int x :: st) σ Q :=
  ab_E.go (fun l κ p e R s m args below meth c H locs cells slots Qq ls cx hdd hll hcc hss hl kk => lv_tableOut cx.1 cx.2.1 hd h ht (kk ls hl)) K
theorem r_tableIn {df lw hw : Int} {offs : Array Int} {len : Nat} {x : Int32} {off : Int} {t : Nat} (hd : decode X.2.1 pc = .ok (.tableswitch df lw hw offs, len)) (h1 : ¬ x.toInt < lw) (h2 : ¬ hw < x.toInt) (ho : offs[(x.toInt - lw).toNat]? = some off) (ht : (pc : Int) + off = (t : Int)) (K : ab_E Rp X d t lo st σ Q) : ab_E Rp X d pc lo (.int x :: st) σ Q :=
  ab_E.go (fun l κ p e R s m args below meth c H locs cells slots Qq ls cx hdd hll hcc hss hl kk => lv_tableIn cx.1 cx.2.1 hd h1 h2 ho ht (kk ls hl)) K
theorem r_min {i : Nat} {x y : Int32} (hd : decode X.2.1 pc = .ok (.invokestatic i, 3)) (h0 : 1 ≤ d) (hw : Cond.methodLink X.1.cls i Lib.Math.min.name ∈ ab_tb) (hs : Cond.static Lib.Math.min.name ∈ ab_tb) (hi : Cond.initialized "java/lang/Math" ∈ ab_tb) (hco : Cond.code Lib.Math.min.name Lib.Math.min.code 2 (some .int) ∈ ab_tb) (hr : (st.map fun v => v.category).sum ≤ 20) (K : ab_E Rp X d (pc + 3) lo (.int (if y < x then y else x) :: st) σ Q) : ab_E Rp X d pc lo (.int y :: .int x :: st) σ Q :=
  ab_E.go (fun l κ p e R s m args below meth c H locs cells slots Qq ls cx hdd hll hcc hss hl kk => va_mmin cx.1 cx.2.1 (cx.2.2.1.trans hl.1.symm) cx.2.2.2.2.2.1 (cx.2.2.2.2.2.2.2.1 _ hw) (cx.2.2.2.2.2.2.2.1 _ hs) (cx.2.2.2.2.2.2.2.1 _ hi) (cx.2.2.2.2.2.2.2.1 _ hco) (Nat.le_trans h0 hdd) (by omega) hcc hss hd (kk ls hl)) K
theorem r_max {i : Nat} {x y : Int32} (hd : decode X.2.1 pc = .ok (.invokestatic i, 3)) (h0 : 1 ≤ d) (hw : Cond.methodLink X.1.cls i Lib.Math.max.name ∈ ab_tb) (hs : Cond.static Lib.Math.max.name ∈ ab_tb) (hi : Cond.initialized "java/lang/Math" ∈ ab_tb) (hco : Cond.code Lib.Math.max.name Lib.Math.max.code 2 (some .int) ∈ ab_tb) (hr : (st.map fun v => v.category).sum ≤ 20) (K : ab_E Rp X d (pc + 3) lo (.int (if x < y then y else x) :: st) σ Q) : ab_E Rp X d pc lo (.int y :: .int x :: st) σ Q :=
  ab_E.go (fun l κ p e R s m args below meth c H locs cells slots Qq ls cx hdd hll hcc hss hl kk => va_mmax cx.1 cx.2.1 (cx.2.2.1.trans hl.1.symm) cx.2.2.2.2.2.1 (cx.2.2.2.2.2.2.2.1 _ hw) (cx.2.2.2.2.2.2.2.1 _ hs) (cx.2.2.2.2.2.2.2.1 _ hi) (cx.2.2.2.2.2.2.2.1 _ hco) (Nat.le_trans h0 hdd) (by omega) hcc hss hd (kk ls hl)) K
theorem r_iret {v : Int32} (hr : X.2.2.2 = some .int) (hd : decode X.2.1 pc = .ok (.ireturn, 1)) (hq : Q (some (.int v)) σ) : ab_E Rp X d pc lo [.int v] σ Q := by
  intro g hg
  refine ⟨some (.int v), g, σ, ⟨Nat.le_refl _, Nat.le_refl _, ?_⟩, hg, hq⟩
  intro l κ p e R s m args below meth c c0 s0 H locs ls cx hdd hll hcc hss hc0 hs0 hH hS hlo
  exact W.iret cx.1 cx.2.1 (cx.2.2.2.1.trans hr) (fun t ht hW => ⟨rfl, by rw [ht]; exact hH, hS.F ht⟩) hS.2.2 hd (hlocks := cx.2.2.2.2.1)
theorem r_zret {v : Int32} {ty : FieldType} (hr : X.2.2.2 = some ty) (hn : narrow ty (.int v) = .int v) (hd : decode X.2.1 pc = .ok (.ireturn, 1)) (hq : Q (some (.int v)) σ) : ab_E Rp X d pc lo [.int v] σ Q := by
  intro g hg
  refine ⟨some (.int v), g, σ, ⟨Nat.le_refl _, Nat.le_refl _, ?_⟩, hg, hq⟩
  intro l κ p e R s m args below meth c c0 s0 H locs ls cx hdd hll hcc hss hc0 hs0 hH hS hlo
  exact W.zret cx.1 cx.2.1 (cx.2.2.2.1.trans hr) hn (fun t ht hW => ⟨rfl, by rw [ht]; exact hH, hS.F ht⟩) hS.2.2 hd (hlocks := cx.2.2.2.2.1)
theorem r_vret (hr : X.2.2.2 = none) (hd : decode X.2.1 pc = .ok (.return_, 1)) (hq : Q (none) σ) : ab_E Rp X d pc lo [] σ Q := by
  intro g hg
  refine ⟨none, g, σ, ⟨Nat.le_refl _, Nat.le_refl _, ?_⟩, hg, hq⟩
  intro l κ p e R s m args below meth c c0 s0 H locs ls cx hdd hll hcc hss hc0 hs0 hH hS hlo
  exact W.vret cx.1 cx.2.1 (cx.2.2.2.1.trans hr) (fun t ht hW => ⟨rfl, by rw [ht]; exact hH, hS.F ht⟩) hS.2.2 hd (hlocks := cx.2.2.2.2.1)
theorem r_lret {v : Int64} (hr : X.2.2.2 = some .long) (hd : decode X.2.1 pc = .ok (.lreturn, 1)) (hq : Q (some (.long v)) σ) : ab_E Rp X d pc lo [.long v] σ Q := by
  intro g hg
  refine ⟨some (.long v), g, σ, ⟨Nat.le_refl _, Nat.le_refl _, ?_⟩, hg, hq⟩
  intro l κ p e R s m args below meth c c0 s0 H locs ls cx hdd hll hcc hss hc0 hs0 hH hS hlo
  exact W.lret cx.1 cx.2.1 (cx.2.2.2.1.trans hr) (fun t ht hW => ⟨rfl, by rw [ht]; exact hH, hS.F ht⟩) hS.2.2 hd (hlocks := cx.2.2.2.2.1)
theorem r_aret {v : Value} {rt : FieldType} (hr : X.2.2.2 = some rt) (hrt : (∃ n, rt = .object n) ∨ ∃ t, rt = .array t) (hv : v = .null ∨ ∃ a, v = .ref a) (hd : decode X.2.1 pc = .ok (.areturn, 1)) (hq : Q (some v) σ) : ab_E Rp X d pc lo [v] σ Q := by
  intro g hg
  refine ⟨some v, g, σ, ⟨Nat.le_refl _, Nat.le_refl _, ?_⟩, hg, hq⟩
  intro l κ p e R s m args below meth c c0 s0 H locs ls cx hdd hll hcc hss hc0 hs0 hH hS hlo
  exact W.aret cx.1 cx.2.1 (cx.2.2.2.1.trans hr) hrt hv (fun t ht hW => ⟨rfl, by rw [ht]; exact hH, hS.F ht⟩) hS.2.2 hd (hlocks := cx.2.2.2.2.1)
end ABR
