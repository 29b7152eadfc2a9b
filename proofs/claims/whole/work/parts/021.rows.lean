section Rows
variable {E : EE} {lay : List Shp} {p : Program} {l : Launch} {e : Env} {R : Room} {s : State} {m : MethodId} {args : Array Value} {below : List Frame} {meth : Method} {c : Code} {cc : ByteArray} {own : String} {nL cells slots : Nat} {Q : State → Prop} {pc : Nat} {L L' : List (Nat × Value)} {st : List Value} {σ : St}
theorem r_iconst (X : Cx E lay p s m args c cc own nL) {n : Int} {v : Int32} (hd : decode cc pc = .ok (.iconst n, 1)) (hv : Int32.ofInt n = v) (k : AW E lay p l e R s m args below meth c nL cells slots Q (pc + 1) L (.int v :: st) σ) : AW E lay p l e R s m args below meth c nL cells slots Q pc L st σ :=
  fun H locs ls hP hS hl => lv_iconst X.1 X.2.1 hd hv (k H locs ls hP hS hl)
theorem r_bipush (X : Cx E lay p s m args c cc own nL) {n : Int} {v : Int32} (hd : decode cc pc = .ok (.bipush n, 2)) (hv : (Int8.ofInt n).toInt32 = v) (k : AW E lay p l e R s m args below meth c nL cells slots Q (pc + 2) L (.int v :: st) σ) : AW E lay p l e R s m args below meth c nL cells slots Q pc L st σ :=
  fun H locs ls hP hS hl => lv_bipush X.1 X.2.1 hd hv (k H locs ls hP hS hl)
theorem r_sipush (X : Cx E lay p s m args c cc own nL) {n : Int} {v : Int32} (hd : decode cc pc = .ok (.sipush n, 3)) (hv : (Int16.ofInt n).toInt32 = v) (k : AW E lay p l e R s m args below meth c nL cells slots Q (pc + 3) L (.int v :: st) σ) : AW E lay p l e R s m args below meth c nL cells slots Q pc L st σ :=
  fun H locs ls hP hS hl => lv_sipush X.1 X.2.1 hd hv (k H locs ls hP hS hl)
theorem r_ldc (X : Cx E lay p s m args c cc own nL) {i : Nat} {v : Int32} (hd : decode cc pc = .ok (.ldc i, 2)) (hw : Cond.constant own i v ∈ gw) (k : AW E lay p l e R s m args below meth c nL cells slots Q (pc + 2) L (.int v :: st) σ) : AW E lay p l e R s m args below meth c nL cells slots Q pc L st σ :=
  fun H locs ls hP hS hl => lv_ldc X.1 X.2.1 X.2.2.2.1 (X.2.2.2.2.1 _ hw) hd (k H locs ls hP hS hl)
theorem r_ldcw (X : Cx E lay p s m args c cc own nL) {i : Nat} {v : Int32} (hd : decode cc pc = .ok (.ldc_w i, 3)) (hw : Cond.constant own i v ∈ gw) (k : AW E lay p l e R s m args below meth c nL cells slots Q (pc + 3) L (.int v :: st) σ) : AW E lay p l e R s m args below meth c nL cells slots Q pc L st σ :=
  fun H locs ls hP hS hl => lv_ldcw X.1 X.2.1 X.2.2.2.1 (X.2.2.2.2.1 _ hw) hd (k H locs ls hP hS hl)
theorem r_ldc2 (X : Cx E lay p s m args c cc own nL) {i : Nat} {v : Int64} (hd : decode cc pc = .ok (.ldc2_w i, 3)) (hw : Cond.constantLong own i v ∈ gw) (k : AW E lay p l e R s m args below meth c nL cells slots Q (pc + 3) L (.long v :: st) σ) : AW E lay p l e R s m args below meth c nL cells slots Q pc L st σ :=
  fun H locs ls hP hS hl => lv_ldc2 X.1 X.2.1 X.2.2.2.1 (X.2.2.2.2.1 _ hw) hd (k H locs ls hP hS hl)
theorem r_iload_n (X : Cx E lay p s m args c cc own nL) {i : Fin 4} {j : Nat} {x : Int32} (hd : decode cc pc = .ok (.iload_n i, 1)) (q : Nat) (hk : L[q]? = some (j, .int x)) (hi : (i : Nat) = j) (k : AW E lay p l e R s m args below meth c nL cells slots Q (pc + 1) L (.int x :: st) σ) : AW E lay p l e R s m args below meth c nL cells slots Q pc L st σ :=
  fun H locs ls hP hS hl => lv_iload_n X.1 X.2.1 hd hi (lv_at hl q hk) (k H locs ls hP hS hl)
theorem r_iload (X : Cx E lay p s m args c cc own nL) {j : Nat} {x : Int32} (hd : decode cc pc = .ok (.iload j, 2)) (q : Nat) (hk : L[q]? = some (j, .int x)) (k : AW E lay p l e R s m args below meth c nL cells slots Q (pc + 2) L (.int x :: st) σ) : AW E lay p l e R s m args below meth c nL cells slots Q pc L st σ :=
  fun H locs ls hP hS hl => lv_iload X.1 X.2.1 hd (lv_at hl q hk) (k H locs ls hP hS hl)
theorem r_lload_n (X : Cx E lay p s m args c cc own nL) {i : Fin 4} {j : Nat} {x : Int64} (hd : decode cc pc = .ok (.lload_n i, 1)) (q : Nat) (hk : L[q]? = some (j, .long x)) (hi : (i : Nat) = j) (k : AW E lay p l e R s m args below meth c nL cells slots Q (pc + 1) L (.long x :: st) σ) : AW E lay p l e R s m args below meth c nL cells slots Q pc L st σ :=
  fun H locs ls hP hS hl => lv_lload_n X.1 X.2.1 hd hi (lv_at hl q hk) (k H locs ls hP hS hl)
theorem r_aload_n (X : Cx E lay p s m args c cc own nL) {i : Fin 4} {j : Nat} {x : Nat} (hd : decode cc pc = .ok (.aload_n i, 1)) (q : Nat) (hk : L[q]? = some (j, .ref x)) (hi : (i : Nat) = j) (k : AW E lay p l e R s m args below meth c nL cells slots Q (pc + 1) L (.ref x :: st) σ) : AW E lay p l e R s m args below meth c nL cells slots Q pc L st σ :=
  fun H locs ls hP hS hl => lv_aload_n X.1 X.2.1 hd hi (lv_at hl q hk) (k H locs ls hP hS hl)
theorem r_aload (X : Cx E lay p s m args c cc own nL) {j : Nat} {x : Nat} (hd : decode cc pc = .ok (.aload j, 2)) (q : Nat) (hk : L[q]? = some (j, .ref x)) (k : AW E lay p l e R s m args below meth c nL cells slots Q (pc + 2) L (.ref x :: st) σ) : AW E lay p l e R s m args below meth c nL cells slots Q pc L st σ :=
  fun H locs ls hP hS hl => lv_aload X.1 X.2.1 hd (lv_at hl q hk) (k H locs ls hP hS hl)
theorem r_istore_n (X : Cx E lay p s m args c cc own nL) {i : Fin 4} {j : Nat} {x : Int32} (hd : decode cc pc = .ok (.istore_n i, 1)) (ks : List Nat) (hL : lv_pick ((j, Value.int x) :: L.filter (fun q => !(q.1 == j) && !(q.1 + 1 == j && q.2.category == 2))) ks = L') (hi : (i : Nat) = j) (hn : j < nL) (k : AW E lay p l e R s m args below meth c nL cells slots Q (pc + 1) L' st σ) : AW E lay p l e R s m args below meth c nL cells slots Q pc L (.int x :: st) σ :=
  fun H locs ls hP hS hl => lv_istore_n X.1 X.2.1 hd hi hl hn rfl (fun ls' hl' => k H locs ls' hP hS (lv_sub hl' ks hL))
theorem r_istore (X : Cx E lay p s m args c cc own nL) {j : Nat} {x : Int32} (hd : decode cc pc = .ok (.istore j, 2)) (ks : List Nat) (hL : lv_pick ((j, Value.int x) :: L.filter (fun q => !(q.1 == j) && !(q.1 + 1 == j && q.2.category == 2))) ks = L') (hn : j < nL) (k : AW E lay p l e R s m args below meth c nL cells slots Q (pc + 2) L' st σ) : AW E lay p l e R s m args below meth c nL cells slots Q pc L (.int x :: st) σ :=
  fun H locs ls hP hS hl => lv_istore X.1 X.2.1 hd hl hn rfl (fun ls' hl' => k H locs ls' hP hS (lv_sub hl' ks hL))
theorem r_astore_n (X : Cx E lay p s m args c cc own nL) {i : Fin 4} {j : Nat} {x : Nat} (hd : decode cc pc = .ok (.astore_n i, 1)) (ks : List Nat) (hL : lv_pick ((j, Value.ref x) :: L.filter (fun q => !(q.1 == j) && !(q.1 + 1 == j && q.2.category == 2))) ks = L') (hi : (i : Nat) = j) (hn : j < nL) (k : AW E lay p l e R s m args below meth c nL cells slots Q (pc + 1) L' st σ) : AW E lay p l e R s m args below meth c nL cells slots Q pc L (.ref x :: st) σ :=
  fun H locs ls hP hS hl => lv_astore_n X.1 X.2.1 hd hi hl hn rfl (fun ls' hl' => k H locs ls' hP hS (lv_sub hl' ks hL))
theorem r_astore (X : Cx E lay p s m args c cc own nL) {j : Nat} {x : Nat} (hd : decode cc pc = .ok (.astore j, 2)) (ks : List Nat) (hL : lv_pick ((j, Value.ref x) :: L.filter (fun q => !(q.1 == j) && !(q.1 + 1 == j && q.2.category == 2))) ks = L') (hn : j < nL) (k : AW E lay p l e R s m args below meth c nL cells slots Q (pc + 2) L' st σ) : AW E lay p l e R s m args below meth c nL cells slots Q pc L (.ref x :: st) σ :=
  fun H locs ls hP hS hl => lv_astore X.1 X.2.1 hd hl hn rfl (fun ls' hl' => k H locs ls' hP hS (lv_sub hl' ks hL))
theorem r_iinc (X : Cx E lay p s m args c cc own nL) {j : Nat} {n : Int} {x v : Int32} (hd : decode cc pc = .ok (.iinc j n, 3)) (q : Nat) (hk : L[q]? = some (j, .int x)) (hv : x + Int32.ofInt n = v) (ks : List Nat) (hL : lv_pick ((j, Value.int v) :: L.filter (fun q => !(q.1 == j) && !(q.1 + 1 == j && q.2.category == 2))) ks = L') (hn : j < nL) (k : AW E lay p l e R s m args below meth c nL cells slots Q (pc + 3) L' st σ) : AW E lay p l e R s m args below meth c nL cells slots Q pc L st σ :=
  fun H locs ls hP hS hl => lv_iinc X.1 X.2.1 hd hl hk hv hn rfl (fun ls' hl' => k H locs ls' hP hS (lv_sub hl' ks hL))
/-- fewer locals -/
theorem r_sub (ks : List Nat) (hL : lv_pick L ks = L') (k : AW E lay p l e R s m args below meth c nL cells slots Q pc L' st σ) : AW E lay p l e R s m args below meth c nL cells slots Q pc L st σ :=
  fun H locs ls hP hS hl => k H locs ls hP hS (lv_sub hl ks hL)
theorem r_iadd (X : Cx E lay p s m args c cc own nL) {x y : Int32} (hd : decode cc pc = .ok (.iadd, 1)) (k : AW E lay p l e R s m args below meth c nL cells slots Q (pc + 1) L (.int (x + y) :: st) σ) : AW E lay p l e R s m args below meth c nL cells slots Q pc L (.int y :: .int x :: st) σ :=
  fun H locs ls hP hS hl => lv_iadd X.1 X.2.1 hd (k H locs ls hP hS hl)
theorem r_isub (X : Cx E lay p s m args c cc own nL) {x y : Int32} (hd : decode cc pc = .ok (.isub, 1)) (k : AW E lay p l e R s m args below meth c nL cells slots Q (pc + 1) L (.int (x - y) :: st) σ) : AW E lay p l e R s m args below meth c nL cells slots Q pc L (.int y :: .int x :: st) σ :=
  fun H locs ls hP hS hl => lv_isub X.1 X.2.1 hd (k H locs ls hP hS hl)
theorem r_imul (X : Cx E lay p s m args c cc own nL) {x y : Int32} (hd : decode cc pc = .ok (.imul, 1)) (k : AW E lay p l e R s m args below meth c nL cells slots Q (pc + 1) L (.int (x * y) :: st) σ) : AW E lay p l e R s m args below meth c nL cells slots Q pc L (.int y :: .int x :: st) σ :=
  fun H locs ls hP hS hl => lv_imul X.1 X.2.1 hd (k H locs ls hP hS hl)
theorem r_iand (X : Cx E lay p s m args c cc own nL) {x y : Int32} (hd : decode cc pc = .ok (.iand, 1)) (k : AW E lay p l e R s m args below meth c nL cells slots Q (pc + 1) L (.int (x &&& y) :: st) σ) : AW E lay p l e R s m args below meth c nL cells slots Q pc L (.int y :: .int x :: st) σ :=
  fun H locs ls hP hS hl => lv_iand X.1 X.2.1 hd (k H locs ls hP hS hl)
theorem r_ior (X : Cx E lay p s m args c cc own nL) {x y : Int32} (hd : decode cc pc = .ok (.ior, 1)) (k : AW E lay p l e R s m args below meth c nL cells slots Q (pc + 1) L (.int (x ||| y) :: st) σ) : AW E lay p l e R s m args below meth c nL cells slots Q pc L (.int y :: .int x :: st) σ :=
  fun H locs ls hP hS hl => lv_ior X.1 X.2.1 hd (k H locs ls hP hS hl)
theorem r_ixor (X : Cx E lay p s m args c cc own nL) {x y : Int32} (hd : decode cc pc = .ok (.ixor, 1)) (k : AW E lay p l e R s m args below meth c nL cells slots Q (pc + 1) L (.int (x ^^^ y) :: st) σ) : AW E lay p l e R s m args below meth c nL cells slots Q pc L (.int y :: .int x :: st) σ :=
  fun H locs ls hP hS hl => lv_ixor X.1 X.2.1 hd (k H locs ls hP hS hl)
theorem r_ineg (X : Cx E lay p s m args c cc own nL) {x : Int32} (hd : decode cc pc = .ok (.ineg, 1)) (k : AW E lay p l e R s m args below meth c nL cells slots Q (pc + 1) L (.int (-x) :: st) σ) : AW E lay p l e R s m args below meth c nL cells slots Q pc L (.int x :: st) σ :=
  fun H locs ls hP hS hl => lv_ineg X.1 X.2.1 hd (k H locs ls hP hS hl)
theorem r_idiv (X : Cx E lay p s m args c cc own nL) {x y : Int32} (hd : decode cc pc = .ok (.idiv, 1)) (hne : ¬ y = 0) (k : AW E lay p l e R s m args below meth c nL cells slots Q (pc + 1) L (.int (x / y) :: st) σ) : AW E lay p l e R s m args below meth c nL cells slots Q pc L (.int y :: .int x :: st) σ :=
  fun H locs ls hP hS hl => lv_idiv X.1 X.2.1 hd hne (k H locs ls hP hS hl)
theorem r_irem (X : Cx E lay p s m args c cc own nL) {x y : Int32} (hd : decode cc pc = .ok (.irem, 1)) (hne : ¬ y = 0) (k : AW E lay p l e R s m args below meth c nL cells slots Q (pc + 1) L (.int (x - x / y * y) :: st) σ) : AW E lay p l e R s m args below meth c nL cells slots Q pc L (.int y :: .int x :: st) σ :=
  fun H locs ls hP hS hl => lv_irem X.1 X.2.1 hd hne (k H locs ls hP hS hl)
theorem r_ishl (X : Cx E lay p s m args c cc own nL) {x y : Int32} (hd : decode cc pc = .ok (.ishl, 1)) (k : AW E lay p l e R s m args below meth c nL cells slots Q (pc + 1) L (.int (x <<< (y &&& 31)) :: st) σ) : AW E lay p l e R s m args below meth c nL cells slots Q pc L (.int y :: .int x :: st) σ :=
  fun H locs ls hP hS hl => lv_ishl X.1 X.2.1 hd (k H locs ls hP hS hl)
theorem r_ishr (X : Cx E lay p s m args c cc own nL) {x y : Int32} (hd : decode cc pc = .ok (.ishr, 1)) (k : AW E lay p l e R s m args below meth c nL cells slots Q (pc + 1) L (.int (x >>> (y &&& 31)) :: st) σ) : AW E lay p l e R s m args below meth c nL cells slots Q pc L (.int y :: .int x :: st) σ :=
  fun H locs ls hP hS hl => lv_ishr X.1 X.2.1 hd (k H locs ls hP hS hl)
theorem r_iushr (X : Cx E lay p s m args c cc own nL) {x y : Int32} (hd : decode cc pc = .ok (.iushr, 1)) (k : AW E lay p l e R s m args below meth c nL cells slots Q (pc + 1) L (.int (x.toUInt32 >>> (y.toUInt32 &&& Int32.toUInt32 31)).toInt32 :: st) σ) : AW E lay p l e R s m args below meth c nL cells slots Q pc L (.int y :: .int x :: st) σ :=
  fun H locs ls hP hS hl => lv_iushr X.1 X.2.1 hd rfl (k H locs ls hP hS hl)
theorem r_lushr (X : Cx E lay p s m args c cc own nL) {x : Int64} {y : Int32} (hd : decode cc pc = .ok (.lushr, 1)) (k : AW E lay p l e R s m args below meth c nL cells slots Q (pc + 1) L (.long (x.toUInt64 >>> (y.toInt64.toUInt64 &&& Int64.toUInt64 63)).toInt64 :: st) σ) : AW E lay p l e R s m args below meth c nL cells slots Q pc L (.int y :: .long x :: st) σ :=
  fun H locs ls hP hS hl => lv_lushr X.1 X.2.1 hd rfl (k H locs ls hP hS hl)
theorem r_lshr (X : Cx E lay p s m args c cc own nL) {x : Int64} {y : Int32} (hd : decode cc pc = .ok (.lshr, 1)) (k : AW E lay p l e R s m args below meth c nL cells slots Q (pc + 1) L (.long (x >>> (y.toInt64 &&& 63)) :: st) σ) : AW E lay p l e R s m args below meth c nL cells slots Q pc L (.int y :: .long x :: st) σ :=
  fun H locs ls hP hS hl => lv_lshr X.1 X.2.1 hd rfl (k H locs ls hP hS hl)
theorem r_land (X : Cx E lay p s m args c cc own nL) {x y : Int64} (hd : decode cc pc = .ok (.land, 1)) (k : AW E lay p l e R s m args below meth c nL cells slots Q (pc + 1) L (.long (x &&& y) :: st) σ) : AW E lay p l e R s m args below meth c nL cells slots Q pc L (.long y :: .long x :: st) σ :=
  fun H locs ls hP hS hl => lv_land X.1 X.2.1 hd (k H locs ls hP hS hl)
theorem r_l2i (X : Cx E lay p s m args c cc own nL) {x : Int64} (hd : decode cc pc = .ok (.l2i, 1)) (k : AW E lay p l e R s m args below meth c nL cells slots Q (pc + 1) L (.int x.toInt32 :: st) σ) : AW E lay p l e R s m args below meth c nL cells slots Q pc L (.long x :: st) σ :=
  fun H locs ls hP hS hl => lv_l2i X.1 X.2.1 hd rfl (k H locs ls hP hS hl)
theorem r_i2b (X : Cx E lay p s m args c cc own nL) {x : Int32} (hd : decode cc pc = .ok (.i2b, 1)) (k : AW E lay p l e R s m args below meth c nL cells slots Q (pc + 1) L (.int x.toInt8.toInt32 :: st) σ) : AW E lay p l e R s m args below meth c nL cells slots Q pc L (.int x :: st) σ :=
  fun H locs ls hP hS hl => lv_i2b X.1 X.2.1 hd rfl (k H locs ls hP hS hl)
theorem r_i2s (X : Cx E lay p s m args c cc own nL) {x : Int32} (hd : decode cc pc = .ok (.i2s, 1)) (k : AW E lay p l e R s m args below meth c nL cells slots Q (pc + 1) L (.int x.toInt16.toInt32 :: st) σ) : AW E lay p l e R s m args below meth c nL cells slots Q pc L (.int x :: st) σ :=
  fun H locs ls hP hS hl => lv_i2s X.1 X.2.1 hd rfl (k H locs ls hP hS hl)
theorem r_dup (X : Cx E lay p s m args c cc own nL) {v : Value} (hd : decode cc pc = .ok (.dup, 1)) (hv : v.category = 1) (k : AW E lay p l e R s m args below meth c nL cells slots Q (pc + 1) L (v :: v :: st) σ) : AW E lay p l e R s m args below meth c nL cells slots Q pc L (v :: st) σ :=
  fun H locs ls hP hS hl => lv_dup X.1 X.2.1 hd hv (k H locs ls hP hS hl)
theorem r_dup2 (X : Cx E lay p s m args c cc own nL) {v w : Value} (hd : decode cc pc = .ok (.dup2, 1)) (hv : v.category = 1) (hw : w.category = 1) (k : AW E lay p l e R s m args below meth c nL cells slots Q (pc + 1) L (v :: w :: v :: w :: st) σ) : AW E lay p l e R s m args below meth c nL cells slots Q pc L (v :: w :: st) σ :=
  fun H locs ls hP hS hl => lv_dup2_11 X.1 X.2.1 hd hv hw (k H locs ls hP hS hl)
theorem r_pop (X : Cx E lay p s m args c cc own nL) {v : Value} (hd : decode cc pc = .ok (.pop, 1)) (hv : v.category = 1) (k : AW E lay p l e R s m args below meth c nL cells slots Q (pc + 1) L st σ) : AW E lay p l e R s m args below meth c nL cells slots Q pc L (v :: st) σ :=
  fun H locs ls hP hS hl => lv_pop X.1 X.2.1 hd hv (k H locs ls hP hS hl)
theorem r_goto (X : Cx E lay p s m args c cc own nL) {off : Int} (tgt : Nat) (hd : decode cc pc = .ok (.goto off, 3)) (ht : (pc : Int) + off = (tgt : Int)) (k : AW E lay p l e R s m args below meth c nL cells slots Q tgt L st σ) : AW E lay p l e R s m args below meth c nL cells slots Q pc L st σ :=
  fun H locs ls hP hS hl => lv_goto X.1 X.2.1 hd ht (k H locs ls hP hS hl)
theorem r_icmp_eq (X : Cx E lay p s m args c cc own nL) {x y : Int32} {off : Int} (tgt : Nat) (hd : decode cc pc = .ok (.if_icmp .eq off, 3)) (ht : (pc : Int) + off = (tgt : Int)) (kt : x = y → AW E lay p l e R s m args below meth c nL cells slots Q tgt L st σ) (kf : ¬ x = y → AW E lay p l e R s m args below meth c nL cells slots Q (pc + 3) L st σ) : AW E lay p l e R s m args below meth c nL cells slots Q pc L (.int y :: .int x :: st) σ :=
  fun H locs ls hP hS hl => lv_icmp_eq X.1 X.2.1 hd ht (fun h => kt h H locs ls hP hS hl) (fun h => kf h H locs ls hP hS hl)
theorem r_icmp_ne (X : Cx E lay p s m args c cc own nL) {x y : Int32} {off : Int} (tgt : Nat) (hd : decode cc pc = .ok (.if_icmp .ne off, 3)) (ht : (pc : Int) + off = (tgt : Int)) (kt : ¬ x = y → AW E lay p l e R s m args below meth c nL cells slots Q tgt L st σ) (kf : x = y → AW E lay p l e R s m args below meth c nL cells slots Q (pc + 3) L st σ) : AW E lay p l e R s m args below meth c nL cells slots Q pc L (.int y :: .int x :: st) σ :=
  fun H locs ls hP hS hl => lv_icmp_ne X.1 X.2.1 hd ht (fun h => kt h H locs ls hP hS hl) (fun h => kf h H locs ls hP hS hl)
theorem r_icmp_lt (X : Cx E lay p s m args c cc own nL) {x y : Int32} {off : Int} (tgt : Nat) (hd : decode cc pc = .ok (.if_icmp .lt off, 3)) (ht : (pc : Int) + off = (tgt : Int)) (kt : x < y → AW E lay p l e R s m args below meth c nL cells slots Q tgt L st σ) (kf : ¬ x < y → AW E lay p l e R s m args below meth c nL cells slots Q (pc + 3) L st σ) : AW E lay p l e R s m args below meth c nL cells slots Q pc L (.int y :: .int x :: st) σ :=
  fun H locs ls hP hS hl => lv_icmp_lt X.1 X.2.1 hd ht (fun h => kt h H locs ls hP hS hl) (fun h => kf h H locs ls hP hS hl)
theorem r_icmp_ge (X : Cx E lay p s m args c cc own nL) {x y : Int32} {off : Int} (tgt : Nat) (hd : decode cc pc = .ok (.if_icmp .ge off, 3)) (ht : (pc : Int) + off = (tgt : Int)) (kt : y ≤ x → AW E lay p l e R s m args below meth c nL cells slots Q tgt L st σ) (kf : ¬ y ≤ x → AW E lay p l e R s m args below meth c nL cells slots Q (pc + 3) L st σ) : AW E lay p l e R s m args below meth c nL cells slots Q pc L (.int y :: .int x :: st) σ :=
  fun H locs ls hP hS hl => lv_icmp_ge X.1 X.2.1 hd ht (fun h => kt h H locs ls hP hS hl) (fun h => kf h H locs ls hP hS hl)
theorem r_icmp_gt (X : Cx E lay p s m args c cc own nL) {x y : Int32} {off : Int} (tgt : Nat) (hd : decode cc pc = .ok (.if_icmp .gt off, 3)) (ht : (pc : Int) + off = (tgt : Int)) (kt : y < x → AW E lay p l e R s m args below meth c nL cells slots Q tgt L st σ) (kf : ¬ y < x → AW E lay p l e R s m args below meth c nL cells slots Q (pc + 3) L st σ) : AW E lay p l e R s m args below meth c nL cells slots Q pc L (.int y :: .int x :: st) σ :=
  fun H locs ls hP hS hl => lv_icmp_gt X.1 X.2.1 hd ht (fun h => kt h H locs ls hP hS hl) (fun h => kf h H locs ls hP hS hl)
theorem r_icmp_le (X : Cx E lay p s m args c cc own nL) {x y : Int32} {off : Int} (tgt : Nat) (hd : decode cc pc = .ok (.if_icmp .le off, 3)) (ht : (pc : Int) + off = (tgt : Int)) (kt : x ≤ y → AW E lay p l e R s m args below meth c nL cells slots Q tgt L st σ) (kf : ¬ x ≤ y → AW E lay p l e R s m args below meth c nL cells slots Q (pc + 3) L st σ) : AW E lay p l e R s m args below meth c nL cells slots Q pc L (.int y :: .int x :: st) σ :=
  fun H locs ls hP hS hl => lv_icmp_le X.1 X.2.1 hd ht (fun h => kt h H locs ls hP hS hl) (fun h => kf h H locs ls hP hS hl)
theorem r_if_eq (X : Cx E lay p s m args c cc own nL) {x : Int32} {off : Int} (tgt : Nat) (hd : decode cc pc = .ok (.ifCond .eq off, 3)) (ht : (pc : Int) + off = (tgt : Int)) (kt : x = 0 → AW E lay p l e R s m args below meth c nL cells slots Q tgt L st σ) (kf : ¬ x = 0 → AW E lay p l e R s m args below meth c nL cells slots Q (pc + 3) L st σ) : AW E lay p l e R s m args below meth c nL cells slots Q pc L (.int x :: st) σ :=
  fun H locs ls hP hS hl => lv_if_eq X.1 X.2.1 hd ht (fun h => kt h H locs ls hP hS hl) (fun h => kf h H locs ls hP hS hl)
theorem r_if_ne (X : Cx E lay p s m args c cc own nL) {x : Int32} {off : Int} (tgt : Nat) (hd : decode cc pc = .ok (.ifCond .ne off, 3)) (ht : (pc : Int) + off = (tgt : Int)) (kt : ¬ x = 0 → AW E lay p l e R s m args below meth c nL cells slots Q tgt L st σ) (kf : x = 0 → AW E lay p l e R s m args below meth c nL cells slots Q (pc + 3) L st σ) : AW E lay p l e R s m args below meth c nL cells slots Q pc L (.int x :: st) σ :=
  fun H locs ls hP hS hl => lv_if_ne X.1 X.2.1 hd ht (fun h => kt h H locs ls hP hS hl) (fun h => kf h H locs ls hP hS hl)
theorem r_if_lt (X : Cx E lay p s m args c cc own nL) {x : Int32} {off : Int} (tgt : Nat) (hd : decode cc pc = .ok (.ifCond .lt off, 3)) (ht : (pc : Int) + off = (tgt : Int)) (kt : x < 0 → AW E lay p l e R s m args below meth c nL cells slots Q tgt L st σ) (kf : ¬ x < 0 → AW E lay p l e R s m args below meth c nL cells slots Q (pc + 3) L st σ) : AW E lay p l e R s m args below meth c nL cells slots Q pc L (.int x :: st) σ :=
  fun H locs ls hP hS hl => lv_if_lt X.1 X.2.1 hd ht (fun h => kt h H locs ls hP hS hl) (fun h => kf h H locs ls hP hS hl)
theorem r_if_ge (X : Cx E lay p s m args c cc own nL) {x : Int32} {off : Int} (tgt : Nat) (hd : decode cc pc = .ok (.ifCond .ge off, 3)) (ht : (pc : Int) + off = (tgt : Int)) (kt : 0 ≤ x → AW E lay p l e R s m args below meth c nL cells slots Q tgt L st σ) (kf : ¬ 0 ≤ x → AW E lay p l e R s m args below meth c nL cells slots Q (pc + 3) L st σ) : AW E lay p l e R s m args below meth c nL cells slots Q pc L (.int x :: st) σ :=
  fun H locs ls hP hS hl => lv_if_ge X.1 X.2.1 hd ht (fun h => kt h H locs ls hP hS hl) (fun h => kf h H locs ls hP hS hl)
theorem r_if_gt (X : Cx E lay p s m args c cc own nL) {x : Int32} {off : Int} (tgt : Nat) (hd : decode cc pc = .ok (.ifCond .gt off, 3)) (ht : (pc : Int) + off = (tgt : Int)) (kt : 0 < x → AW E lay p l e R s m args below meth c nL cells slots Q tgt L st σ) (kf : ¬ 0 < x → AW E lay p l e R s m args below meth c nL cells slots Q (pc + 3) L st σ) : AW E lay p l e R s m args below meth c nL cells slots Q pc L (.int x :: st) σ :=
  fun H locs ls hP hS hl => lv_if_gt X.1 X.2.1 hd ht (fun h => kt h H locs ls hP hS hl) (fun h => kf h H locs ls hP hS hl)
theorem r_if_le (X : Cx E lay p s m args c cc own nL) {x : Int32} {off : Int} (tgt : Nat) (hd : decode cc pc = .ok (.ifCond .le off, 3)) (ht : (pc : Int) + off = (tgt : Int)) (kt : x ≤ 0 → AW E lay p l e R s m args below meth c nL cells slots Q tgt L st σ) (kf : ¬ x ≤ 0 → AW E lay p l e R s m args below meth c nL cells slots Q (pc + 3) L st σ) : AW E lay p l e R s m args below meth c nL cells slots Q pc L (.int x :: st) σ :=
  fun H locs ls hP hS hl => lv_if_le X.1 X.2.1 hd ht (fun h => kt h H locs ls hP hS hl) (fun h => kf h H locs ls hP hS hl)
theorem r_tabIn (X : Cx E lay p s m args c cc own nL) {dflt lo hi : Int} {offs : Array Int} {len : Nat} {x : Int32} {off : Int} (tgt : Nat) (z : Int) (hx : x.toInt = z) (hd : decode cc pc = .ok (.tableswitch dflt lo hi offs, len)) (h1 : ¬ z < lo) (h2 : ¬ hi < z) (ho : offs[(z - lo).toNat]? = some off) (ht : (pc : Int) + off = (tgt : Int)) (k : AW E lay p l e R s m args below meth c nL cells slots Q tgt L st σ) : AW E lay p l e R s m args below meth c nL cells slots Q pc L (.int x :: st) σ := by
  subst hx
  exact fun H locs ls hP hS hl => lv_tableIn X.1 X.2.1 hd h1 h2 ho ht (k H locs ls hP hS hl)
theorem r_tabOut (X : Cx E lay p s m args c cc own nL) {dflt lo hi : Int} {offs : Array Int} {len : Nat} {x : Int32} (tgt : Nat) (hd : decode cc pc = .ok (.tableswitch dflt lo hi offs, len)) (h : x.toInt < lo ∨ hi < x.toInt) (ht : (pc : Int) + dflt = (tgt : Int)) (k : AW E lay p l e R s m args below meth c nL cells slots Q tgt L st σ) : AW E lay p l e R s m args below meth c nL cells slots Q pc L (.int x :: st) σ :=
  fun H locs ls hP hS hl => lv_tableOut X.1 X.2.1 hd h ht (k H locs ls hP hS hl)
theorem r_lookup (X : Cx E lay p s m args c cc own nL) {dflt : Int} {ps : Array (Int × Int)} {len : Nat} {x : Int32} {off : Int} (tgt : Nat) (hd : decode cc pc = .ok (.lookupswitch dflt ps, len)) (hp : (ps.toList.zip (ps.toList.drop 1)).all (fun (a, next) => a.1 < next.1) = true) (ho : Op.lookupswitch.offset ps.toList dflt x.toInt = off) (ht : (pc : Int) + off = (tgt : Int)) (k : AW E lay p l e R s m args below meth c nL cells slots Q tgt L st σ) : AW E lay p l e R s m args below meth c nL cells slots Q pc L (.int x :: st) σ :=
  fun H locs ls hP hS hl => lv_lookup X.1 X.2.1 hd hp ho ht (k H locs ls hP hS hl)
/-! fields and rows -/
theorem r_geti (X : Cx E lay p s m args c cc own nL) {C : String} {T : u_T} {N ci idx q : Nat} {fl : List (Option Nat)} (hd : decode cc pc = .ok (.getfield idx, 3)) (hin : ∀ w ∈ u_ws C T N, w ∈ gw) (hc : vwCl[ci]? = some (C, T, N)) (hlay : lay[q]? = some (.inl (ci, fl))) (j : Nat) (hf : fl[j]? = some none) (hj : j < N) (hw : Cond.fieldLink own idx (T j).1 (T j).2.1 (T j).2.2.1 ∈ gw) (k : AW E lay p l e R s m args below meth c nL cells slots Q (pc + 3) L (.int (σ q j) :: st) σ) : AW E lay p l e R s m args below meth c nL cells slots Q pc L (.ref (ea E q) :: st) σ := by
  intro H locs ls hP hS hl
  have h1 := wfs_int E (σ q) fl 0 j hf
  rw [Nat.zero_add] at h1
  exact va_get X.1 X.2.1 X.2.2.2.2.1 hin X.2.2.2.1 X.2.2.2.2.2.1 hP q (wws_get σ hlay) hc j hj (X.2.2.2.2.1 _ hw) (fun _ h9 => h9) h1 hd (k H locs ls hP hS hl)
theorem r_getr (X : Cx E lay p s m args c cc own nL) {C : String} {T : u_T} {N ci idx q q2 : Nat} {fl : List (Option Nat)} (hd : decode cc pc = .ok (.getfield idx, 3)) (hin : ∀ w ∈ u_ws C T N, w ∈ gw) (hc : vwCl[ci]? = some (C, T, N)) (hlay : lay[q]? = some (.inl (ci, fl))) (j : Nat) (hf : fl[j]? = some (some q2)) (hj : j < N) (hw : Cond.fieldLink own idx (T j).1 (T j).2.1 (T j).2.2.1 ∈ gw) (k : AW E lay p l e R s m args below meth c nL cells slots Q (pc + 3) L (.ref (ea E q2) :: st) σ) : AW E lay p l e R s m args below meth c nL cells slots Q pc L (.ref (ea E q) :: st) σ := by
  intro H locs ls hP hS hl
  exact va_get X.1 X.2.1 X.2.2.2.2.1 hin X.2.2.2.1 X.2.2.2.2.2.1 hP q (wws_get σ hlay) hc j hj (X.2.2.2.2.1 _ hw) (fun _ h9 => h9) (wfs_ref E (σ q) fl 0 j q2 hf) hd (k H locs ls hP hS hl)
theorem r_puti (X : Cx E lay p s m args c cc own nL) {C : String} {T : u_T} {N ci idx q : Nat} {fl : List (Option Nat)} {ty : FieldType} {v : Int32} (hd : decode cc pc = .ok (.putfield idx, 3)) (hin : ∀ w ∈ u_ws C T N, w ∈ gw) (ty0 : Nat → FieldType) (hty : ∀ k, k < N → parseFieldDescriptor (T k).2.2.1 = some (ty0 k)) (hnm : ∀ a, a < N → ∀ b, b < N → a ≠ b → (T a).2.1 ≠ (T b).2.1) (hc : vwCl[ci]? = some (C, T, N)) (hlay : lay[q]? = some (.inl (ci, fl))) (j : Nat) (hf : fl[j]? = some none) (hj : j < N) (hw : Cond.fieldLink own idx (T j).1 (T j).2.1 (T j).2.2.1 ∈ gw) (hfin : (T j).2.2.2 = false) (hdesc : ty0 j = ty) (hn : narrow ty (.int v) = .int v) (hfit : fits ty (.int v) = true) (k : AW E lay p l e R s m args below meth c nL cells slots Q (pc + 3) L st (u2 σ q j v)) : AW E lay p l e R s m args below meth c nL cells slots Q pc L (.int v :: .ref (ea E q) :: st) σ := by
  intro H locs ls hP hS hl
  subst hdesc
  refine va_put X.1 X.2.1 X.2.2.2.2.1 hin ty0 hty hnm X.2.2.2.1 X.2.2.2.2.2.1 hP (wD X.2.2.2.2.2.2.1 σ) hS q (wws_get σ hlay) hc j hj (X.2.2.2.2.1 _ hw) (fun _ h9 => h9) hfin (hty j hj) hn hfit ?_ hd (fun H1 locs1 hP1 hD1 hS1 => ?_)
  · rw [wfs_len]; exact (List.getElem?_eq_some_iff.mp hf).1
  · rw [wws_set (τ := u2 σ q j v) hlay ?_ ?_] at hP1
    · exact k H1 locs1 ls hP1 hS1 hl
    · simp only [wcell]
      rw [wfs_set E v fl (σ q) 0 j hf, Nat.zero_add]
      simp [u2, uA]
    · intro a ha
      simp [u2, uA, ha]
theorem r_iald (X : Cx E lay p s m args c cc own nL) {q n : Nat} {i : Int32} (hd : decode cc pc = .ok (.iaload, 1)) (hlay : lay[q]? = some (.inr (0, n))) (hi : vp_in i n) (k : AW E lay p l e R s m args below meth c nL cells slots Q (pc + 1) L (.int (σ q i.toNatClampNeg) :: st) σ) : AW E lay p l e R s m args below meth c nL cells slots Q pc L (.int i :: .ref (ea E q) :: st) σ :=
  fun H locs ls hP hS hl => va_iald X.1 X.2.1 X.2.2.2.2.2.1 hP q 0 (wws_get σ hlay) rfl hi hd (k H locs ls hP hS hl)
theorem r_bald (X : Cx E lay p s m args c cc own nL) {q n : Nat} {i : Int32} (hd : decode cc pc = .ok (.baload, 1)) (hlay : lay[q]? = some (.inr (1, n))) (hi : vp_in i n) (k : AW E lay p l e R s m args below meth c nL cells slots Q (pc + 1) L (.int (σ q i.toNatClampNeg) :: st) σ) : AW E lay p l e R s m args below meth c nL cells slots Q pc L (.int i :: .ref (ea E q) :: st) σ :=
  fun H locs ls hP hS hl => va_bald X.1 X.2.1 X.2.2.2.2.2.1 hP q 1 (wws_get σ hlay) rfl hi hd (k H locs ls hP hS hl)
theorem r_aald (X : Cx E lay p s m args c cc own nL) {q n b : Nat} {i : Int32} (hd : decode cc pc = .ok (.aaload, 1)) (hlay : lay[q]? = some (.inr (b + 2, n))) (hi : vp_in i n) (k : AW E lay p l e R s m args below meth c nL cells slots Q (pc + 1) L (.ref (ea E (b + 2 * i.toNatClampNeg)) :: st) σ) : AW E lay p l e R s m args below meth c nL cells slots Q pc L (.int i :: .ref (ea E q) :: st) σ :=
  fun H locs ls hP hS hl => va_aldq X.1 X.2.1 X.2.2.2.2.2.1 hP q 2 (wws_get σ hlay) rfl hi hd (k H locs ls hP hS hl)
theorem r_alen (X : Cx E lay p s m args c cc own nL) {q n b : Nat} (hd : decode cc pc = .ok (.arraylength, 1)) (hlay : lay[q]? = some (.inr (b, n))) (k : AW E lay p l e R s m args below meth c nL cells slots Q (pc + 1) L (.int (Int32.ofNat n) :: st) σ) : AW E lay p l e R s m args below meth c nL cells slots Q pc L (.ref (ea E q) :: st) σ := by
  intro H locs ls hP hS hl
  rcases b with _ | _ | b
  · exact va_alen X.1 X.2.1 X.2.2.2.2.2.1 hP q 0 (wws_get σ hlay) (ty := .int) rfl rfl hd (k H locs ls hP hS hl)
  · exact va_alen X.1 X.2.1 X.2.2.2.2.2.1 hP q 1 (wws_get σ hlay) (ty := .byte) rfl rfl hd (k H locs ls hP hS hl)
  · exact va_alen X.1 X.2.1 X.2.2.2.2.2.1 hP q 2 (wws_get σ hlay) (ty := .object "ScullerySweets$Sheet") rfl rfl hd (k H locs ls hP hS hl)
theorem r_iast (X : Cx E lay p s m args c cc own nL) {q n : Nat} {i v : Int32} (hd : decode cc pc = .ok (.iastore, 1)) (hlay : lay[q]? = some (.inr (0, n))) (hi : vp_in i n) (k : AW E lay p l e R s m args below meth c nL cells slots Q (pc + 1) L st (u2 σ q i.toNatClampNeg v)) : AW E lay p l e R s m args below meth c nL cells slots Q pc L (.int v :: .int i :: .ref (ea E q) :: st) σ := by
  intro H locs ls hP hS hl
  refine va_iast X.1 X.2.1 X.2.2.2.2.2.1 hP (wD X.2.2.2.2.2.2.1 σ) hS q 0 (wws_get σ hlay) rfl hi hd (fun H1 locs1 hP1 hD1 hS1 => ?_)
  rw [wws_set (τ := u2 σ q i.toNatClampNeg v) hlay ?_ ?_] at hP1
  · exact k H1 locs1 ls hP1 hS1 hl
  · simp [wcell, u2, uA]
  · intro a ha
    simp [u2, uA, ha]
theorem r_bast (X : Cx E lay p s m args c cc own nL) {q n : Nat} {i v : Int32} (hd : decode cc pc = .ok (.bastore, 1)) (hlay : lay[q]? = some (.inr (1, n))) (hi : vp_in i n) (k : AW E lay p l e R s m args below meth c nL cells slots Q (pc + 1) L st (u2 σ q i.toNatClampNeg v.toInt8.toInt32)) : AW E lay p l e R s m args below meth c nL cells slots Q pc L (.int v :: .int i :: .ref (ea E q) :: st) σ := by
  intro H locs ls hP hS hl
  refine va_bast X.1 X.2.1 X.2.2.2.2.2.1 hP (wD X.2.2.2.2.2.2.1 σ) hS q 1 (wws_get σ hlay) rfl hi hd (fun H1 locs1 hP1 hD1 hS1 => ?_)
  rw [wws_set (τ := u2 σ q i.toNatClampNeg v.toInt8.toInt32) hlay ?_ ?_] at hP1
  · exact k H1 locs1 ls hP1 hS1 hl
  · simp [wcell, u2, uA, vp_nar_byte]
  · intro a ha
    simp [u2, uA, ha]
theorem r_sA (X : Cx E lay p s m args c cc own nL) {idx : Nat} (hd : decode cc pc = .ok (.getstatic idx, 3)) (hw : Cond.fieldLink own idx "ScullerySweets$Kinds" "ABOVE" "[I" ∈ gw) (k : AW E lay p l e R s m args below meth c nL cells slots Q (pc + 3) L (.ref E.2.2.2.1 :: st) σ) : AW E lay p l e R s m args below meth c nL cells slots Q pc L st σ :=
  fun H locs ls hP hS hl => va_gets X.1 X.2.1 X.2.2.2.2.2.2.2.1.1 hS X.2.2.2.1 (X.2.2.2.2.1 _ hw) (fun _ h => h) hd (k H locs ls hP hS hl)
theorem r_sB (X : Cx E lay p s m args c cc own nL) {idx : Nat} (hd : decode cc pc = .ok (.getstatic idx, 3)) (hw : Cond.fieldLink own idx "ScullerySweets$Voices" "BODIES" "[I" ∈ gw) (k : AW E lay p l e R s m args below meth c nL cells slots Q (pc + 3) L (.ref E.2.2.2.2 :: st) σ) : AW E lay p l e R s m args below meth c nL cells slots Q pc L st σ :=
  fun H locs ls hP hS hl => va_gets X.1 X.2.1 X.2.2.2.2.2.2.2.2.1 hS X.2.2.2.1 (X.2.2.2.2.1 _ hw) (fun _ h => h) hd (k H locs ls hP hS hl)
theorem r_ldA (X : Cx E lay p s m args c cc own nL) {i : Int32} (hd : decode cc pc = .ok (.iaload, 1)) (hi : vp_in i 7) (k : AW E lay p l e R s m args below meth c nL cells slots Q (pc + 1) L (.int (kAB i.toNatClampNeg) :: st) σ) : AW E lay p l e R s m args below meth c nL cells slots Q pc L (.int i :: .ref E.2.2.2.1 :: st) σ :=
  fun H locs ls hP hS hl => va_ti X.1 X.2.1 X.2.2.2.2.2.2.2.1.2 hS hi rfl hd (k H locs ls hP hS hl)
theorem r_ldB (X : Cx E lay p s m args c cc own nL) {i : Int32} (hd : decode cc pc = .ok (.iaload, 1)) (hi : vp_in i 28) (k : AW E lay p l e R s m args below meth c nL cells slots Q (pc + 1) L (.int (kBO i.toNatClampNeg) :: st) σ) : AW E lay p l e R s m args below meth c nL cells slots Q pc L (.int i :: .ref E.2.2.2.2 :: st) σ :=
  fun H locs ls hP hS hl => va_ti X.1 X.2.1 X.2.2.2.2.2.2.2.2.2 hS hi rfl hd (k H locs ls hP hS hl)
theorem r_copy (X : Cx E lay p s m args c cc own nL) {idx q0 q1 n0 n1 : Nat} {sp dp n : Int32} (hd : decode cc pc = .ok (.invokestatic idx, 3)) (w1 : Cond.methodLink own idx arraycopyName ∈ gw) (w2 : Cond.native arraycopyName ∈ gw) (w3 : Cond.static arraycopyName ∈ gw) (w4 : Cond.initialized "java/lang/System" ∈ gw) (h0 : lay[q0]? = some (.inr (0, n0))) (h1 : lay[q1]? = some (.inr (0, n1))) (g1 : ¬ sp < 0) (g2 : ¬ dp < 0) (g3 : ¬ n < 0) (g4 : sp.toNatClampNeg + n.toNatClampNeg ≤ n0) (g5 : dp.toNatClampNeg + n.toNatClampNeg ≤ n1) (hR : 1 ≤ R.frames) (hR2 : (st.map fun v => v.category).sum + 40 ≤ R.locals) (k : AW E lay p l e R s m args below meth c nL cells slots Q (pc + 3) L st (uA σ q1 (va_cpy (σ q0) (σ q1) sp.toNatClampNeg dp.toNatClampNeg n.toNatClampNeg))) : AW E lay p l e R s m args below meth c nL cells slots Q pc L (.int n :: .int dp :: .ref (ea E q1) :: .int sp :: .ref (ea E q0) :: st) σ := by
  intro H locs ls hP hS hl
  refine va_copyi X.1 X.2.1 (X.2.2.1.trans hl.1.symm) X.2.2.2.1 (X.2.2.2.2.1 _ w1) (X.2.2.2.2.1 _ w2) (X.2.2.2.2.1 _ w3) (X.2.2.2.2.1 _ w4) X.2.2.2.2.2.1 hP (wD X.2.2.2.2.2.2.1 σ) hS q0 q1 0 0 (wws_get σ h0) (wws_get σ h1) (ty := .int) rfl rfl rfl g1 g2 g3 g4 g5 (fun _ _ => rfl) hR (Nat.le_trans (Nat.add_le_add_left (by decide +kernel) _) hR2) hd (fun H1 locs1 hP1 hD1 hS1 => ?_)
  rw [wws_set (τ := uA σ q1 (va_cpy (σ q0) (σ q1) sp.toNatClampNeg dp.toNatClampNeg n.toNatClampNeg)) h1 ?_ ?_] at hP1
  · exact k H1 locs1 ls hP1 hS1 hl
  · simp [wcell, uA]
  · intro a ha
    simp [uA, ha]
theorem r_mmax (X : Cx E lay p s m args c cc own nL) {idx : Nat} {x y : Int32} (hd : decode cc pc = .ok (.invokestatic idx, 3)) (w1 : Cond.methodLink own idx Lib.Math.max.name ∈ gw) (w2 : Cond.static Lib.Math.max.name ∈ gw) (w3 : Cond.initialized "java/lang/Math" ∈ gw) (w4 : Cond.code Lib.Math.max.name Lib.Math.max.code 2 (some .int) ∈ gw) (hR : 1 ≤ R.frames) (hR2 : (st.map fun v => v.category).sum + 13 ≤ R.locals) (hC : cells ≤ R.cells ∧ slots ≤ R.slots) (k : AW E lay p l e R s m args below meth c nL cells slots Q (pc + 3) L (.int (if x < y then y else x) :: st) σ) : AW E lay p l e R s m args below meth c nL cells slots Q pc L (.int y :: .int x :: st) σ :=
  fun H locs ls hP hS hl => va_mmax X.1 X.2.1 (X.2.2.1.trans hl.1.symm) X.2.2.2.1 (X.2.2.2.2.1 _ w1) (X.2.2.2.2.1 _ w2) (X.2.2.2.2.1 _ w3) (X.2.2.2.2.1 _ w4) hR hR2 hC.1 hC.2 hd (k H locs ls hP hS hl)
theorem r_mmin (X : Cx E lay p s m args c cc own nL) {idx : Nat} {x y : Int32} (hd : decode cc pc = .ok (.invokestatic idx, 3)) (w1 : Cond.methodLink own idx Lib.Math.min.name ∈ gw) (w2 : Cond.static Lib.Math.min.name ∈ gw) (w3 : Cond.initialized "java/lang/Math" ∈ gw) (w4 : Cond.code Lib.Math.min.name Lib.Math.min.code 2 (some .int) ∈ gw) (hR : 1 ≤ R.frames) (hR2 : (st.map fun v => v.category).sum + 13 ≤ R.locals) (hC : cells ≤ R.cells ∧ slots ≤ R.slots) (k : AW E lay p l e R s m args below meth c nL cells slots Q (pc + 3) L (.int (if x > y then y else x) :: st) σ) : AW E lay p l e R s m args below meth c nL cells slots Q pc L (.int y :: .int x :: st) σ :=
  fun H locs ls hP hS hl => va_mmin X.1 X.2.1 (X.2.2.1.trans hl.1.symm) X.2.2.2.1 (X.2.2.2.2.1 _ w1) (X.2.2.2.2.1 _ w2) (X.2.2.2.2.1 _ w3) (X.2.2.2.2.1 _ w4) hR hR2 hC.1 hC.2 hd (k H locs ls hP hS hl)
/-! calls -/
theorem wcall {H : Heap} {locs : List Loc} {ls : Array Slot} {st0 rest : List Value} {ro : Option Value} {τ : St} (hr : va_Run p l e R s m args below meth c H locs cells slots 0 0 (F0 m pc ls st0) rest (fun st oc t => oc = .returned ro ∧ Wd E lay τ t ∧ va_F (WA E lay) st t) (WA E lay)) (hS : va_S (WA E lay) s.heap H locs)
    (kk : ∀ (H1 : Heap) (locs1 : List Loc), va_P (eD E) vwCl (wws E lay τ) H1 → va_S (WA E lay) s.heap H1 locs1 → W p l e R s m args below meth c H1 locs1 cells slots Q (F0 m (pc + 3) ls (ro.toList ++ rest))) : W p l e R s m args below meth c H locs cells slots Q (F0 m pc ls st0) := by
  intro T hT X
  obtain ⟨v, st₀, t, T', L, h0, X', hL, e1, e2, ⟨hv, hw, hz, hk⟩, stp⟩ := hr T hT X
  cases hv
  rw [h0] at hz hk
  obtain ⟨t2, a1, b1⟩ := kk T'.heap (locs ++ L) (by rw [e1]; exact hw.1)
    ⟨Nat.le_trans hS.1 (by rw [e1]; exact hz), fun q h1 h2 => by rw [e1, hk q (Nat.lt_of_lt_of_le h1 hS.1) h2]; exact hS.2.1 q h1 h2, fun q hq => by
      rcases List.mem_append.mp hq with h | h
      · exact hS.2.2 q h
      · exact hL q h⟩ T' rfl X'
  exact ⟨t2, stp t2 a1, b1⟩
theorem r_callS (X : Cx E lay p s m args c cc own nL) {y : MethodName} {bytes : ByteArray} {mL idx n d : Nat} {ret : Option FieldType} (As rest : List Value) {ro : Option Value} {τ : St} (hM : Ct l E lay y bytes mL ret d As σ ro τ) (hd : decode cc pc = .ok (.invokestatic idx, 3)) (w1 : Cond.methodLink own idx y ∈ gw) (w2 : Cond.static y ∈ gw) (w3 : Cond.initialized y.cls ∈ gw) (w4 : Cond.code y bytes mL ret ∈ gw) (hy : y.cls ≠ "java/lang/invoke/MethodHandle" ∧ y.cls ≠ "java/lang/invoke/VarHandle" ∧ (parseMethodDescriptor y.desc).map (fun d => d.parameters.length) = some n) (hn : As.length = n) (hst : st = As.reverse ++ rest) (hrs : (rest.map fun v => v.category).sum ≤ 8) (hR : d + 1 ≤ R.frames ∧ 8 + (mL + 11) + 40 * d ≤ R.locals) (hC : cells ≤ R.cells ∧ slots ≤ R.slots) (k : AW E lay p l e R s m args below meth c nL cells slots Q (pc + 3) L (ro.toList ++ rest) τ) : AW E lay p l e R s m args below meth c nL cells slots Q pc L st σ := by
  intro H locs ls hP hS hl
  refine wcall (va_runS (As := As) (rest := rest) ⟨X.1, X.2.1, X.2.2.1, X.2.2.2.1, X.2.2.2.2.1⟩ hM (va_cwS n X.2.2.2.2.1 (gd_S w1 w2 w3 w4) rfl rfl rfl hy hR) ⟨Wd.blind, fun U hU hW => ⟨rfl, by rw [hU]; exact hP, X.2.2.2.2.2.at hS hU hW.alike⟩⟩ rfl hn hl.1 hst (lv_room hrs) hd hC) hS (fun H1 locs1 hP1 hS1 => k H1 locs1 ls hP1 hS1 hl)
theorem r_callV (X : Cx E lay p s m args c cc own nL) {y : MethodName} {bytes : ByteArray} {mL idx n d q ci N : Nat} {T : u_T} {fl : List (Option Nat)} {ret : Option FieldType} (As rest : List Value) {ro : Option Value} {τ : St} (hM : Ct l E lay y bytes mL ret d (.ref (ea E q) :: As) σ ro τ) (hd : decode cc pc = .ok (.invokevirtual idx, 3)) (hc : vwCl[ci]? = some (y.cls, T, N)) (hlay : lay[q]? = some (.inl (ci, fl))) (w1 : Cond.methodLink own idx y ∈ gw) (w2 : Cond.instanceMethod y ∈ gw) (w3 : Cond.selects y.cls y y ∈ gw) (w4 : Cond.initialized y.cls ∈ gw) (w5 : Cond.code y bytes mL ret ∈ gw) (hy : y.cls ≠ "java/lang/invoke/MethodHandle" ∧ y.cls ≠ "java/lang/invoke/VarHandle" ∧ (parseMethodDescriptor y.desc).map (fun d => d.parameters.length) = some n) (hn : As.length = n) (hst : st = As.reverse ++ .ref (ea E q) :: rest) (hrs : (rest.map fun v => v.category).sum ≤ 8) (hR : d + 1 ≤ R.frames ∧ 8 + (mL + 11) + 40 * d ≤ R.locals) (hC : cells ≤ R.cells ∧ slots ≤ R.slots) (k : AW E lay p l e R s m args below meth c nL cells slots Q (pc + 3) L (ro.toList ++ rest) τ) : AW E lay p l e R s m args below meth c nL cells slots Q pc L st σ := by
  intro H locs ls hP hS hl
  refine wcall (va_runV (As := As) (rest := rest) ⟨X.1, X.2.1, X.2.2.1, X.2.2.2.1, X.2.2.2.2.1⟩ hM (cwV n X.2.2.2.2.1 (gd_V w1 w2 w3 w4 w5) rfl rfl rfl ⟨rfl, hy⟩ hR) ⟨Wd.blind, va_recv X.2.2.2.2.2.1 hP hc (wws_get σ hlay), fun U hU hW => ⟨rfl, by rw [hU]; exact hP, X.2.2.2.2.2.at hS hU hW.alike⟩⟩ rfl hn hl.1 hst (lv_room hrs) hd hC) hS (fun H1 locs1 hP1 hS1 => k H1 locs1 ls hP1 hS1 hl)
end Rows
/-! a method's entry and its ends -/
section Ends
variable {E : EE} {lay : List Shp} {p : Program} {l : Launch} {e : Env} {R : Room} {s : State} {m : MethodId} {args : Array Value} {below : List Frame} {meth : Method} {c : Code} {cc : ByteArray} {own : String} {nL : Nat} {pc : Nat} {L : List (Nat × Value)} {σ : St}
/-- what a method's body ends with -/
def MQc (E : EE) (lay : List Shp) (below : List Frame) (args : Array Value) (s : State) (ro : Option Value) (τ : St) : State → Prop := MQ below (fun _ st oc t => oc = .returned ro ∧ Wd E lay τ t ∧ va_F (WA E lay) st t) args s 0 0 (WA E lay)
theorem r_iret (X : Cx E lay p s m args c cc own nL) (hlocks : meth.locks = false) (hr : meth.sig.returnType = some .int) {v : Int32} (hd : decode cc pc = .ok (.ireturn, 1)) : AW E lay p l e R s m args below meth c nL 0 0 (MQc E lay below args s (some (.int v)) σ) pc L [.int v] σ :=
  fun H locs ls hP hS hl => W.iret (v := v) X.1 X.2.1 hr (fun t ht hW => ⟨rfl, ⟨by rw [ht]; exact hP, X.2.2.2.2.2.at hS ht hW.alike⟩, hS.F ht⟩) hS.2.2 hd hlocks
theorem r_zret (X : Cx E lay p s m args c cc own nL) (hlocks : meth.locks = false) (hr : meth.sig.returnType = some .boolean) {v : Int32} (hn : narrow .boolean (.int v) = .int v) (hd : decode cc pc = .ok (.ireturn, 1)) : AW E lay p l e R s m args below meth c nL 0 0 (MQc E lay below args s (some (.int v)) σ) pc L [.int v] σ :=
  fun H locs ls hP hS hl => W.zret (v := v) X.1 X.2.1 hr hn (fun t ht hW => ⟨rfl, ⟨by rw [ht]; exact hP, X.2.2.2.2.2.at hS ht hW.alike⟩, hS.F ht⟩) hS.2.2 hd hlocks
theorem r_vret (X : Cx E lay p s m args c cc own nL) (hlocks : meth.locks = false) (hr : meth.sig.returnType = none) (hd : decode cc pc = .ok (.return_, 1)) : AW E lay p l e R s m args below meth c nL 0 0 (MQc E lay below args s none σ) pc L [] σ :=
  fun H locs ls hP hS hl => W.vret X.1 X.2.1 hr (fun t ht hW => ⟨rfl, ⟨by rw [ht]; exact hP, X.2.2.2.2.2.at hS ht hW.alike⟩, hS.F ht⟩) hS.2.2 hd hlocks
theorem Ct.of {y : MethodName} {ret : Option FieldType} {d : Nat} {av : List Value} {ro : Option Value} {τ : St} (hy : plainName y.cls = true) (hlen : (lg_sl av).length ≤ nL)
    (body : ∀ (p : Program) (e : Env) (s : State) (m : MethodId) (below : List Frame) (meth : Method) (c : Code), Cx E lay p s m av.toArray c cc y.cls nL → meth.locks = false → meth.sig.returnType = ret → AW E lay p l e (rmD d) s m av.toArray below meth c nL 0 0 (MQc E lay below av.toArray s ro τ) 0 (lv_args 0 av) [] σ) : Ct l E lay y cc nL ret d av σ ro τ := by
  refine Met.ofW (cc := cc) (maxL := nL) (ret := ret) hy rfl ?_
  intro p e s m args below meth c s₁ B hml hv
  obtain ⟨rfl, hP, hK⟩ := hv
  have hts := atoms_spec (ws := Cond.code y cc nL ret :: gw) B.pre
  have hl := lv_entry av (n := nL) hlen
  rw [lg_entry_eq]
  exact body p e s m below meth c ⟨B.exec, B.bytes, hml, findClass_of_methodNamed B.named, fun w hw => hts w (List.mem_cons_of_mem _ hw), hK⟩ B.notSynchronized B.returns s.heap [] _ hP va_S.rf hl
end Ends
