/-! the law: two worlds side by side -/
def LA (s : State) : Nat → Prop := fun q => s.heap.size ≤ q
def LCx (E1 E2 : EE) (p : Program) (s : State) (m : MethodId) (c : Code) (b L : Nat) (xs : Nat → Int32) : Prop :=
  p.tables.exec = Jvm.exec ∧ c.code = cL_law ∧ c.maxLocals = 4 ∧ s.vm.findClass RL = some m.cls ∧ (∀ w ∈ gw, w.before #[Value.ref b] s = true) ∧ (va_X b L xs s s.heap ∧ b < s.heap.size) ∧
  (va_K (eD E1) vwCl (wty E1) s ∧ WI E1 layC ∧ WZ E1 (LA s) s s.heap ∧ ∀ q, WA E1 layC q → LA s q) ∧
  (va_K (eD E2) vwCl (wty E2) s ∧ WI E2 layM ∧ WZ E2 (LA s) s s.heap ∧ ∀ q, WA E2 layM q → LA s q) ∧ ∀ q, WA E1 layC q → WA E2 layM q → False
def LWx (E1 E2 : EE) (p : Program) (l : Launch) (e : Env) (s : State) (m : MethodId) (b : Nat) (below : List Frame) (meth : Method) (c : Code) (cells slots : Nat) (Q : State → Prop) (pc : Nat) (Lc : List (Nat × Value)) (st : List Value) (σ τ : St) : Prop :=
  ∀ (H : Heap) (locs : List Loc) (ls : Array Slot), va_P (eD E1) vwCl (wws E1 layC σ) H → va_P (eD E2) vwCl (wws E2 layM τ) H → va_S (LA s) s.heap H locs → lv_has ls 4 Lc → W p l e room_1 s m #[Value.ref b] below meth c H locs cells slots Q (F0 m pc ls st)
section LawRows
variable {E1 E2 : EE} {p : Program} {l : Launch} {e : Env} {s : State} {m : MethodId} {below : List Frame} {meth : Method} {c : Code} {b L : Nat} {xs : Nat → Int32} {cells slots : Nat} {Q : State → Prop} {pc : Nat} {Lc Lc' : List (Nat × Value)} {st : List Value} {σ τ : St}
theorem zt_iconst (X : LCx E1 E2 p s m c b L xs) {n : Int} {v : Int32} (hd : decode cL_law pc = .ok (.iconst n, 1)) (hv : Int32.ofInt n = v) (k : LWx E1 E2 p l e s m b below meth c cells slots Q (pc + 1) Lc (.int v :: st) σ τ) : LWx E1 E2 p l e s m b below meth c cells slots Q pc Lc st σ τ :=
  fun H locs ls hP1 hP2 hS hl => lv_iconst X.1 X.2.1 hd hv (k H locs ls hP1 hP2 hS hl)
theorem zt_bipush (X : LCx E1 E2 p s m c b L xs) {n : Int} {v : Int32} (hd : decode cL_law pc = .ok (.bipush n, 2)) (hv : (Int8.ofInt n).toInt32 = v) (k : LWx E1 E2 p l e s m b below meth c cells slots Q (pc + 2) Lc (.int v :: st) σ τ) : LWx E1 E2 p l e s m b below meth c cells slots Q pc Lc st σ τ :=
  fun H locs ls hP1 hP2 hS hl => lv_bipush X.1 X.2.1 hd hv (k H locs ls hP1 hP2 hS hl)
theorem zt_iload_n (X : LCx E1 E2 p s m c b L xs) {i : Fin 4} {j : Nat} {x : Int32} (hd : decode cL_law pc = .ok (.iload_n i, 1)) (q : Nat) (hk : Lc[q]? = some (j, .int x)) (hi : (i : Nat) = j) (k : LWx E1 E2 p l e s m b below meth c cells slots Q (pc + 1) Lc (.int x :: st) σ τ) : LWx E1 E2 p l e s m b below meth c cells slots Q pc Lc st σ τ :=
  fun H locs ls hP1 hP2 hS hl => lv_iload_n X.1 X.2.1 hd hi (lv_at hl q hk) (k H locs ls hP1 hP2 hS hl)
theorem zt_aload_n (X : LCx E1 E2 p s m c b L xs) {i : Fin 4} {j x : Nat} (hd : decode cL_law pc = .ok (.aload_n i, 1)) (q : Nat) (hk : Lc[q]? = some (j, .ref x)) (hi : (i : Nat) = j) (k : LWx E1 E2 p l e s m b below meth c cells slots Q (pc + 1) Lc (.ref x :: st) σ τ) : LWx E1 E2 p l e s m b below meth c cells slots Q pc Lc st σ τ :=
  fun H locs ls hP1 hP2 hS hl => lv_aload_n X.1 X.2.1 hd hi (lv_at hl q hk) (k H locs ls hP1 hP2 hS hl)
theorem zt_iinc (X : LCx E1 E2 p s m c b L xs) {j : Nat} {n : Int} {x v : Int32} (hd : decode cL_law pc = .ok (.iinc j n, 3)) (q : Nat) (hk : Lc[q]? = some (j, .int x)) (hv : x + Int32.ofInt n = v) (ks : List Nat) (hL : lv_pick ((j, Value.int v) :: Lc.filter (fun q => !(q.1 == j) && !(q.1 + 1 == j && q.2.category == 2))) ks = Lc') (hn : j < 4) (k : LWx E1 E2 p l e s m b below meth c cells slots Q (pc + 3) Lc' st σ τ) : LWx E1 E2 p l e s m b below meth c cells slots Q pc Lc st σ τ :=
  fun H locs ls hP1 hP2 hS hl => lv_iinc X.1 X.2.1 hd hl hk hv hn rfl (fun ls' hl' => k H locs ls' hP1 hP2 hS (lv_sub hl' ks hL))
theorem zt_goto (X : LCx E1 E2 p s m c b L xs) {off : Int} (tgt : Nat) (hd : decode cL_law pc = .ok (.goto off, 3)) (ht : (pc : Int) + off = (tgt : Int)) (k : LWx E1 E2 p l e s m b below meth c cells slots Q tgt Lc st σ τ) : LWx E1 E2 p l e s m b below meth c cells slots Q pc Lc st σ τ :=
  fun H locs ls hP1 hP2 hS hl => lv_goto X.1 X.2.1 hd ht (k H locs ls hP1 hP2 hS hl)
theorem zt_iadd (X : LCx E1 E2 p s m c b L xs) {x y v : Int32} (hd : decode cL_law pc = .ok (.iadd, 1)) (hv : x + y = v) (k : LWx E1 E2 p l e s m b below meth c cells slots Q (pc + 1) Lc (.int v :: st) σ τ) : LWx E1 E2 p l e s m b below meth c cells slots Q pc Lc (.int y :: .int x :: st) σ τ :=
  by
  subst hv
  exact fun H locs ls hP1 hP2 hS hl => lv_iadd X.1 X.2.1 hd (k H locs ls hP1 hP2 hS hl)
theorem zt_isub (X : LCx E1 E2 p s m c b L xs) {x y v : Int32} (hd : decode cL_law pc = .ok (.isub, 1)) (hv : x - y = v) (k : LWx E1 E2 p l e s m b below meth c cells slots Q (pc + 1) Lc (.int v :: st) σ τ) : LWx E1 E2 p l e s m b below meth c cells slots Q pc Lc (.int y :: .int x :: st) σ τ :=
  by
  subst hv
  exact fun H locs ls hP1 hP2 hS hl => lv_isub X.1 X.2.1 hd (k H locs ls hP1 hP2 hS hl)
theorem zt_iand (X : LCx E1 E2 p s m c b L xs) {x y v : Int32} (hd : decode cL_law pc = .ok (.iand, 1)) (hv : x &&& y = v) (k : LWx E1 E2 p l e s m b below meth c cells slots Q (pc + 1) Lc (.int v :: st) σ τ) : LWx E1 E2 p l e s m b below meth c cells slots Q pc Lc (.int y :: .int x :: st) σ τ :=
  by
  subst hv
  exact fun H locs ls hP1 hP2 hS hl => lv_iand X.1 X.2.1 hd (k H locs ls hP1 hP2 hS hl)
theorem zt_land (X : LCx E1 E2 p s m c b L xs) {x y v : Int64} (hd : decode cL_law pc = .ok (.land, 1)) (hv : x &&& y = v) (k : LWx E1 E2 p l e s m b below meth c cells slots Q (pc + 1) Lc (.long v :: st) σ τ) : LWx E1 E2 p l e s m b below meth c cells slots Q pc Lc (.long y :: .long x :: st) σ τ :=
  by
  subst hv
  exact fun H locs ls hP1 hP2 hS hl => lv_land X.1 X.2.1 hd (k H locs ls hP1 hP2 hS hl)
theorem zt_lor (X : LCx E1 E2 p s m c b L xs) {x y v : Int64} (hd : decode cL_law pc = .ok (.lor, 1)) (hv : x ||| y = v) (k : LWx E1 E2 p l e s m b below meth c cells slots Q (pc + 1) Lc (.long v :: st) σ τ) : LWx E1 E2 p l e s m b below meth c cells slots Q pc Lc (.long y :: .long x :: st) σ τ :=
  by
  subst hv
  exact fun H locs ls hP1 hP2 hS hl => lv_lor X.1 X.2.1 hd (k H locs ls hP1 hP2 hS hl)
theorem zt_i2l (X : LCx E1 E2 p s m c b L xs) {x : Int32} (hd : decode cL_law pc = .ok (.i2l, 1)) (k : LWx E1 E2 p l e s m b below meth c cells slots Q (pc + 1) Lc (.long x.toInt64 :: st) σ τ) : LWx E1 E2 p l e s m b below meth c cells slots Q pc Lc (.int x :: st) σ τ :=
  fun H locs ls hP1 hP2 hS hl => lv_i2l X.1 X.2.1 hd rfl (k H locs ls hP1 hP2 hS hl)
theorem zt_lshl (X : LCx E1 E2 p s m c b L xs) {x : Int64} {y : Int32} (hd : decode cL_law pc = .ok (.lshl, 1)) (k : LWx E1 E2 p l e s m b below meth c cells slots Q (pc + 1) Lc (.long (x <<< (y.toInt64 &&& 63)) :: st) σ τ) : LWx E1 E2 p l e s m b below meth c cells slots Q pc Lc (.int y :: .long x :: st) σ τ :=
  fun H locs ls hP1 hP2 hS hl => lv_lshl X.1 X.2.1 hd rfl (k H locs ls hP1 hP2 hS hl)
theorem zt_ldc2 (X : LCx E1 E2 p s m c b L xs) {i : Nat} {v : Int64} (hd : decode cL_law pc = .ok (.ldc2_w i, 3)) (hw : Cond.constantLong RL i v ∈ gw) (k : LWx E1 E2 p l e s m b below meth c cells slots Q (pc + 3) Lc (.long v :: st) σ τ) : LWx E1 E2 p l e s m b below meth c cells slots Q pc Lc st σ τ :=
  fun H locs ls hP1 hP2 hS hl => lv_ldc2 X.1 X.2.1 X.2.2.2.1 (X.2.2.2.2.1 _ hw) hd (k H locs ls hP1 hP2 hS hl)
theorem zt_icmp_eq (X : LCx E1 E2 p s m c b L xs) {x y : Int32} {off : Int} (tgt : Nat) (hd : decode cL_law pc = .ok (.if_icmp .eq off, 3)) (ht : (pc : Int) + off = (tgt : Int)) (kt : x = y → LWx E1 E2 p l e s m b below meth c cells slots Q tgt Lc st σ τ) (kf : ¬ x = y → LWx E1 E2 p l e s m b below meth c cells slots Q (pc + 3) Lc st σ τ) : LWx E1 E2 p l e s m b below meth c cells slots Q pc Lc (.int y :: .int x :: st) σ τ :=
  fun H locs ls hP1 hP2 hS hl => lv_icmp_eq X.1 X.2.1 hd ht (fun h => kt h H locs ls hP1 hP2 hS hl) (fun h => kf h H locs ls hP1 hP2 hS hl)
theorem zt_icmp_gt (X : LCx E1 E2 p s m c b L xs) {x y : Int32} {off : Int} (tgt : Nat) (hd : decode cL_law pc = .ok (.if_icmp .gt off, 3)) (ht : (pc : Int) + off = (tgt : Int)) (kt : y < x → LWx E1 E2 p l e s m b below meth c cells slots Q tgt Lc st σ τ) (kf : ¬ y < x → LWx E1 E2 p l e s m b below meth c cells slots Q (pc + 3) Lc st σ τ) : LWx E1 E2 p l e s m b below meth c cells slots Q pc Lc (.int y :: .int x :: st) σ τ :=
  fun H locs ls hP1 hP2 hS hl => lv_icmp_gt X.1 X.2.1 hd ht (fun h => kt h H locs ls hP1 hP2 hS hl) (fun h => kf h H locs ls hP1 hP2 hS hl)
theorem zt_tabIn (X : LCx E1 E2 p s m c b L xs) {dflt lo hi : Int} {offs : Array Int} {len : Nat} {x : Int32} {off : Int} (tgt : Nat) (z : Int) (hx : x.toInt = z) (hd : decode cL_law pc = .ok (.tableswitch dflt lo hi offs, len)) (h1 : ¬ z < lo) (h2 : ¬ hi < z) (ho : offs[(z - lo).toNat]? = some off) (ht : (pc : Int) + off = (tgt : Int)) (k : LWx E1 E2 p l e s m b below meth c cells slots Q tgt Lc st σ τ) : LWx E1 E2 p l e s m b below meth c cells slots Q pc Lc (.int x :: st) σ τ := by
  subst hx
  exact fun H locs ls hP1 hP2 hS hl => lv_tableIn X.1 X.2.1 hd h1 h2 ho ht (k H locs ls hP1 hP2 hS hl)
theorem zt_tabOut (X : LCx E1 E2 p s m c b L xs) {dflt lo hi : Int} {offs : Array Int} {len : Nat} {x : Int32} (tgt : Nat) (hd : decode cL_law pc = .ok (.tableswitch dflt lo hi offs, len)) (h : x.toInt < lo ∨ hi < x.toInt) (ht : (pc : Int) + dflt = (tgt : Int)) (k : LWx E1 E2 p l e s m b below meth c cells slots Q tgt Lc st σ τ) : LWx E1 E2 p l e s m b below meth c cells slots Q pc Lc (.int x :: st) σ τ :=
  fun H locs ls hP1 hP2 hS hl => lv_tableOut X.1 X.2.1 hd h ht (k H locs ls hP1 hP2 hS hl)
theorem zt_slen (X : LCx E1 E2 p s m c b L xs) (hd : decode cL_law pc = .ok (.arraylength, 1)) (k : LWx E1 E2 p l e s m b below meth c cells slots Q (pc + 1) Lc (.int (nI L) :: st) σ τ) : LWx E1 E2 p l e s m b below meth c cells slots Q pc Lc (.ref b :: st) σ τ :=
  fun H locs ls hP1 hP2 hS hl => va_slen X.1 X.2.1 X.2.2.2.2.2.1.1 X.2.2.2.2.2.1.2 (Nat.not_le.mpr X.2.2.2.2.2.1.2) hS hd (k H locs ls hP1 hP2 hS hl)
theorem zt_sld (X : LCx E1 E2 p s m c b L xs) {j : Nat} (hj : j < L) (hL : L ≤ 3072) (hd : decode cL_law pc = .ok (.iaload, 1)) (k : LWx E1 E2 p l e s m b below meth c cells slots Q (pc + 1) Lc (.int (xs j) :: st) σ τ) : LWx E1 E2 p l e s m b below meth c cells slots Q pc Lc (.int (nI j) :: .ref b :: st) σ τ :=
  fun H locs ls hP1 hP2 hS hl => va_sld X.1 X.2.1 X.2.2.2.2.2.1.1 X.2.2.2.2.2.1.2 (Nat.not_le.mpr X.2.2.2.2.2.1.2) hS (vp_in_nI hj (by omega)) hd (by rw [nI_clamp (by omega)]; exact (k H locs ls hP1 hP2 hS hl))
/-- script[i + k] -/
theorem zt_arg (X : LCx E1 E2 p s m c b L xs) {i j : Nat} {n : Int} {v : Int32} (hv : Int32.ofInt n = v) (hk : v = nI j) (hj : i + j < L) (hL : L ≤ 3072) (h0 : Lc[0]? = some (0, .ref b)) (h3 : Lc[3]? = some (3, .int (nI i))) (d0 : decode cL_law pc = .ok (.aload_n 0, 1)) (d1 : decode cL_law (pc + 1) = .ok (.iload_n 3, 1)) (d2 : decode cL_law (pc + 1 + 1) = .ok (.iconst n, 1)) (d3 : decode cL_law (pc + 1 + 1 + 1) = .ok (.iadd, 1)) (d4 : decode cL_law (pc + 1 + 1 + 1 + 1) = .ok (.iaload, 1)) (k : LWx E1 E2 p l e s m b below meth c cells slots Q (pc + 1 + 1 + 1 + 1 + 1) Lc (.int (xs (i + j)) :: st) σ τ) : LWx E1 E2 p l e s m b below meth c cells slots Q pc Lc st σ τ := by
  refine zt_aload_n X d0 0 h0 rfl ?_
  refine zt_iload_n X d1 3 h3 rfl ?_
  refine zt_iconst X d2 hv ?_
  refine zt_iadd X d3 (v := nI (i + j)) (by rw [hk, nI_add]) ?_
  exact zt_sld X hj hL d4 k
theorem lcall {E : EE} {lay : List Shp} {H : Heap} {locs : List Loc} {ls : Array Slot} {st0 rest : List Value} {ro : Option Value} {τ : St} {A0 : Nat → Prop} {R : Room} {args : Array Value} (hr : va_Run p l e R s m args below meth c H locs cells slots 0 0 (F0 m pc ls st0) rest (fun st oc t => oc = .returned ro ∧ Wd E lay τ t ∧ va_F (WA E lay) st t) (WA E lay)) (hS : va_S A0 s.heap H locs) (hA : ∀ q, WA E lay q → A0 q)
    (kk : ∀ (H1 : Heap) (locs1 : List Loc), va_P (eD E) vwCl (wws E lay τ) H1 → (∀ q : Nat, q < H.size → ¬ WA E lay q → H1[q]? = H[q]?) → va_S A0 s.heap H1 locs1 → W p l e R s m args below meth c H1 locs1 cells slots Q (F0 m (pc + 3) ls (ro.toList ++ rest))) : W p l e R s m args below meth c H locs cells slots Q (F0 m pc ls st0) := by
  intro T hT X
  obtain ⟨v, st₀, t, T', L, h0, X', hL, e1, e2, ⟨hv, hw, hz, hk⟩, stp⟩ := hr T hT X
  cases hv
  rw [h0] at hz hk
  obtain ⟨t2, a1, b1⟩ := kk T'.heap (locs ++ L) (by rw [e1]; exact hw.1) (fun q h1 h2 => by rw [e1]; exact hk q h1 h2)
    ⟨Nat.le_trans hS.1 (by rw [e1]; exact hz), fun q h1 h2 => by rw [e1, hk q (Nat.lt_of_lt_of_le h1 hS.1) (fun z => h2 (hA q z))]; exact hS.2.1 q h1 h2, fun q hq => by
      rcases List.mem_append.mp hq with h | h
      · exact hS.2.2 q h
      · exact hA _ (hL q h)⟩ T' rfl X'
  exact ⟨t2, stp t2 a1, b1⟩
theorem w_other {E F : EE} {lay lay' : List Shp} {σ : St} {H H1 : Heap} (hP : va_P (eD F) vwCl (wws F lay' σ) H) (hne : ∀ q, WA E lay q → WA F lay' q → False) (hk : ∀ q : Nat, q < H.size → ¬ WA E lay q → H1[q]? = H[q]?) : va_P (eD F) vwCl (wws F lay' σ) H1 :=
  hP.kept fun i x hx => hk x.1 ((hP i x hx).lt) (fun z => hne x.1 z (by obtain ⟨h1, h2⟩ := wws_inv hx; exact ⟨i, h1, h2⟩))
theorem wk_at {E : EE} {lay : List Shp} {H : Heap} {locs : List Loc} {U : State} (h : va_K (eD E) vwCl (wty E) s ∧ WI E lay ∧ WZ E (LA s) s s.heap ∧ ∀ q, WA E lay q → LA s q) (hS : va_S (LA s) s.heap H locs) (hU : U.heap = H) (hW : s.WarmedH U.vm) : WK E lay U :=
  ⟨va_K.moved hW.alike h.1, h.2.1, by rw [hU]; exact ((h.2.2.1.moved hW.alike).kept (fun a h1 h2 => hS.2.1 a h1 h2)).narrow h.2.2.2⟩
theorem zt_callC (X : LCx E1 E2 p s m c b L xs) {y : MethodName} {bytes : ByteArray} {mL idx n d : Nat} {ret : Option FieldType} (As rest : List Value) {r : Int32} {υ : St} (hM : Ct l E1 layC y bytes mL ret d (.ref (ea E1 0) :: As) σ (some (.int r)) υ) (hd : decode cL_law pc = .ok (.invokevirtual idx, 3)) (hc : vwCl[7]? = some (y.cls, TX8, 11)) (w1 : Cond.methodLink RL idx y ∈ gw) (w2 : Cond.instanceMethod y ∈ gw) (w3 : Cond.selects y.cls y y ∈ gw) (w4 : Cond.initialized y.cls ∈ gw) (w5 : Cond.code y bytes mL ret ∈ gw) (hy : y.cls ≠ "java/lang/invoke/MethodHandle" ∧ y.cls ≠ "java/lang/invoke/VarHandle" ∧ (parseMethodDescriptor y.desc).map (fun d => d.parameters.length) = some n) (hn : As.length = n) (hst : st = As.reverse ++ .ref (ea E1 0) :: rest) (hrs : (rest.map fun v => v.category).sum ≤ 8) (hR : d + 1 ≤ 2048 ∧ 8 + (mL + 11) + 40 * d ≤ 84000) (hC : cells ≤ 600000 ∧ slots ≤ 7302250) (k : LWx E1 E2 p l e s m b below meth c cells slots Q (pc + 3) Lc (.int r :: rest) υ τ) : LWx E1 E2 p l e s m b below meth c cells slots Q pc Lc st σ τ := by
  intro H locs ls hP1 hP2 hS hl
  subst hst
  refine lcall (va_runV (As := As) (rest := rest) ⟨X.1, X.2.1, X.2.2.1, X.2.2.2.1, X.2.2.2.2.1⟩ hM (cwV n X.2.2.2.2.1 (gd_V w1 w2 w3 w4 w5) rfl rfl rfl ⟨rfl, hy⟩ hR) ⟨Wd.blind, va_recv X.2.2.2.2.2.2.1.1 hP1 hc (wws_get σ lC_0), fun U hU hW => ⟨rfl, by rw [hU]; exact hP1, wk_at X.2.2.2.2.2.2.1 hS hU hW⟩⟩ rfl hn hl.1 rfl (lv_room hrs) hd hC) hS X.2.2.2.2.2.2.1.2.2.2 (fun H1 locs1 hQ hk hS1 => ?_)
  exact k H1 locs1 ls hQ (w_other hP2 X.2.2.2.2.2.2.2.2 hk) hS1 hl
theorem zt_callM (X : LCx E1 E2 p s m c b L xs) {y : MethodName} {bytes : ByteArray} {mL idx n d : Nat} {ret : Option FieldType} (As rest : List Value) {r : Int32} {υ : St} (hM : Ct l E2 layM y bytes mL ret d (.ref (ea E2 0) :: As) τ (some (.int r)) υ) (hd : decode cL_law pc = .ok (.invokevirtual idx, 3)) (hc : vwCl[8]? = some (y.cls, TX9, 28)) (w1 : Cond.methodLink RL idx y ∈ gw) (w2 : Cond.instanceMethod y ∈ gw) (w3 : Cond.selects y.cls y y ∈ gw) (w4 : Cond.initialized y.cls ∈ gw) (w5 : Cond.code y bytes mL ret ∈ gw) (hy : y.cls ≠ "java/lang/invoke/MethodHandle" ∧ y.cls ≠ "java/lang/invoke/VarHandle" ∧ (parseMethodDescriptor y.desc).map (fun d => d.parameters.length) = some n) (hn : As.length = n) (hst : st = As.reverse ++ .ref (ea E2 0) :: rest) (hrs : (rest.map fun v => v.category).sum ≤ 8) (hR : d + 1 ≤ 2048 ∧ 8 + (mL + 11) + 40 * d ≤ 84000) (hC : cells ≤ 600000 ∧ slots ≤ 7302250) (k : LWx E1 E2 p l e s m b below meth c cells slots Q (pc + 3) Lc (.int r :: rest) σ υ) : LWx E1 E2 p l e s m b below meth c cells slots Q pc Lc st σ τ := by
  intro H locs ls hP1 hP2 hS hl
  subst hst
  refine lcall (va_runV (As := As) (rest := rest) ⟨X.1, X.2.1, X.2.2.1, X.2.2.2.1, X.2.2.2.2.1⟩ hM (cwV n X.2.2.2.2.1 (gd_V w1 w2 w3 w4 w5) rfl rfl rfl ⟨rfl, hy⟩ hR) ⟨Wd.blind, va_recv X.2.2.2.2.2.2.2.1.1 hP2 hc (wws_get τ lM_0), fun U hU hW => ⟨rfl, by rw [hU]; exact hP2, wk_at X.2.2.2.2.2.2.2.1 hS hU hW⟩⟩ rfl hn hl.1 rfl (lv_room hrs) hd hC) hS X.2.2.2.2.2.2.2.1.2.2.2 (fun H1 locs1 hQ hk hS1 => ?_)
  exact k H1 locs1 ls (w_other hP1 (fun q h1 h2 => X.2.2.2.2.2.2.2.2 q h2 h1) hk) hQ hS1 hl
end LawRows
