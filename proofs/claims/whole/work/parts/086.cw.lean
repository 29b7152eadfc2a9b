/-! constructors: worlds that grow -/
theorem fm_of {α : Type} {f : Nat → Option α} : ∀ {is : List Nat} {w : List α}, is.map f = w.map some → is.filterMap f = w
  | [], [], _ => rfl
  | [], _ :: _, h => by cases h
  | _ :: _, [], h => by cases h
  | i :: is, x :: w, h => by
    rw [List.map_cons, List.map_cons] at h
    injection h with h1 h2
    rw [List.filterMap_cons_some h1, fm_of h2]
theorem ra_uniq {s : State} {a b : ClassId} {ty : FieldType} (h1 : va_RA s a ty) (h2 : va_RA s b ty) : a = b := by
  cases ty with
  | object C =>
    obtain ⟨_, _, _, _, _, e1⟩ := h1
    obtain ⟨_, _, _, _, _, e2⟩ := h2
    exact Option.some.inj (e1.symm.trans e2)
  | _ =>
    have e1 : s.vm.findClass _ = some a := h1
    have e2 : s.vm.findClass _ = some b := h2
    exact Option.some.inj (e1.symm.trans e2)
section CW
variable {D : va_G} {A : Nat → Prop} {tys : List (ClassId × FieldType)} {p : Program} {l : Launch} {e : Env} {R : Room} {s : State} {m : MethodId} {args : Array Value} {below : List Frame} {meth : Method} {c : Code} {cc : ByteArray} {own : String} {nL cells slots : Nat} {Q : State → Prop} {pc : Nat} {L L' : List (Nat × Value)} {st : List Value} {ws ws' : va_W}
def Cy (D : va_G) (A : Nat → Prop) (tys : List (ClassId × FieldType)) (p : Program) (s : State) (m : MethodId) (args : Array Value) (c : Code) (cc : ByteArray) (own : String) (nL : Nat) : Prop :=
  p.tables.exec = Jvm.exec ∧ c.code = cc ∧ c.maxLocals = nL ∧ s.vm.findClass own = some m.cls ∧ (∀ w ∈ gw, w.before args s = true) ∧ va_K D vwCl tys s ∧ ∀ q : Nat, s.heap.size ≤ q → A q
def BW (D : va_G) (A : Nat → Prop) (p : Program) (l : Launch) (e : Env) (R : Room) (s : State) (m : MethodId) (args : Array Value) (below : List Frame) (meth : Method) (c : Code) (nL cells slots : Nat) (Q : State → Prop) (pc : Nat) (L : List (Nat × Value)) (st : List Value) (ws : va_W) : Prop :=
  ∀ (H : Heap) (locs : List Loc) (ls : Array Slot), va_P D vwCl ws H → va_D A ws → va_S A s.heap H locs → lv_has ls nL L → W p l e R s m args below meth c H locs cells slots Q (F0 m pc ls st)
theorem q_iconst (X : Cy D A tys p s m args c cc own nL) {n : Int} {v : Int32} (hd : decode cc pc = .ok (.iconst n, 1)) (hv : Int32.ofInt n = v) (k : BW D A p l e R s m args below meth c nL cells slots Q (pc + 1) L (.int v :: st) ws) : BW D A p l e R s m args below meth c nL cells slots Q pc L st ws :=
  fun H locs ls hP hD hS hl => lv_iconst X.1 X.2.1 hd hv (k H locs ls hP hD hS hl)
theorem q_bipush (X : Cy D A tys p s m args c cc own nL) {n : Int} {v : Int32} (hd : decode cc pc = .ok (.bipush n, 2)) (hv : (Int8.ofInt n).toInt32 = v) (k : BW D A p l e R s m args below meth c nL cells slots Q (pc + 2) L (.int v :: st) ws) : BW D A p l e R s m args below meth c nL cells slots Q pc L st ws :=
  fun H locs ls hP hD hS hl => lv_bipush X.1 X.2.1 hd hv (k H locs ls hP hD hS hl)
theorem q_sipush (X : Cy D A tys p s m args c cc own nL) {n : Int} {v : Int32} (hd : decode cc pc = .ok (.sipush n, 3)) (hv : (Int16.ofInt n).toInt32 = v) (k : BW D A p l e R s m args below meth c nL cells slots Q (pc + 3) L (.int v :: st) ws) : BW D A p l e R s m args below meth c nL cells slots Q pc L st ws :=
  fun H locs ls hP hD hS hl => lv_sipush X.1 X.2.1 hd hv (k H locs ls hP hD hS hl)
theorem q_iload_n (X : Cy D A tys p s m args c cc own nL) {i : Fin 4} {j : Nat} {x : Int32} (hd : decode cc pc = .ok (.iload_n i, 1)) (q : Nat) (hk : L[q]? = some (j, .int x)) (hi : (i : Nat) = j) (k : BW D A p l e R s m args below meth c nL cells slots Q (pc + 1) L (.int x :: st) ws) : BW D A p l e R s m args below meth c nL cells slots Q pc L st ws :=
  fun H locs ls hP hD hS hl => lv_iload_n X.1 X.2.1 hd hi (lv_at hl q hk) (k H locs ls hP hD hS hl)
theorem q_aload_n (X : Cy D A tys p s m args c cc own nL) {i : Fin 4} {j x : Nat} (hd : decode cc pc = .ok (.aload_n i, 1)) (q : Nat) (hk : L[q]? = some (j, .ref x)) (hi : (i : Nat) = j) (k : BW D A p l e R s m args below meth c nL cells slots Q (pc + 1) L (.ref x :: st) ws) : BW D A p l e R s m args below meth c nL cells slots Q pc L st ws :=
  fun H locs ls hP hD hS hl => lv_aload_n X.1 X.2.1 hd hi (lv_at hl q hk) (k H locs ls hP hD hS hl)
theorem q_istore_n (X : Cy D A tys p s m args c cc own nL) {i : Fin 4} {j : Nat} {x : Int32} (hd : decode cc pc = .ok (.istore_n i, 1)) (ks : List Nat) (hL : lv_pick ((j, Value.int x) :: L.filter (fun q => !(q.1 == j) && !(q.1 + 1 == j && q.2.category == 2))) ks = L') (hi : (i : Nat) = j) (hn : j < nL) (k : BW D A p l e R s m args below meth c nL cells slots Q (pc + 1) L' st ws) : BW D A p l e R s m args below meth c nL cells slots Q pc L (.int x :: st) ws :=
  fun H locs ls hP hD hS hl => lv_istore_n X.1 X.2.1 hd hi hl hn rfl (fun ls' hl' => k H locs ls' hP hD hS (lv_sub hl' ks hL))
theorem q_iinc (X : Cy D A tys p s m args c cc own nL) {j : Nat} {n : Int} {x v : Int32} (hd : decode cc pc = .ok (.iinc j n, 3)) (q : Nat) (hk : L[q]? = some (j, .int x)) (hv : x + Int32.ofInt n = v) (ks : List Nat) (hL : lv_pick ((j, Value.int v) :: L.filter (fun q => !(q.1 == j) && !(q.1 + 1 == j && q.2.category == 2))) ks = L') (hn : j < nL) (k : BW D A p l e R s m args below meth c nL cells slots Q (pc + 3) L' st ws) : BW D A p l e R s m args below meth c nL cells slots Q pc L st ws :=
  fun H locs ls hP hD hS hl => lv_iinc X.1 X.2.1 hd hl hk hv hn rfl (fun ls' hl' => k H locs ls' hP hD hS (lv_sub hl' ks hL))
theorem q_dup (X : Cy D A tys p s m args c cc own nL) {v : Value} (hd : decode cc pc = .ok (.dup, 1)) (hv : v.category = 1) (k : BW D A p l e R s m args below meth c nL cells slots Q (pc + 1) L (v :: v :: st) ws) : BW D A p l e R s m args below meth c nL cells slots Q pc L (v :: st) ws :=
  fun H locs ls hP hD hS hl => lv_dup X.1 X.2.1 hd hv (k H locs ls hP hD hS hl)
theorem q_goto (X : Cy D A tys p s m args c cc own nL) {off : Int} (tgt : Nat) (hd : decode cc pc = .ok (.goto off, 3)) (ht : (pc : Int) + off = (tgt : Int)) (k : BW D A p l e R s m args below meth c nL cells slots Q tgt L st ws) : BW D A p l e R s m args below meth c nL cells slots Q pc L st ws :=
  fun H locs ls hP hD hS hl => lv_goto X.1 X.2.1 hd ht (k H locs ls hP hD hS hl)
theorem q_iadd (X : Cy D A tys p s m args c cc own nL) {x y v : Int32} (hd : decode cc pc = .ok (.iadd, 1)) (hv : x + y = v) (k : BW D A p l e R s m args below meth c nL cells slots Q (pc + 1) L (.int v :: st) ws) : BW D A p l e R s m args below meth c nL cells slots Q pc L (.int y :: .int x :: st) ws :=
  by
  subst hv
  exact fun H locs ls hP hD hS hl => lv_iadd X.1 X.2.1 hd (k H locs ls hP hD hS hl)
theorem q_imul (X : Cy D A tys p s m args c cc own nL) {x y v : Int32} (hd : decode cc pc = .ok (.imul, 1)) (hv : x * y = v) (k : BW D A p l e R s m args below meth c nL cells slots Q (pc + 1) L (.int v :: st) ws) : BW D A p l e R s m args below meth c nL cells slots Q pc L (.int y :: .int x :: st) ws :=
  by
  subst hv
  exact fun H locs ls hP hD hS hl => lv_imul X.1 X.2.1 hd (k H locs ls hP hD hS hl)
theorem q_irem (X : Cy D A tys p s m args c cc own nL) {x y v : Int32} (hd : decode cc pc = .ok (.irem, 1)) (hne : ¬ y = 0) (hv : x - x / y * y = v) (k : BW D A p l e R s m args below meth c nL cells slots Q (pc + 1) L (.int v :: st) ws) : BW D A p l e R s m args below meth c nL cells slots Q pc L (.int y :: .int x :: st) ws :=
  by
  subst hv
  exact fun H locs ls hP hD hS hl => lv_irem X.1 X.2.1 hd hne (k H locs ls hP hD hS hl)
theorem q_icmp_ge (X : Cy D A tys p s m args c cc own nL) {x y : Int32} {off : Int} (tgt : Nat) (hd : decode cc pc = .ok (.if_icmp .ge off, 3)) (ht : (pc : Int) + off = (tgt : Int)) (kt : y ≤ x → BW D A p l e R s m args below meth c nL cells slots Q tgt L st ws) (kf : ¬ y ≤ x → BW D A p l e R s m args below meth c nL cells slots Q (pc + 3) L st ws) : BW D A p l e R s m args below meth c nL cells slots Q pc L (.int y :: .int x :: st) ws :=
  fun H locs ls hP hD hS hl => lv_icmp_ge X.1 X.2.1 hd ht (fun h => kt h H locs ls hP hD hS hl) (fun h => kf h H locs ls hP hD hS hl)
theorem q_alen (X : Cy D A tys p s m args c cc own nL) {a q0 t0 : Nat} {cA : ClassId} {x : vp_A} {ty : FieldType} {v : Int32} (hd : decode cc pc = .ok (.arraylength, 1)) (ha : ws[q0]? = some (a, .inl (cA, x))) (ht : tys[t0]? = some (cA, ty)) (hv : Int32.ofNat x.1 = v) (k : BW D A p l e R s m args below meth c nL cells slots Q (pc + 1) L (.int v :: st) ws) : BW D A p l e R s m args below meth c nL cells slots Q pc L (.ref a :: st) ws :=
  fun H locs ls hP hD hS hl => va_alen X.1 X.2.1 X.2.2.2.2.2.1 hP q0 t0 ha ht hv hd (k H locs ls hP hD hS hl)
theorem q_ws (h : ws = ws') (k : BW D A p l e R s m args below meth c nL cells slots Q pc L st ws') : BW D A p l e R s m args below meth c nL cells slots Q pc L st ws :=
  h ▸ k
theorem q_get (X : Cy D A tys p s m args c cc own nL) {C : String} {T : u_T} {N ci idx a q0 : Nat} {fs : List Value} {v : Value} (hd : decode cc pc = .ok (.getfield idx, 3)) (hin : ∀ w ∈ u_ws C T N, w ∈ gw) (hc : vwCl[ci]? = some (C, T, N)) (he : ws[q0]? = some (a, .inr (ci, fs))) (j : Nat) (hj : j < N) (hw : Cond.fieldLink own idx (T j).1 (T j).2.1 (T j).2.2.1 ∈ gw) (hv : fs[j]? = some v) (k : BW D A p l e R s m args below meth c nL cells slots Q (pc + 3) L (v :: st) ws) : BW D A p l e R s m args below meth c nL cells slots Q pc L (.ref a :: st) ws :=
  fun H locs ls hP hD hS hl => va_get X.1 X.2.1 X.2.2.2.2.1 hin X.2.2.2.1 X.2.2.2.2.2.1 hP q0 he hc j hj (X.2.2.2.2.1 _ hw) (fun _ h9 => h9) hv hd (k H locs ls hP hD hS hl)
theorem q_put (X : Cy D A tys p s m args c cc own nL) {C : String} {T : u_T} {N ci idx a q0 : Nat} {fs : List Value} {v : Value} {ty : FieldType} (hd : decode cc pc = .ok (.putfield idx, 3)) (hin : ∀ w ∈ u_ws C T N, w ∈ gw) {ty0 : Nat → FieldType} (hty : ∀ k, k < N → parseFieldDescriptor (T k).2.2.1 = some (ty0 k)) (hnm : ∀ a, a < N → ∀ b, b < N → a ≠ b → (T a).2.1 ≠ (T b).2.1) (hc : vwCl[ci]? = some (C, T, N)) (he : ws[q0]? = some (a, .inr (ci, fs))) (j : Nat) (hj : j < N) (hw : Cond.fieldLink own idx (T j).1 (T j).2.1 (T j).2.2.1 ∈ gw) (hfin : (T j).2.2.2 = false) (hdesc : ty0 j = ty) (hn : narrow ty v = v) (hfit : fits ty v = true) (hlen : j < fs.length) (hws : ws.set q0 (a, .inr (ci, fs.set j v)) = ws') (k : BW D A p l e R s m args below meth c nL cells slots Q (pc + 3) L st ws') : BW D A p l e R s m args below meth c nL cells slots Q pc L (v :: .ref a :: st) ws :=
  by
  subst hws
  subst hdesc
  exact fun H locs ls hP hD hS hl => va_put X.1 X.2.1 X.2.2.2.2.1 hin ty0 hty hnm X.2.2.2.1 X.2.2.2.2.2.1 hP hD hS q0 he hc j hj (X.2.2.2.2.1 _ hw) (fun _ h9 => h9) hfin (hty j hj) hn hfit hlen hd (fun H1 locs1 hP1 hD1 hS1 => k H1 locs1 ls hP1 hD1 hS1 hl)
theorem q_putF (X : Cy D A tys p s m args c cc own nL) {C : String} {T : u_T} {N ci idx a q0 : Nat} {fs : List Value} {v : Value} {ty : FieldType} (hd : decode cc pc = .ok (.putfield idx, 3)) (hin : ∀ w ∈ u_ws C T N, w ∈ gw) {ty0 : Nat → FieldType} (hty : ∀ k, k < N → parseFieldDescriptor (T k).2.2.1 = some (ty0 k)) (hnm : ∀ a, a < N → ∀ b, b < N → a ≠ b → (T a).2.1 ≠ (T b).2.1) (hc : vwCl[ci]? = some (C, T, N)) (he : ws[q0]? = some (a, .inr (ci, fs))) (j : Nat) (hj : j < N) (hw : Cond.fieldLink own idx (T j).1 (T j).2.1 (T j).2.2.1 ∈ gw) (hfin : (T j).2.2.2 = true) (hdecl : (T j).1 = own) (hin2 : meth.name = "<init>") (hdesc : ty0 j = ty) (hn : narrow ty v = v) (hfit : fits ty v = true) (hlen : j < fs.length) (hws : ws.set q0 (a, .inr (ci, fs.set j v)) = ws') (k : BW D A p l e R s m args below meth c nL cells slots Q (pc + 3) L st ws') : BW D A p l e R s m args below meth c nL cells slots Q pc L (v :: .ref a :: st) ws :=
  by
  subst hws
  subst hdesc
  exact fun H locs ls hP hD hS hl => va_putF X.1 X.2.1 X.2.2.2.2.1 hin ty0 hty hnm X.2.2.2.1 X.2.2.2.2.2.1 hP hD hS q0 he hc j hj (X.2.2.2.2.1 _ hw) (fun _ h9 => h9) hfin hin2 hdecl (hty j hj) hn hfit hlen hd (fun H1 locs1 hP1 hD1 hS1 => k H1 locs1 ls hP1 hD1 hS1 hl)
theorem q_iast (X : Cy D A tys p s m args c cc own nL) {a q0 : Nat} (t0 : Nat) {cA : ClassId} {n : Nat} {f : Nat → Int32} {i v : Int32} {kk : Nat} (hd : decode cc pc = .ok (.iastore, 1)) (he : ws[q0]? = some (a, .inl (cA, n, .inl f))) (ht : tys[t0]? = some (cA, .int)) (hi : vp_in i n) (hk : i.toNatClampNeg = kk) (hws : ws.set q0 (a, .inl (cA, n, .inl (upd f kk v))) = ws') (k : BW D A p l e R s m args below meth c nL cells slots Q (pc + 1) L st ws') : BW D A p l e R s m args below meth c nL cells slots Q pc L (.int v :: .int i :: .ref a :: st) ws :=
  by
  subst hws
  subst hk
  exact fun H locs ls hP hD hS hl => va_iast X.1 X.2.1 X.2.2.2.2.2.1 hP hD hS q0 t0 he ht hi hd (fun H1 locs1 hP1 hD1 hS1 => k H1 locs1 ls hP1 hD1 hS1 hl)
theorem q_bast (X : Cy D A tys p s m args c cc own nL) {a q0 : Nat} (t0 : Nat) {cA : ClassId} {n : Nat} {f : Nat → Int32} {i v : Int32} {kk : Nat} (hd : decode cc pc = .ok (.bastore, 1)) (he : ws[q0]? = some (a, .inl (cA, n, .inl f))) (ht : tys[t0]? = some (cA, .byte)) (hi : vp_in i n) (hk : i.toNatClampNeg = kk) (hws : ws.set q0 (a, .inl (cA, n, .inl (upd f kk (vp_nar .byte v)))) = ws') (k : BW D A p l e R s m args below meth c nL cells slots Q (pc + 1) L st ws') : BW D A p l e R s m args below meth c nL cells slots Q pc L (.int v :: .int i :: .ref a :: st) ws :=
  by
  subst hws
  subst hk
  exact fun H locs ls hP hD hS hl => va_bast X.1 X.2.1 X.2.2.2.2.2.1 hP hD hS q0 t0 he ht hi hd (fun H1 locs1 hP1 hD1 hS1 => k H1 locs1 ls hP1 hD1 hS1 hl)
theorem q_astq (X : Cy D A tys p s m args c cc own nL) {a q0 qk ci : Nat} (t0 : Nat) {cA : ClassId} {r : vw_C} {n v : Nat} {vs : List Value} {f : Nat → Option Nat} {i : Int32} {kk : Nat} (hd : decode cc pc = .ok (.aastore, 1)) (he : ws[q0]? = some (a, .inl (cA, n, .inr (.inr (.inr (.inr f)))))) (ht : tys[t0]? = some (cA, .object r.1)) (hv : ws[qk]? = some (v, .inr (ci, vs))) (hc : vwCl[ci]? = some r) (hi : vp_in i n) (hk : i.toNatClampNeg = kk) (hws : ws.set q0 (a, .inl (cA, n, .inr (.inr (.inr (.inr (va_up f kk (some v))))))) = ws') (k : BW D A p l e R s m args below meth c nL cells slots Q (pc + 1) L st ws') : BW D A p l e R s m args below meth c nL cells slots Q pc L (.ref v :: .int i :: .ref a :: st) ws :=
  by
  subst hws
  subst hk
  exact fun H locs ls hP hD hS hl => va_astq X.1 X.2.1 X.2.2.2.2.2.1 hP hD hS q0 t0 qk ci he ht hv hc hi hd (fun H1 locs1 hP1 hD1 hS1 => k H1 locs1 ls hP1 hD1 hS1 hl)
theorem q_newa (X : Cy D A tys p s m args c cc own nL) {atype : ArrayType} {ty : FieldType} (hw : Cond.arrayClass (newarray.typeOf atype) ∈ gw) (hty : newarray.typeOf atype = ty) (t0 : Nat) {cA : ClassId} (ht : tys[t0]? = some (cA, ty)) {n : Int32} {N : Nat} (a0 : vp_A) (ha : ∀ cA : ClassId, vp_cell cA a0 = arrV cA N (fun _ => defaultValue ty)) (hn : ¬ n < 0) (hN : n.toNatClampNeg = N) (hbytes : N * componentBytes ty ≤ 536870912) (hc : cells + 1 ≤ R.cells ∧ slots + N ≤ R.slots) (hd : decode cc pc = .ok (.newarray atype, 2)) (k : ∀ q : Nat, BW D A p l e R s m args below meth c nL (cells + 1) (slots + N) Q (pc + 2) L (.ref q :: st) (ws ++ [(q, .inl (cA, a0))])) : BW D A p l e R s m args below meth c nL cells slots Q pc L (.int n :: st) ws := by
  intro H locs ls hP hD hS hl
  refine va_newa X.1 X.2.1 (X.2.2.2.2.1 _ hw) hty X.2.2.2.2.2.1 hP hD hS X.2.2.2.2.2.2 ha hn hN hbytes hc.1 hc.2 hd (fun q cA' H1 hK1 hP1 hD1 hS1 => ?_)
  have e : cA' = cA := ra_uniq (hK1.2 tys.length (cA', ty) (by simp)).2 (X.2.2.2.2.2.1.2 t0 _ ht).2
  subst e
  exact k q H1 locs ls hP1 hD1 hS1 hl
theorem q_newq (X : Cy D A tys p s m args c cc own nL) {C : String} {idx : Nat} (hw : Cond.classLink own idx C ∈ gw) (ho : va_AO C s) (t0 : Nat) {cA : ClassId} (ht : tys[t0]? = some (cA, .object C)) {n : Int32} {N : Nat} (hn : ¬ n < 0) (hN : n.toNatClampNeg = N) (hbytes : N * 4 ≤ 536870912) (hc : cells + 1 ≤ R.cells ∧ slots + N ≤ R.slots) (hd : decode cc pc = .ok (.anewarray idx, 3)) (k : ∀ q : Nat, BW D A p l e R s m args below meth c nL (cells + 1) (slots + N) Q (pc + 3) L (.ref q :: st) (ws ++ [(q, .inl (cA, N, .inr (.inr (.inr (.inr (fun _ => none))))))])) : BW D A p l e R s m args below meth c nL cells slots Q pc L (.int n :: st) ws := by
  intro H locs ls hP hD hS hl
  refine va_newq X.1 X.2.1 X.2.2.2.1 (X.2.2.2.2.1 _ hw) ho X.2.2.2.2.2.1 hP hD hS X.2.2.2.2.2.2 hn hN hbytes hc.1 hc.2 hd (fun q cA' H1 hK1 hP1 hD1 hS1 => ?_)
  have e : cA' = cA := ra_uniq (hK1.2 tys.length (cA', .object C) (by simp)).2 (X.2.2.2.2.2.1.2 t0 _ ht).2
  subst e
  exact k q H1 locs ls hP1 hD1 hS1 hl
theorem q_new (X : Cy D A tys p s m args c cc own nL) {C : String} {T : u_T} {N ci idx : Nat} (hin : ∀ w ∈ u_ws C T N, w ∈ gw) {ty0 : Nat → FieldType} (hty : ∀ k, k < N → parseFieldDescriptor (T k).2.2.1 = some (ty0 k)) (w1 : Cond.classLink own idx C ∈ gw) (w2 : Cond.instantiable C N ∈ gw) (w3 : Cond.initialized C ∈ gw) (hc : vwCl[ci]? = some (C, T, N)) {fs : List Value} (hfs : ∀ j, j < N → defaultValue (ty0 j) = vp_V fs j) (hcs : cells + 1 ≤ R.cells ∧ slots + N ≤ R.slots) (hd : decode cc pc = .ok (.new idx, 3)) (k : ∀ q : Nat, BW D A p l e R s m args below meth c nL (cells + 1) (slots + N) Q (pc + 3) L (.ref q :: st) (ws ++ [(q, .inr (ci, fs))])) : BW D A p l e R s m args below meth c nL cells slots Q pc L st ws :=
  fun H locs ls hP hD hS hl => va_new X.1 X.2.1 X.2.2.2.2.1 hin ty0 hty X.2.2.2.1 (X.2.2.2.2.1 _ w1) (X.2.2.2.2.1 _ w2) (X.2.2.2.2.1 _ w3) X.2.2.2.2.2.1 hP hD hS X.2.2.2.2.2.2 hc hfs hcs.1 hcs.2 hd (fun q H1 hP1 hD1 hS1 => k q H1 locs ls hP1 hD1 hS1 hl)
theorem q_objInit (X : Cy D A tys p s m args c cc own nL) {a idx : Nat} (w1 : Cond.methodLink own idx Lib.objectInit ∈ gw) (w2 : Cond.instanceMethod Lib.objectInit ∈ gw) (w3 : Cond.code Lib.objectInit ⟨#[0xb1]⟩ 1 none ∈ gw) (hR : 1 ≤ R.frames) (hR2 : 12 ≤ R.locals) (hd : decode cc pc = .ok (.invokespecial idx, 3)) (k : BW D A p l e R s m args below meth c nL cells slots Q (pc + 3) L [] ws) : BW D A p l e R s m args below meth c nL cells slots Q pc L [.ref a] ws :=
  fun H locs ls hP hD hS hl => W.objInit X.1 X.2.1 X.2.2.2.1 (X.2.2.2.2.1 _ w1) (X.2.2.2.2.1 _ w2) (X.2.2.2.2.1 _ w3) rfl (by rw [X.2.2.1]; exact hl.1) rfl hd hR (by first | exact hR2 | (simp [F0]; exact hR2)) (W.eq (g2 := F0 m (pc + 3) ls []) rfl (k H locs ls hP hD hS hl))
theorem q_mmax (X : Cy D A tys p s m args c cc own nL) {idx : Nat} {x y v : Int32} (hd : decode cc pc = .ok (.invokestatic idx, 3)) (w1 : Cond.methodLink own idx Lib.Math.max.name ∈ gw) (w2 : Cond.static Lib.Math.max.name ∈ gw) (w3 : Cond.initialized "java/lang/Math" ∈ gw) (w4 : Cond.code Lib.Math.max.name Lib.Math.max.code 2 (some .int) ∈ gw) (hR : 1 ≤ R.frames) (hR2 : (st.map fun v => v.category).sum + 13 ≤ R.locals) (hC : cells ≤ R.cells ∧ slots ≤ R.slots) (hv : (if x < y then y else x) = v) (k : BW D A p l e R s m args below meth c nL cells slots Q (pc + 3) L (.int v :: st) ws) : BW D A p l e R s m args below meth c nL cells slots Q pc L (.int y :: .int x :: st) ws :=
  by
  subst hv
  exact fun H locs ls hP hD hS hl => va_mmax X.1 X.2.1 (X.2.2.1.trans hl.1.symm) X.2.2.2.1 (X.2.2.2.2.1 _ w1) (X.2.2.2.2.1 _ w2) (X.2.2.2.2.1 _ w3) (X.2.2.2.2.1 _ w4) hR hR2 hC.1 hC.2 hd (k H locs ls hP hD hS hl)
/-- a method that makes cells: from the cells w0 to the cells w1 f -/
def Nt (l : Launch) (D : va_G) (tys : List (ClassId × FieldType)) (y : MethodName) (cc : ByteArray) (nL : Nat) (rm : Room) (Pp : State → Prop) (av : List Value) (w0 : va_W) (sz : Nat) (Pf : (Nat → Nat) → Prop) (w1 : (Nat → Nat) → va_W) : Prop :=
  Met l y (Cond.code y cc nL none :: gw) rm (va_Pc av (fun U => U.heap.size = sz ∧ va_P D vwCl w0 U.heap ∧ va_K D vwCl tys U ∧ va_D (fun _ => True) w0 ∧ Pp U)) (va_Qv Pf (fun f t => va_P D vwCl (w1 f) t.heap ∧ va_D (va_A w0 sz) (w1 f)) (va_A w0 sz)) rm.cells rm.slots (va_A w0 sz)
def NQ (D : va_G) (A : Nat → Prop) (below : List Frame) (args : Array Value) (s : State) (rm : Room) (Pf : (Nat → Nat) → Prop) (w1 : (Nat → Nat) → va_W) : State → Prop :=
  MQ below (va_Qv Pf (fun f t => va_P D vwCl (w1 f) t.heap ∧ va_D A (w1 f)) A) args s rm.cells rm.slots A
theorem Nt.of {y : MethodName} {rm : Room} {Pp : State → Prop} {av : List Value} {w0 : va_W} {Pf : (Nat → Nat) → Prop} {w1 : (Nat → Nat) → va_W} (hy : plainName y.cls = true) (hlen : (lg_sl av).length ≤ nL)
    (body : ∀ (p : Program) (e : Env) (s : State) (m : MethodId) (below : List Frame) (meth : Method) (c : Code) (A : Nat → Prop), Cy D A tys p s m av.toArray c cc y.cls nL → meth.locks = false → meth.sig.returnType = none → meth.name = y.name → Pp s → BW D A p l e rm s m av.toArray below meth c nL 0 0 (NQ D A below av.toArray s rm Pf w1) 0 (lv_args 0 av) [] w0) (sz : Nat) : Nt l D tys y cc nL rm Pp av w0 sz Pf w1 := by
  refine Met.ofW (cc := cc) (maxL := nL) (ret := none) hy rfl ?_
  intro p e s m args below meth c s₁ B hml hv
  obtain ⟨rfl, hsz, hP, hK, hD0, hp⟩ := hv
  have hts := atoms_spec (ws := Cond.code y cc nL none :: gw) B.pre
  subst hsz
  have hD := hD0.self (sz := s.heap.size)
  have hl := lv_entry av (n := nL) hlen
  rw [lg_entry_eq]
  exact body p e s m below meth c (va_A w0 s.heap.size) ⟨B.exec, B.bytes, hml, findClass_of_methodNamed B.named, fun w hw => hts w (List.mem_cons_of_mem _ hw), hK, fun q h => Or.inr h⟩ B.notSynchronized B.returns (name_of_methodNamed B.named B.method).1 hp s.heap [] _ hP hD va_S.rf hl
theorem q_vret (X : Cy D A tys p s m args c cc own nL) (hlocks : meth.locks = false) (hr : meth.sig.returnType = none) (hd : decode cc pc = .ok (.return_, 1)) {rm : Room} {Pf : (Nat → Nat) → Prop} {w1 : (Nat → Nat) → va_W} (f : Nat → Nat) (hf : Pf f) (is : List Nat) (hn : va_nd is = true) (hs : is.map (fun i => ws[i]?) = (w1 f).map some) (hc : cells ≤ rm.cells ∧ slots ≤ rm.slots) : BW D A p l e R s m args below meth c nL cells slots (NQ D A below args s rm Pf w1) pc L [] ws :=
  fun H locs ls hP hD hS hl => W.widen hc.1 hc.2 (W.vret X.1 X.2.1 hr (fun t ht hW => ⟨⟨f, rfl, hf, by rw [ht]; exact hP.sub is (fm_of hs), hD.sub is hn hs⟩, hS.F ht⟩) hS.2.2 hd hlocks)
theorem ncall {H : Heap} {locs : List Loc} {ls : Array Slot} {st0 rest : List Value} {av : Array Value} {w0 wr : va_W} {rm : Room} {Pf : (Nat → Nat) → Prop} {w1 : (Nat → Nat) → va_W} (hr : va_Run p l e R s m args below meth c H locs cells slots rm.cells rm.slots (F0 m pc ls st0) rest (va_Qv Pf (fun f t => va_P D vwCl (w1 f) t.heap ∧ va_D (va_A w0 H.size) (w1 f)) (va_A w0 H.size) av) (va_A w0 H.size)) (hP : va_P D vwCl ws H) (hD : va_D A ws) (hS : va_S A s.heap H locs) (hl : lv_has ls nL L) (hA : ∀ q : Nat, s.heap.size ≤ q → A q) (isC isR : List Nat) (hC : isC.map (fun i => ws[i]?) = w0.map some) (hR : isR.map (fun i => ws[i]?) = wr.map some) (hn : va_nd isR = true) (hdis : ∀ i ∈ isR, i ∉ isC) (k : ∀ f, Pf f → BW D A p l e R s m args below meth c nL (cells + rm.cells) (slots + rm.slots) Q (pc + 3) L rest (wr ++ w1 f)) : W p l e R s m args below meth c H locs cells slots Q (F0 m pc ls st0) := by
  have hFc := va_free (wc := w0) hD hS hA isC hC
  refine va_callv hr hS (fun q _ h => hFc q h) hFc (fun f t H1 locs1 ht hvm hp hB hz1 hk1 hS1 => ?_)
  obtain ⟨hP1, hD1⟩ := hB
  rw [ht] at hP1
  obtain ⟨hP2, hD2⟩ := va_join hP hD isC isR hC hR hn hdis hk1 hFc hP1 hD1
  exact k f hp H1 locs1 ls hP2 hD2 hS1 hl
theorem Nt.pre {Pp : State → Prop} {av : List Value} {w0 : va_W} {H : Heap} (hK : va_K D vwCl tys s) (hP : va_P D vwCl ws H) (hD : va_D A ws) (isC : List Nat) (hnC : va_nd isC = true) (hC : isC.map (fun i => ws[i]?) = w0.map some) (hb : ∀ (a : Array Value) (U : State) (g : JFrame) (mk : MethodId), Pp U → Pp (U.calling g mk a)) (hw : ∀ U : State, s.WarmedH U.vm → Pp U) : PreS s H (va_Pc av (fun U => U.heap.size = H.size ∧ va_P D vwCl w0 U.heap ∧ va_K D vwCl tys U ∧ va_D (fun _ => True) w0 ∧ Pp U)) av := by
  have hP0 := hP.sub isC (fm_of hC)
  have hD0 : va_D (fun _ => True) w0 := (hD.sub isC hnC hC).weaken (fun _ _ _ _ => trivial)
  refine ⟨fun a U g mk q => ?_, fun U hU hW => ⟨rfl, by rw [hU], by rw [hU]; exact hP0, va_K.moved hW.alike hK, hD0, hw U hW⟩⟩
  obtain ⟨q0, q1, qP, qK, qD, qp⟩ := q
  exact ⟨q0, q1, qP, va_K.moved (u := U) (U := U.calling g mk a) (Vm.Alike.refl U.vm) qK, qD, hb a U g mk qp⟩
theorem q_callI (X : Cy D A tys p s m args c cc own nL) {y : MethodName} {bytes : ByteArray} {mL idx n : Nat} {rm : Room} {Pp : State → Prop} {w0 wr : va_W} {Pf : (Nat → Nat) → Prop} {w1 : (Nat → Nat) → va_W} {b : Nat} (As rest : List Value) (hM : ∀ sz, Nt l D tys y bytes mL rm Pp (.ref b :: As) w0 sz Pf w1) (hd : decode cc pc = .ok (.invokespecial idx, 3)) (w1' : Cond.methodLink own idx y ∈ gw) (w2 : Cond.instanceMethod y ∈ gw) (w3 : Cond.initialized y.cls ∈ gw) (w4 : Cond.code y bytes mL none ∈ gw) (hy1 : y.name = "<init>") (hy : y.cls ≠ "java/lang/invoke/MethodHandle" ∧ y.cls ≠ "java/lang/invoke/VarHandle" ∧ (parseMethodDescriptor y.desc).map (fun d => d.parameters.length) = some n) (hn : As.length = n) (hst : st = As.reverse ++ .ref b :: rest) (hrs : (rest.map fun v => v.category).sum ≤ 8) (hR : rm.frames + 1 ≤ R.frames ∧ 8 + (mL + 11) + rm.locals ≤ R.locals) (hCs : cells + rm.cells ≤ R.cells ∧ slots + rm.slots ≤ R.slots) (hpb : ∀ (a : Array Value) (U : State) (g : JFrame) (mk : MethodId), Pp U → Pp (U.calling g mk a)) (hpw : ∀ U : State, s.WarmedH U.vm → Pp U) (isC isR : List Nat) (hnC : va_nd isC = true) (hC : isC.map (fun i => ws[i]?) = w0.map some) (hRr : isR.map (fun i => ws[i]?) = wr.map some) (hnR : va_nd isR = true) (hdis : ∀ i ∈ isR, i ∉ isC) (k : ∀ f, Pf f → BW D A p l e R s m args below meth c nL (cells + rm.cells) (slots + rm.slots) Q (pc + 3) L rest (wr ++ w1 f)) : BW D A p l e R s m args below meth c nL cells slots Q pc L st ws := by
  intro H locs ls hP hD hS hl
  subst hst
  exact ncall (va_runI (As := As) (rest := rest) ⟨X.1, X.2.1, X.2.2.1, X.2.2.2.1, X.2.2.2.2.1⟩ (hM H.size) (cwI n X.2.2.2.2.1 (gd_C w4) rfl rfl rfl (X.2.2.2.2.1 _ w3) (X.2.2.2.2.1 _ w1') (X.2.2.2.2.1 _ w2) hy1 hy hR) (Nt.pre X.2.2.2.2.2.1 hP hD isC hnC hC hpb hpw) rfl hn hl.1 rfl (lv_room hrs) hd hCs) hP hD hS hl X.2.2.2.2.2.2 isC isR hC hRr hnR hdis k
theorem q_callIN (X : Cy D A tys p s m args c cc own nL) {y : MethodName} {bytes : ByteArray} {mL idx n : Nat} {rm : Room} {Pp : State → Prop} {w0 wr : va_W} {Pf : (Nat → Nat) → Prop} {w1 : (Nat → Nat) → va_W} {b : Nat} {host : String} (As rest : List Value) (hM : ∀ sz, Nt l D tys y bytes mL rm Pp (.ref b :: As) w0 sz Pf w1) (hd : decode cc pc = .ok (.invokespecial idx, 3)) (w1' : va_Nw (.methodLinkNest own idx y host) s) (w2 : Cond.instanceMethod y ∈ gw) (w3 : Cond.initialized y.cls ∈ gw) (w4 : Cond.code y bytes mL none ∈ gw) (hy1 : y.name = "<init>") (hy : y.cls ≠ "java/lang/invoke/MethodHandle" ∧ y.cls ≠ "java/lang/invoke/VarHandle" ∧ (parseMethodDescriptor y.desc).map (fun d => d.parameters.length) = some n) (hn : As.length = n) (hst : st = As.reverse ++ .ref b :: rest) (hrs : (rest.map fun v => v.category).sum ≤ 8) (hR : rm.frames + 1 ≤ R.frames ∧ 8 + (mL + 11) + rm.locals ≤ R.locals) (hCs : cells + rm.cells ≤ R.cells ∧ slots + rm.slots ≤ R.slots) (hpb : ∀ (a : Array Value) (U : State) (g : JFrame) (mk : MethodId), Pp U → Pp (U.calling g mk a)) (hpw : ∀ U : State, s.WarmedH U.vm → Pp U) (isC isR : List Nat) (hnC : va_nd isC = true) (hC : isC.map (fun i => ws[i]?) = w0.map some) (hRr : isR.map (fun i => ws[i]?) = wr.map some) (hnR : va_nd isR = true) (hdis : ∀ i ∈ isR, i ∉ isC) (k : ∀ f, Pf f → BW D A p l e R s m args below meth c nL (cells + rm.cells) (slots + rm.slots) Q (pc + 3) L rest (wr ++ w1 f)) : BW D A p l e R s m args below meth c nL cells slots Q pc L st ws := by
  intro H locs ls hP hD hS hl
  subst hst
  exact ncall (va_runIN (As := As) (rest := rest) ⟨X.1, X.2.1, X.2.2.1, X.2.2.2.1, X.2.2.2.2.1⟩ (hM H.size) ⟨va_cnB n X.2.2.2.2.1 (gd_C w4) rfl rfl rfl w1' (X.2.2.2.2.1 _ w3) hy hR, hy1, X.2.2.2.2.1 _ w2⟩ (Nt.pre X.2.2.2.2.2.1 hP hD isC hnC hC hpb hpw) rfl hn hl.1 rfl (lv_room hrs) hd hCs) hP hD hS hl X.2.2.2.2.2.2 isC isR hC hRr hnR hdis k
theorem q_callS (X : Cy D A tys p s m args c cc own nL) {y : MethodName} {bytes : ByteArray} {mL idx n : Nat} {rm : Room} {Pp : State → Prop} {w0 wr : va_W} {Pf : (Nat → Nat) → Prop} {w1 : (Nat → Nat) → va_W} (As rest : List Value) (hM : ∀ sz, Nt l D tys y bytes mL rm Pp As w0 sz Pf w1) (hd : decode cc pc = .ok (.invokestatic idx, 3)) (w1' : Cond.methodLink own idx y ∈ gw) (w2 : Cond.static y ∈ gw) (w3 : Cond.initialized y.cls ∈ gw) (w4 : Cond.code y bytes mL none ∈ gw) (hy : y.cls ≠ "java/lang/invoke/MethodHandle" ∧ y.cls ≠ "java/lang/invoke/VarHandle" ∧ (parseMethodDescriptor y.desc).map (fun d => d.parameters.length) = some n) (hn : As.length = n) (hst : st = As.reverse ++ rest) (hrs : (rest.map fun v => v.category).sum ≤ 8) (hR : rm.frames + 1 ≤ R.frames ∧ 8 + (mL + 11) + rm.locals ≤ R.locals) (hCs : cells + rm.cells ≤ R.cells ∧ slots + rm.slots ≤ R.slots) (hpb : ∀ (a : Array Value) (U : State) (g : JFrame) (mk : MethodId), Pp U → Pp (U.calling g mk a)) (hpw : ∀ U : State, s.WarmedH U.vm → Pp U) (isC isR : List Nat) (hnC : va_nd isC = true) (hC : isC.map (fun i => ws[i]?) = w0.map some) (hRr : isR.map (fun i => ws[i]?) = wr.map some) (hnR : va_nd isR = true) (hdis : ∀ i ∈ isR, i ∉ isC) (k : ∀ f, Pf f → BW D A p l e R s m args below meth c nL (cells + rm.cells) (slots + rm.slots) Q (pc + 3) L rest (wr ++ w1 f)) : BW D A p l e R s m args below meth c nL cells slots Q pc L st ws := by
  intro H locs ls hP hD hS hl
  subst hst
  exact ncall (va_runS (As := As) (rest := rest) ⟨X.1, X.2.1, X.2.2.1, X.2.2.2.1, X.2.2.2.2.1⟩ (hM H.size) (va_cwS n X.2.2.2.2.1 (gd_S w1' w2 w3 w4) rfl rfl rfl hy hR) (Nt.pre X.2.2.2.2.2.1 hP hD isC hnC hC hpb hpw) rfl hn hl.1 rfl (lv_room hrs) hd hCs) hP hD hS hl X.2.2.2.2.2.2 isC isR hC hRr hnR hdis k
theorem q_callV (X : Cy D A tys p s m args c cc own nL) {y : MethodName} {bytes : ByteArray} {mL idx n : Nat} {rm : Room} {Pp : State → Prop} {w0 wr : va_W} {Pf : (Nat → Nat) → Prop} {w1 : (Nat → Nat) → va_W} {b q0 ci N : Nat} {T : u_T} {fs : List Value} (As rest : List Value) (hM : ∀ sz, Nt l D tys y bytes mL rm Pp (.ref b :: As) w0 sz Pf w1) (hd : decode cc pc = .ok (.invokevirtual idx, 3)) (hc : vwCl[ci]? = some (y.cls, T, N)) (he : ws[q0]? = some (b, .inr (ci, fs))) (w1' : Cond.methodLink own idx y ∈ gw) (w2 : Cond.instanceMethod y ∈ gw) (w3 : Cond.selects y.cls y y ∈ gw) (w4 : Cond.initialized y.cls ∈ gw) (w5 : Cond.code y bytes mL none ∈ gw) (hy : y.cls ≠ "java/lang/invoke/MethodHandle" ∧ y.cls ≠ "java/lang/invoke/VarHandle" ∧ (parseMethodDescriptor y.desc).map (fun d => d.parameters.length) = some n) (hn : As.length = n) (hst : st = As.reverse ++ .ref b :: rest) (hrs : (rest.map fun v => v.category).sum ≤ 8) (hR : rm.frames + 1 ≤ R.frames ∧ 8 + (mL + 11) + rm.locals ≤ R.locals) (hCs : cells + rm.cells ≤ R.cells ∧ slots + rm.slots ≤ R.slots) (hpb : ∀ (a : Array Value) (U : State) (g : JFrame) (mk : MethodId), Pp U → Pp (U.calling g mk a)) (hpw : ∀ U : State, s.WarmedH U.vm → Pp U) (isC isR : List Nat) (hnC : va_nd isC = true) (hC : isC.map (fun i => ws[i]?) = w0.map some) (hRr : isR.map (fun i => ws[i]?) = wr.map some) (hnR : va_nd isR = true) (hdis : ∀ i ∈ isR, i ∉ isC) (k : ∀ f, Pf f → BW D A p l e R s m args below meth c nL (cells + rm.cells) (slots + rm.slots) Q (pc + 3) L rest (wr ++ w1 f)) : BW D A p l e R s m args below meth c nL cells slots Q pc L st ws := by
  intro H locs ls hP hD hS hl
  subst hst
  exact ncall (va_runV (As := As) (rest := rest) ⟨X.1, X.2.1, X.2.2.1, X.2.2.2.1, X.2.2.2.2.1⟩ (hM H.size) (cwV n X.2.2.2.2.1 (gd_V w1' w2 w3 w4 w5) rfl rfl rfl ⟨rfl, hy⟩ hR) ⟨(Nt.pre X.2.2.2.2.2.1 hP hD isC hnC hC hpb hpw).1, va_recv X.2.2.2.2.2.1 hP hc he, (Nt.pre X.2.2.2.2.2.1 hP hD isC hnC hC hpb hpw).2⟩ rfl hn hl.1 rfl (lv_room hrs) hd hCs) hP hD hS hl X.2.2.2.2.2.2 isC isR hC hRr hnR hdis k
/-- a row of references, said otherwise where it has places -/
theorem q_refs {a q0 n : Nat} {cA : ClassId} {f g : Nat → Option Nat} (he : ws[q0]? = some (a, .inl (cA, n, .inr (.inr (.inr (.inr f)))))) (hf : ∀ i, i < n → f i = g i) (hws : ws.set q0 (a, .inl (cA, n, .inr (.inr (.inr (.inr g))))) = ws') (k : BW D A p l e R s m args below meth c nL cells slots Q pc L st ws') : BW D A p l e R s m args below meth c nL cells slots Q pc L st ws := by
  intro H locs ls hP hD hS hl
  subst hws
  refine k H locs ls (fun i q hi => ?_) (hD.set he) hS hl
  by_cases h : i = q0
  · subst h
    have hlt : i < ws.length := (List.getElem?_eq_some_iff.mp he).1
    rw [List.getElem?_set_self hlt] at hi
    cases hi
    have h1 := hP i _ he
    show H[a]? = some (vp_cell cA (n, .inr (.inr (.inr (.inr g)))))
    have h2 : H[a]? = some (vp_cell cA (n, .inr (.inr (.inr (.inr f))))) := h1
    rw [h2]
    show some (arrV cA n (fun j => va_rf (f j))) = some (arrV cA n (fun j => va_rf (g j)))
    unfold arrV
    congr 2
    apply congrArg
    funext j
    exact congrArg va_rf (hf j.val j.isLt)
  · rw [List.getElem?_set_ne (fun q => h q.symm)] at hi
    exact hP i q hi
theorem rg_map {α : Type} (w : List α) (x : α) : (List.range w.length).map (fun i => (w ++ [x])[i]?) = w.map some := by
  apply List.ext_getElem
  · simp
  · intro i h1 h2
    have h3 : i < w.length := by simpa using h2
    rw [List.getElem_map, List.getElem_map, List.getElem_range, List.getElem?_append_left h3, List.getElem?_eq_getElem h3]
theorem nd_of {l : List Nat} (h : l.Nodup) : va_nd l = true := by
  induction l with
  | nil => rfl
  | cons a l ih =>
    rw [List.nodup_cons] at h
    simp only [va_nd, Bool.and_eq_true, decide_eq_true_eq]
    exact ⟨h.1, ih h.2⟩
theorem q_callEI (X : Cy D A tys p s m args c cc own nL) {y : MethodName} {bytes : ByteArray} {mL idx n : Nat} {rm : Room} {wr : va_W} {Pf : (Nat → Nat) → Prop} {w1 : (Nat → Nat) → va_W} {b : Nat} {c0 : va_E} (As rest : List Value) (hM : ∀ sz, Nt l D tys y bytes mL rm (fun _ => True) (.ref b :: As) [(b, c0)] sz Pf w1) (hd : decode cc pc = .ok (.invokespecial idx, 3)) (w1' : Cond.methodLink own idx y ∈ gw) (w2 : Cond.instanceMethod y ∈ gw) (w3 : Cond.initialized y.cls ∈ gw) (w4 : Cond.code y bytes mL none ∈ gw) (hy1 : y.name = "<init>") (hy : y.cls ≠ "java/lang/invoke/MethodHandle" ∧ y.cls ≠ "java/lang/invoke/VarHandle" ∧ (parseMethodDescriptor y.desc).map (fun d => d.parameters.length) = some n) (hn : As.length = n) (hst : st = As.reverse ++ .ref b :: rest) (hrs : (rest.map fun v => v.category).sum ≤ 8) (hR : rm.frames + 1 ≤ R.frames ∧ 8 + (mL + 11) + rm.locals ≤ R.locals) (hCs : cells + rm.cells ≤ R.cells ∧ slots + rm.slots ≤ R.slots) (k : ∀ f, Pf f → BW D A p l e R s m args below meth c nL (cells + rm.cells) (slots + rm.slots) Q (pc + 3) L rest (wr ++ w1 f)) : BW D A p l e R s m args below meth c nL cells slots Q pc L st (wr ++ [(b, c0)]) :=
  q_callI X As rest hM hd w1' w2 w3 w4 hy1 hy hn hst hrs hR hCs (fun _ _ _ _ h => h) (fun _ _ => trivial) [wr.length] (List.range wr.length) (by simp [va_nd]) (by simp) (rg_map wr (b, c0)) (nd_of List.nodup_range) (fun i hi => by simp at hi ⊢; omega) k
theorem q_callEIN (X : Cy D A tys p s m args c cc own nL) {y : MethodName} {bytes : ByteArray} {mL idx n : Nat} {rm : Room} {wr : va_W} {Pf : (Nat → Nat) → Prop} {w1 : (Nat → Nat) → va_W} {b : Nat} {c0 : va_E} {host : String} (As rest : List Value) (hM : ∀ sz, Nt l D tys y bytes mL rm (fun _ => True) (.ref b :: As) [(b, c0)] sz Pf w1) (hd : decode cc pc = .ok (.invokespecial idx, 3)) (w1' : va_Nw (.methodLinkNest own idx y host) s) (w2 : Cond.instanceMethod y ∈ gw) (w3 : Cond.initialized y.cls ∈ gw) (w4 : Cond.code y bytes mL none ∈ gw) (hy1 : y.name = "<init>") (hy : y.cls ≠ "java/lang/invoke/MethodHandle" ∧ y.cls ≠ "java/lang/invoke/VarHandle" ∧ (parseMethodDescriptor y.desc).map (fun d => d.parameters.length) = some n) (hn : As.length = n) (hst : st = As.reverse ++ .ref b :: rest) (hrs : (rest.map fun v => v.category).sum ≤ 8) (hR : rm.frames + 1 ≤ R.frames ∧ 8 + (mL + 11) + rm.locals ≤ R.locals) (hCs : cells + rm.cells ≤ R.cells ∧ slots + rm.slots ≤ R.slots) (k : ∀ f, Pf f → BW D A p l e R s m args below meth c nL (cells + rm.cells) (slots + rm.slots) Q (pc + 3) L rest (wr ++ w1 f)) : BW D A p l e R s m args below meth c nL cells slots Q pc L st (wr ++ [(b, c0)]) :=
  q_callIN X As rest hM hd w1' w2 w3 w4 hy1 hy hn hst hrs hR hCs (fun _ _ _ _ h => h) (fun _ _ => trivial) [wr.length] (List.range wr.length) (by simp [va_nd]) (by simp) (rg_map wr (b, c0)) (nd_of List.nodup_range) (fun i hi => by simp at hi ⊢; omega) k
theorem q_vretI (X : Cy D A tys p s m args c cc own nL) (hlocks : meth.locks = false) (hr : meth.sig.returnType = none) (hd : decode cc pc = .ok (.return_, 1)) {rm : Room} {Pf : (Nat → Nat) → Prop} {w1 : (Nat → Nat) → va_W} (f : Nat → Nat) (hf : Pf f) (hs : ws = w1 f) (hc : cells ≤ rm.cells ∧ slots ≤ rm.slots) : BW D A p l e R s m args below meth c nL cells slots (NQ D A below args s rm Pf w1) pc L [] ws :=
  fun H locs ls hP hD hS hl => W.widen hc.1 hc.2 (W.vret X.1 X.2.1 hr (fun t ht hW => ⟨⟨f, rfl, hf, by rw [ht, ← hs]; exact hP, by rw [← hs]; exact hD⟩, hS.F ht⟩) hS.2.2 hd hlocks)
end CW
