/-! X8_isDish -/
theorem nX8_isDish : yX8_isDish.cls ≠ "java/lang/invoke/MethodHandle" ∧ yX8_isDish.cls ≠ "java/lang/invoke/VarHandle" ∧ (parseMethodDescriptor yX8_isDish.desc).map (fun d => d.parameters.length) = some 1 := by decide +kernel
theorem kX8_isDish {l : Launch} {E : EE} {p : Program} {e : Env} {ms : State} {m : MethodId} {args : Array Value} {below : List Frame} {meth : Method} {c : Code} {cc : ByteArray} {own : String} {nL pc idx d D : Nat} {Q : State → Prop} {L : List (Nat × Value)} {rest : List Value} {σ τ : St} {a0 : Int32} {r : Int32} (X : Cx E layC p ms m args c cc own nL) (hM : Ct l E layC yX8_isDish cX8_isDish 1 (some .boolean) d [.int a0] σ (some (.int r)) τ) (hd : decode cc pc = .ok (.invokestatic idx, 3)) (w1 : Cond.methodLink own idx yX8_isDish ∈ gw) (hR : d + 1 ≤ D) (hrs : (rest.map fun v => v.category).sum ≤ 8) (k : AW E layC p l e (rmD D) ms m args below meth c nL 0 0 Q (pc + 3) L (.int r :: rest) τ) : AW E layC p l e (rmD D) ms m args below meth c nL 0 0 Q pc L (.int a0 :: rest) σ :=
  s_callS X [.int a0] rest hM hd w1 g_332 g_67 g_333 nX8_isDish rfl rfl hrs (Nat.le_of_ble_eq_true rfl) hR k
def fX8_isDish (a0 : Int32) (s0 : St) : Option (Int32 × St) :=
    bd2 (fX8_within a0 0 15 s0) fun u3 s1 =>
    gb u3 <| some (u3, s1)
set_option maxHeartbeats 4000000 in
set_option maxRecDepth 100000 in
theorem ctX8_isDish {l : Launch} {E : EE} {a0 : Int32} {s0 : St} {r9 : Int32} {t9 : St}  (h : fX8_isDish a0 s0 = some (r9, t9)) : Ct l E layC yX8_isDish cX8_isDish 1 (some .boolean) 1 [.int a0] s0 (some (.int r9)) t9 := by
  refine Ct.of (by decide) (Nat.le_of_ble_eq_true rfl) ?_
  intro p e ms m below meth c X hlk hr
  have X : Cx E layC p ms m [.int a0].toArray c cX8_isDish RX8 1 := X
  refine r_sub (L' := [(0, .int a0)]) [0] rfl ?_
  unfold fX8_isDish at h
  refine r_iload_n X dX8_isDish_0 0 rfl rfl ?_
  refine r_iconst X dX8_isDish_1 (v := 0) (by decide) ?_
  refine r_bipush X dX8_isDish_2 (v := 15) (by decide) ?_
  obtain ⟨u3, s1, e2, h⟩ := bd2_ok h
  refine kX8_within X (ctX8_within e2) dX8_isDish_4 g_334 (Nat.le_of_ble_eq_true rfl) (Nat.le_of_ble_eq_true rfl) ?_
  obtain ⟨g4, h⟩ := gb_ok h
  exact s_zret X hlk hr g4.1 dX8_isDish_7 h
/-! X8_error -/
theorem nX8_error : yX8_error.cls ≠ "java/lang/invoke/MethodHandle" ∧ yX8_error.cls ≠ "java/lang/invoke/VarHandle" ∧ (parseMethodDescriptor yX8_error.desc).map (fun d => d.parameters.length) = some 1 := by decide +kernel
theorem kX8_error {l : Launch} {E : EE} {p : Program} {e : Env} {ms : State} {m : MethodId} {args : Array Value} {below : List Frame} {meth : Method} {c : Code} {cc : ByteArray} {own : String} {nL pc idx d D : Nat} {Q : State → Prop} {L : List (Nat × Value)} {rest : List Value} {σ τ : St} {a1 : Int32} {r : Int32} {fl : List (Option Nat)} (X : Cx E layC p ms m args c cc own nL) (hM : Ct l E layC yX8_error cX8_error 2 (some .int) d [.ref (ea E 0), .int a1] σ (some (.int r)) τ) (hd : decode cc pc = .ok (.invokevirtual idx, 3)) (hlay : layC[0]? = some (.inl (7, fl))) (w1 : Cond.methodLink own idx yX8_error ∈ gw) (hR : d + 1 ≤ D) (hrs : (rest.map fun v => v.category).sum ≤ 8) (k : AW E layC p l e (rmD D) ms m args below meth c nL 0 0 Q (pc + 3) L (.int r :: rest) τ) : AW E layC p l e (rmD D) ms m args below meth c nL 0 0 Q pc L (.int a1 :: .ref (ea E 0) :: rest) σ :=
  s_callV X [.int a1] rest hM hd v_X8 hlay w1 g_339 g_0 g_67 g_340 nX8_error rfl rfl hrs (Nat.le_of_ble_eq_true rfl) hR k
def fX8_error (a1 : Int32) (s0 : St) : Option (Int32 × St) :=
    bd1 (ald s0 67 6 a1) fun v2 =>
    bd1 (ast s0 67 6 a1 (v2 + 1)) fun s4 =>
    some ((-1000000000) - a1, s4)
set_option maxHeartbeats 4000000 in
set_option maxRecDepth 100000 in
theorem ctX8_error {l : Launch} {E : EE} {a1 : Int32} {s0 : St} {r9 : Int32} {t9 : St}  (h : fX8_error a1 s0 = some (r9, t9)) : Ct l E layC yX8_error cX8_error 2 (some .int) 0 [.ref (ea E 0), .int a1] s0 (some (.int r9)) t9 := by
  refine Ct.of (by decide) (Nat.le_of_ble_eq_true rfl) ?_
  intro p e ms m below meth c X hlk hr
  have X : Cx E layC p ms m [.ref (ea E 0), .int a1].toArray c cX8_error RX8 2 := X
  refine r_sub (L' := [(0, .ref (ea E 0)), (1, .int a1)]) [0, 1] rfl ?_
  unfold fX8_error at h
  refine r_aload_n X dX8_error_0 0 rfl rfl ?_
  refine r_getr X dX8_error_1 i_X8 v_X8 lC_0 7 rfl (Nat.le_of_ble_eq_true rfl) g_300 ?_
  refine r_iload_n X dX8_error_4 1 rfl rfl ?_
  refine r_dup2 X dX8_error_5 rfl rfl ?_
  obtain ⟨g1, v2, ev2, h⟩ := ld_ok h
  refine s_iald X dX8_error_6 lC_67 g1 ev2 ?_
  refine r_iconst X dX8_error_7 (v := 1) (by decide) ?_
  refine r_iadd X dX8_error_8 ?_
  obtain ⟨g3, s4, es4, h⟩ := as_ok h
  refine s_iast X dX8_error_9 lC_67 g3 es4 ?_
  refine r_ldcw X dX8_error_10 g_341 ?_
  refine r_iload_n X dX8_error_13 1 rfl rfl ?_
  refine r_isub X dX8_error_14 ?_
  exact s_iret X hlk hr dX8_error_15 h
/-! X8_replaced -/
theorem nX8_replaced : yX8_replaced.cls ≠ "java/lang/invoke/MethodHandle" ∧ yX8_replaced.cls ≠ "java/lang/invoke/VarHandle" ∧ (parseMethodDescriptor yX8_replaced.desc).map (fun d => d.parameters.length) = some 3 := by decide +kernel
theorem kX8_replaced {l : Launch} {E : EE} {p : Program} {e : Env} {ms : State} {m : MethodId} {args : Array Value} {below : List Frame} {meth : Method} {c : Code} {cc : ByteArray} {own : String} {nL pc idx d D : Nat} {Q : State → Prop} {L : List (Nat × Value)} {rest : List Value} {σ τ : St} {k0 : Nat} {a1 : Int32} {a2 : Int32} {r : Int32} (X : Cx E layC p ms m args c cc own nL) (hM : Ct l E layC yX8_replaced cX8_replaced 4 (some .int) d [.ref (ea E k0), .int a1, .int a2] σ (some (.int r)) τ) (hd : decode cc pc = .ok (.invokestatic idx, 3)) (w1 : Cond.methodLink own idx yX8_replaced ∈ gw) (hR : d + 1 ≤ D) (hrs : (rest.map fun v => v.category).sum ≤ 8) (k : AW E layC p l e (rmD D) ms m args below meth c nL 0 0 Q (pc + 3) L (.int r :: rest) τ) : AW E layC p l e (rmD D) ms m args below meth c nL 0 0 Q pc L (.int a2 :: .int a1 :: .ref (ea E k0) :: rest) σ :=
  s_callS X [.ref (ea E k0), .int a1, .int a2] rest hM hd w1 g_343 g_67 g_344 nX8_replaced rfl rfl hrs (Nat.le_of_ble_eq_true rfl) hR k
def fX8_replaced (k0 n0 : Nat) (a1 : Int32) (a2 : Int32) (s0 : St) : Option (Int32 × St) :=
    bd1 (ald s0 k0 n0 a1) fun v2 =>
    bd1 (ast s0 k0 n0 a1 a2) fun s4 =>
    some (v2, s4)
set_option maxHeartbeats 4000000 in
set_option maxRecDepth 100000 in
theorem ctX8_replaced {l : Launch} {E : EE} {k0 n0 : Nat} {a1 : Int32} {a2 : Int32} {s0 : St} {r9 : Int32} {t9 : St} (hk0 : layC[k0]? = some (.inr (0, n0))) (h : fX8_replaced k0 n0 a1 a2 s0 = some (r9, t9)) : Ct l E layC yX8_replaced cX8_replaced 4 (some .int) 0 [.ref (ea E k0), .int a1, .int a2] s0 (some (.int r9)) t9 := by
  refine Ct.of (by decide) (Nat.le_of_ble_eq_true rfl) ?_
  intro p e ms m below meth c X hlk hr
  have X : Cx E layC p ms m [.ref (ea E k0), .int a1, .int a2].toArray c cX8_replaced RX8 4 := X
  refine r_sub (L' := [(0, .ref (ea E k0)), (1, .int a1), (2, .int a2)]) [0, 1, 2] rfl ?_
  unfold fX8_replaced at h
  refine r_aload_n X dX8_replaced_0 0 rfl rfl ?_
  refine r_iload_n X dX8_replaced_1 1 rfl rfl ?_
  obtain ⟨g1, v2, ev2, h⟩ := ld_ok h
  refine s_iald X dX8_replaced_2 hk0 g1 ev2 ?_
  refine r_istore_n (L' := [(0, .ref (ea E k0)), (1, .int a1), (2, .int a2), (3, .int v2)]) X dX8_replaced_3 [1, 2, 3, 0] rfl rfl (Nat.le_of_ble_eq_true rfl) ?_
  refine r_aload_n X dX8_replaced_4 0 rfl rfl ?_
  refine r_iload_n X dX8_replaced_5 1 rfl rfl ?_
  refine r_iload_n X dX8_replaced_6 2 rfl rfl ?_
  obtain ⟨g3, s4, es4, h⟩ := as_ok h
  refine s_iast X dX8_replaced_7 hk0 g3 es4 ?_
  refine r_iload_n X dX8_replaced_8 3 rfl rfl ?_
  exact s_iret X hlk hr dX8_replaced_9 h
/-! X8_dish -/
theorem nX8_dish : yX8_dish.cls ≠ "java/lang/invoke/MethodHandle" ∧ yX8_dish.cls ≠ "java/lang/invoke/VarHandle" ∧ (parseMethodDescriptor yX8_dish.desc).map (fun d => d.parameters.length) = some 3 := by decide +kernel
theorem kX8_dish {l : Launch} {E : EE} {p : Program} {e : Env} {ms : State} {m : MethodId} {args : Array Value} {below : List Frame} {meth : Method} {c : Code} {cc : ByteArray} {own : String} {nL pc idx d D : Nat} {Q : State → Prop} {L : List (Nat × Value)} {rest : List Value} {σ τ : St} {a1 : Int32} {a2 : Int32} {a3 : Int32} {r : Int32} {fl : List (Option Nat)} (X : Cx E layC p ms m args c cc own nL) (hM : Ct l E layC yX8_dish cX8_dish 4 (some .int) d [.ref (ea E 0), .int a1, .int a2, .int a3] σ (some (.int r)) τ) (hd : decode cc pc = .ok (.invokevirtual idx, 3)) (hlay : layC[0]? = some (.inl (7, fl))) (w1 : Cond.methodLink own idx yX8_dish ∈ gw) (hR : d + 1 ≤ D) (hrs : (rest.map fun v => v.category).sum ≤ 8) (k : AW E layC p l e (rmD D) ms m args below meth c nL 0 0 Q (pc + 3) L (.int r :: rest) τ) : AW E layC p l e (rmD D) ms m args below meth c nL 0 0 Q pc L (.int a3 :: .int a2 :: .int a1 :: .ref (ea E 0) :: rest) σ :=
  s_callV X [.int a1, .int a2, .int a3] rest hM hd v_X8 hlay w1 g_328 g_329 g_67 g_330 nX8_dish rfl rfl hrs (Nat.le_of_ble_eq_true rfl) hR k
def fX8_dish (a1 : Int32) (a2 : Int32) (a3 : Int32) (s0 : St) : Option (Int32 × St) :=
    bd2 (fX8_isDish a1 s0) fun u3 s1 =>
    jn (fun (s4 : St) =>
    bd2 (fX8_error 1 s4) fun u7 s5 =>
    some (u7, s5)) fun j26 =>
    if u3 = 0 then
    j26 s1
    else
    bd2 (fX8_within a2 0 1 s1) fun u10 s8 =>
    if u10 = 0 then
    j26 s8
    else
    bd2 (fX8_within a3 0 9 s8) fun u13 s11 =>
    if u13 = 0 then
    j26 s11
    else
    if a2 = 0 then
    bd2 (fX8_replaced 3 16 a1 a3 s11) fun u19 s17 =>
    some (u19, s17)
    else
    bd2 (fX8_replaced 4 16 a1 a3 s11) fun u16 s14 =>
    some (u16, s14)
set_option maxHeartbeats 4000000 in
set_option maxRecDepth 100000 in
theorem ctX8_dish {l : Launch} {E : EE} {a1 : Int32} {a2 : Int32} {a3 : Int32} {s0 : St} {r9 : Int32} {t9 : St}  (h : fX8_dish a1 a2 a3 s0 = some (r9, t9)) : Ct l E layC yX8_dish cX8_dish 4 (some .int) 2 [.ref (ea E 0), .int a1, .int a2, .int a3] s0 (some (.int r9)) t9 := by
  refine Ct.of (by decide) (Nat.le_of_ble_eq_true rfl) ?_
  intro p e ms m below meth c X hlk hr
  have X : Cx E layC p ms m [.ref (ea E 0), .int a1, .int a2, .int a3].toArray c cX8_dish RX8 4 := X
  refine r_sub (L' := [(0, .ref (ea E 0)), (1, .int a1), (2, .int a2), (3, .int a3)]) [0, 1, 2, 3] rfl ?_
  unfold fX8_dish at h
  refine r_iload_n X dX8_dish_0 1 rfl rfl ?_
  obtain ⟨u3, s1, e2, h⟩ := bd2_ok h
  refine kX8_isDish X (ctX8_isDish e2) dX8_dish_1 g_331 (Nat.le_of_ble_eq_true rfl) (Nat.le_of_ble_eq_true rfl) ?_
  obtain ⟨j26, ej26, h⟩ := jn1_ok h
  have hj26 : ∀ (s4 : St), j26 s4 = some (r9, t9) → AW E layC p l e (rmD 2) ms m [.ref (ea E 0), .int a1, .int a2, .int a3].toArray below meth c 4 0 0 (MQc E layC below [.ref (ea E 0), .int a1, .int a2, .int a3].toArray ms (some (.int r9)) t9) 26 [(0, .ref (ea E 0))] [] s4 := by
    intro s4 h
    rw [ej26] at h
    refine r_aload_n X dX8_dish_26 0 rfl rfl ?_
    refine r_iconst X dX8_dish_27 (v := 1) (by decide) ?_
    obtain ⟨u7, s5, e6, h⟩ := bd2_ok h
    refine kX8_error X (ctX8_error e6) dX8_dish_28 lC_0 g_337 (Nat.le_of_ble_eq_true rfl) (Nat.le_of_ble_eq_true rfl) ?_
    exact s_iret X hlk hr dX8_dish_31 h
  refine r_if_eq X 26 dX8_dish_4 (by decide) (fun c23 => ?_) (fun c23 => ?_)
  · rw [if_pos c23] at h
    refine r_sub (L' := [(0, .ref (ea E 0))]) [0] rfl ?_
    exact hj26 _ h
  · rw [if_neg c23] at h
    refine r_iload_n X dX8_dish_7 2 rfl rfl ?_
    refine r_iconst X dX8_dish_8 (v := 0) (by decide) ?_
    refine r_iconst X dX8_dish_9 (v := 1) (by decide) ?_
    obtain ⟨u10, s8, e9, h⟩ := bd2_ok h
    refine kX8_within X (ctX8_within e9) dX8_dish_10 g_334 (Nat.le_of_ble_eq_true rfl) (Nat.le_of_ble_eq_true rfl) ?_
    refine r_if_eq X 26 dX8_dish_13 (by decide) (fun c22 => ?_) (fun c22 => ?_)
    · rw [if_pos c22] at h
      refine r_sub (L' := [(0, .ref (ea E 0))]) [0] rfl ?_
      exact hj26 _ h
    · rw [if_neg c22] at h
      refine r_iload_n X dX8_dish_16 3 rfl rfl ?_
      refine r_iconst X dX8_dish_17 (v := 0) (by decide) ?_
      refine r_bipush X dX8_dish_18 (v := 9) (by decide) ?_
      obtain ⟨u13, s11, e12, h⟩ := bd2_ok h
      refine kX8_within X (ctX8_within e12) dX8_dish_20 g_334 (Nat.le_of_ble_eq_true rfl) (Nat.le_of_ble_eq_true rfl) ?_
      refine r_if_ne X 32 dX8_dish_23 (by decide) (fun c21 => ?_) (fun c21 => ?_)
      · rw [if_neg c21] at h
        refine r_iload_n X dX8_dish_32 2 rfl rfl ?_
        refine r_if_ne X 49 dX8_dish_33 (by decide) (fun c20 => ?_) (fun c20 => ?_)
        · rw [if_neg c20] at h
          refine r_aload_n X dX8_dish_49 0 rfl rfl ?_
          refine r_getr X dX8_dish_50 i_X8 v_X8 lC_0 0 rfl (Nat.le_of_ble_eq_true rfl) g_293 ?_
          refine r_getr X dX8_dish_53 i_X7 v_X7 lC_1 0 rfl (Nat.le_of_ble_eq_true rfl) g_177 ?_
          refine r_getr X dX8_dish_56 i_X0 v_X0 lC_2 1 rfl (Nat.le_of_ble_eq_true rfl) g_103 ?_
          refine r_iload_n X dX8_dish_59 1 rfl rfl ?_
          refine r_iload_n X dX8_dish_60 3 rfl rfl ?_
          obtain ⟨u16, s14, e15, h⟩ := bd2_ok h
          refine kX8_replaced X (ctX8_replaced lC_4 e15) dX8_dish_61 g_342 (Nat.le_of_ble_eq_true rfl) (Nat.le_of_ble_eq_true rfl) ?_
          exact s_iret X hlk hr dX8_dish_64 h
        · rw [if_pos c20] at h
          refine r_aload_n X dX8_dish_36 0 rfl rfl ?_
          refine r_getr X dX8_dish_37 i_X8 v_X8 lC_0 0 rfl (Nat.le_of_ble_eq_true rfl) g_293 ?_
          refine r_getr X dX8_dish_40 i_X7 v_X7 lC_1 0 rfl (Nat.le_of_ble_eq_true rfl) g_177 ?_
          refine r_getr X dX8_dish_43 i_X0 v_X0 lC_2 0 rfl (Nat.le_of_ble_eq_true rfl) g_101 ?_
          refine r_goto X 59 dX8_dish_46 (by decide) ?_
          refine r_iload_n X dX8_dish_59 1 rfl rfl ?_
          refine r_iload_n X dX8_dish_60 3 rfl rfl ?_
          obtain ⟨u19, s17, e18, h⟩ := bd2_ok h
          refine kX8_replaced X (ctX8_replaced lC_3 e18) dX8_dish_61 g_342 (Nat.le_of_ble_eq_true rfl) (Nat.le_of_ble_eq_true rfl) ?_
          exact s_iret X hlk hr dX8_dish_64 h
      · rw [if_pos c21] at h
        refine r_sub (L' := [(0, .ref (ea E 0))]) [0] rfl ?_
        exact hj26 _ h
/-! X8_ofDish -/
theorem nX8_ofDish : yX8_ofDish.cls ≠ "java/lang/invoke/MethodHandle" ∧ yX8_ofDish.cls ≠ "java/lang/invoke/VarHandle" ∧ (parseMethodDescriptor yX8_ofDish.desc).map (fun d => d.parameters.length) = some 2 := by decide +kernel
theorem kX8_ofDish {l : Launch} {E : EE} {p : Program} {e : Env} {ms : State} {m : MethodId} {args : Array Value} {below : List Frame} {meth : Method} {c : Code} {cc : ByteArray} {own : String} {nL pc idx d D : Nat} {Q : State → Prop} {L : List (Nat × Value)} {rest : List Value} {σ τ : St} {a1 : Int32} {a2 : Int32} {r : Int32} {fl : List (Option Nat)} (X : Cx E layC p ms m args c cc own nL) (hM : Ct l E layC yX8_ofDish cX8_ofDish 3 (some .int) d [.ref (ea E 0), .int a1, .int a2] σ (some (.int r)) τ) (hd : decode cc pc = .ok (.invokevirtual idx, 3)) (hlay : layC[0]? = some (.inl (7, fl))) (w1 : Cond.methodLink own idx yX8_ofDish ∈ gw) (hR : d + 1 ≤ D) (hrs : (rest.map fun v => v.category).sum ≤ 8) (k : AW E layC p l e (rmD D) ms m args below meth c nL 0 0 Q (pc + 3) L (.int r :: rest) τ) : AW E layC p l e (rmD D) ms m args below meth c nL 0 0 Q pc L (.int a2 :: .int a1 :: .ref (ea E 0) :: rest) σ :=
  s_callV X [.int a1, .int a2] rest hM hd v_X8 hlay w1 g_346 g_347 g_67 g_348 nX8_ofDish rfl rfl hrs (Nat.le_of_ble_eq_true rfl) hR k
def fX8_ofDish (a1 : Int32) (a2 : Int32) (s0 : St) : Option (Int32 × St) :=
    bd2 (fX8_isDish a1 s0) fun u3 s1 =>
    jn (fun (s4 : St) =>
    bd2 (fX8_error 1 s4) fun u7 s5 =>
    some (u7, s5)) fun j16 =>
    if u3 = 0 then
    j16 s1
    else
    bd2 (fX8_within a2 0 2 s1) fun u10 s8 =>
    if u10 = 0 then
    j16 s8
    else
    if a2 = 0 then
    bd1 (ald s8 3 16 a1) fun v18 =>
    some (v18, s8)
    else
    if a2 = 1 then
    bd1 (ald s8 4 16 a1) fun v15 =>
    some (v15, s8)
    else
    bd2 (fX0_coursesOf 2 a1 s8) fun u13 s11 =>
    some (u13, s11)
set_option maxHeartbeats 4000000 in
set_option maxRecDepth 100000 in
theorem ctX8_ofDish {l : Launch} {E : EE} {a1 : Int32} {a2 : Int32} {s0 : St} {r9 : Int32} {t9 : St}  (h : fX8_ofDish a1 a2 s0 = some (r9, t9)) : Ct l E layC yX8_ofDish cX8_ofDish 3 (some .int) 2 [.ref (ea E 0), .int a1, .int a2] s0 (some (.int r9)) t9 := by
  refine Ct.of (by decide) (Nat.le_of_ble_eq_true rfl) ?_
  intro p e ms m below meth c X hlk hr
  have X : Cx E layC p ms m [.ref (ea E 0), .int a1, .int a2].toArray c cX8_ofDish RX8 3 := X
  refine r_sub (L' := [(0, .ref (ea E 0)), (1, .int a1), (2, .int a2)]) [0, 1, 2] rfl ?_
  unfold fX8_ofDish at h
  refine r_iload_n X dX8_ofDish_0 1 rfl rfl ?_
  obtain ⟨u3, s1, e2, h⟩ := bd2_ok h
  refine kX8_isDish X (ctX8_isDish e2) dX8_ofDish_1 g_331 (Nat.le_of_ble_eq_true rfl) (Nat.le_of_ble_eq_true rfl) ?_
  obtain ⟨j16, ej16, h⟩ := jn1_ok h
  have hj16 : ∀ (s4 : St), j16 s4 = some (r9, t9) → AW E layC p l e (rmD 2) ms m [.ref (ea E 0), .int a1, .int a2].toArray below meth c 3 0 0 (MQc E layC below [.ref (ea E 0), .int a1, .int a2].toArray ms (some (.int r9)) t9) 16 [(0, .ref (ea E 0))] [] s4 := by
    intro s4 h
    rw [ej16] at h
    refine r_aload_n X dX8_ofDish_16 0 rfl rfl ?_
    refine r_iconst X dX8_ofDish_17 (v := 1) (by decide) ?_
    obtain ⟨u7, s5, e6, h⟩ := bd2_ok h
    refine kX8_error X (ctX8_error e6) dX8_ofDish_18 lC_0 g_337 (Nat.le_of_ble_eq_true rfl) (Nat.le_of_ble_eq_true rfl) ?_
    exact s_iret X hlk hr dX8_ofDish_21 h
  refine r_if_eq X 16 dX8_ofDish_4 (by decide) (fun c21 => ?_) (fun c21 => ?_)
  · rw [if_pos c21] at h
    refine r_sub (L' := [(0, .ref (ea E 0))]) [0] rfl ?_
    exact hj16 _ h
  · rw [if_neg c21] at h
    refine r_iload_n X dX8_ofDish_7 2 rfl rfl ?_
    refine r_iconst X dX8_ofDish_8 (v := 0) (by decide) ?_
    refine r_iconst X dX8_ofDish_9 (v := 2) (by decide) ?_
    obtain ⟨u10, s8, e9, h⟩ := bd2_ok h
    refine kX8_within X (ctX8_within e9) dX8_ofDish_10 g_334 (Nat.le_of_ble_eq_true rfl) (Nat.le_of_ble_eq_true rfl) ?_
    refine r_if_ne X 22 dX8_ofDish_13 (by decide) (fun c20 => ?_) (fun c20 => ?_)
    · rw [if_neg c20] at h
      refine r_iload_n X dX8_ofDish_22 2 rfl rfl ?_
      refine r_if_ne X 39 dX8_ofDish_23 (by decide) (fun c19 => ?_) (fun c19 => ?_)
      · rw [if_neg c19] at h
        refine r_iload_n X dX8_ofDish_39 2 rfl rfl ?_
        refine r_iconst X dX8_ofDish_40 (v := 1) (by decide) ?_
        refine r_icmp_ne X 59 dX8_ofDish_41 (by decide) (fun c16 => ?_) (fun c16 => ?_)
        · rw [if_neg c16] at h
          refine r_aload_n X dX8_ofDish_59 0 rfl rfl ?_
          refine r_getr X dX8_ofDish_60 i_X8 v_X8 lC_0 0 rfl (Nat.le_of_ble_eq_true rfl) g_293 ?_
          refine r_getr X dX8_ofDish_63 i_X7 v_X7 lC_1 0 rfl (Nat.le_of_ble_eq_true rfl) g_177 ?_
          refine r_iload_n X dX8_ofDish_66 1 rfl rfl ?_
          obtain ⟨u13, s11, e12, h⟩ := bd2_ok h
          refine kX0_coursesOf X (ctX0_coursesOf hH_2 e12) dX8_ofDish_67 lC_2 g_349 (Nat.le_of_ble_eq_true rfl) (Nat.le_of_ble_eq_true rfl) ?_
          exact s_iret X hlk hr dX8_ofDish_70 h
        · rw [if_pos c16] at h
          refine r_aload_n X dX8_ofDish_44 0 rfl rfl ?_
          refine r_getr X dX8_ofDish_45 i_X8 v_X8 lC_0 0 rfl (Nat.le_of_ble_eq_true rfl) g_293 ?_
          refine r_getr X dX8_ofDish_48 i_X7 v_X7 lC_1 0 rfl (Nat.le_of_ble_eq_true rfl) g_177 ?_
          refine r_getr X dX8_ofDish_51 i_X0 v_X0 lC_2 1 rfl (Nat.le_of_ble_eq_true rfl) g_103 ?_
          refine r_iload_n X dX8_ofDish_54 1 rfl rfl ?_
          obtain ⟨g14, v15, ev15, h⟩ := ld_ok h
          refine s_iald X dX8_ofDish_55 lC_4 g14 ev15 ?_
          refine r_goto X 70 dX8_ofDish_56 (by decide) ?_
          exact s_iret X hlk hr dX8_ofDish_70 h
      · rw [if_pos c19] at h
        refine r_aload_n X dX8_ofDish_26 0 rfl rfl ?_
        refine r_getr X dX8_ofDish_27 i_X8 v_X8 lC_0 0 rfl (Nat.le_of_ble_eq_true rfl) g_293 ?_
        refine r_getr X dX8_ofDish_30 i_X7 v_X7 lC_1 0 rfl (Nat.le_of_ble_eq_true rfl) g_177 ?_
        refine r_getr X dX8_ofDish_33 i_X0 v_X0 lC_2 0 rfl (Nat.le_of_ble_eq_true rfl) g_101 ?_
        refine r_iload_n X dX8_ofDish_36 1 rfl rfl ?_
        obtain ⟨g17, v18, ev18, h⟩ := ld_ok h
        refine s_iald X dX8_ofDish_37 lC_3 g17 ev18 ?_
        exact s_iret X hlk hr dX8_ofDish_38 h
    · rw [if_pos c20] at h
      refine r_sub (L' := [(0, .ref (ea E 0))]) [0] rfl ?_
      exact hj16 _ h
/-! X8_isCourse -/
theorem nX8_isCourse : yX8_isCourse.cls ≠ "java/lang/invoke/MethodHandle" ∧ yX8_isCourse.cls ≠ "java/lang/invoke/VarHandle" ∧ (parseMethodDescriptor yX8_isCourse.desc).map (fun d => d.parameters.length) = some 1 := by decide +kernel
theorem kX8_isCourse {l : Launch} {E : EE} {p : Program} {e : Env} {ms : State} {m : MethodId} {args : Array Value} {below : List Frame} {meth : Method} {c : Code} {cc : ByteArray} {own : String} {nL pc idx d D : Nat} {Q : State → Prop} {L : List (Nat × Value)} {rest : List Value} {σ τ : St} {a0 : Int32} {r : Int32} (X : Cx E layC p ms m args c cc own nL) (hM : Ct l E layC yX8_isCourse cX8_isCourse 1 (some .boolean) d [.int a0] σ (some (.int r)) τ) (hd : decode cc pc = .ok (.invokestatic idx, 3)) (w1 : Cond.methodLink own idx yX8_isCourse ∈ gw) (hR : d + 1 ≤ D) (hrs : (rest.map fun v => v.category).sum ≤ 8) (k : AW E layC p l e (rmD D) ms m args below meth c nL 0 0 Q (pc + 3) L (.int r :: rest) τ) : AW E layC p l e (rmD D) ms m args below meth c nL 0 0 Q pc L (.int a0 :: rest) σ :=
  s_callS X [.int a0] rest hM hd w1 g_358 g_67 g_359 nX8_isCourse rfl rfl hrs (Nat.le_of_ble_eq_true rfl) hR k
def fX8_isCourse (a0 : Int32) (s0 : St) : Option (Int32 × St) :=
    bd2 (fX8_within a0 0 5 s0) fun u3 s1 =>
    gb u3 <| some (u3, s1)
set_option maxHeartbeats 4000000 in
set_option maxRecDepth 100000 in
theorem ctX8_isCourse {l : Launch} {E : EE} {a0 : Int32} {s0 : St} {r9 : Int32} {t9 : St}  (h : fX8_isCourse a0 s0 = some (r9, t9)) : Ct l E layC yX8_isCourse cX8_isCourse 1 (some .boolean) 1 [.int a0] s0 (some (.int r9)) t9 := by
  refine Ct.of (by decide) (Nat.le_of_ble_eq_true rfl) ?_
  intro p e ms m below meth c X hlk hr
  have X : Cx E layC p ms m [.int a0].toArray c cX8_isCourse RX8 1 := X
  refine r_sub (L' := [(0, .int a0)]) [0] rfl ?_
  unfold fX8_isCourse at h
  refine r_iload_n X dX8_isCourse_0 0 rfl rfl ?_
  refine r_iconst X dX8_isCourse_1 (v := 0) (by decide) ?_
  refine r_iconst X dX8_isCourse_2 (v := 5) (by decide) ?_
  obtain ⟨u3, s1, e2, h⟩ := bd2_ok h
  refine kX8_within X (ctX8_within e2) dX8_isCourse_3 g_334 (Nat.le_of_ble_eq_true rfl) (Nat.le_of_ble_eq_true rfl) ?_
  obtain ⟨g4, h⟩ := gb_ok h
  exact s_zret X hlk hr g4.1 dX8_isCourse_6 h
/-! X8_menu -/
theorem nX8_menu : yX8_menu.cls ≠ "java/lang/invoke/MethodHandle" ∧ yX8_menu.cls ≠ "java/lang/invoke/VarHandle" ∧ (parseMethodDescriptor yX8_menu.desc).map (fun d => d.parameters.length) = some 2 := by decide +kernel
theorem kX8_menu {l : Launch} {E : EE} {p : Program} {e : Env} {ms : State} {m : MethodId} {args : Array Value} {below : List Frame} {meth : Method} {c : Code} {cc : ByteArray} {own : String} {nL pc idx d D : Nat} {Q : State → Prop} {L : List (Nat × Value)} {rest : List Value} {σ τ : St} {a1 : Int32} {a2 : Int32} {r : Int32} {fl : List (Option Nat)} (X : Cx E layC p ms m args c cc own nL) (hM : Ct l E layC yX8_menu cX8_menu 3 (some .int) d [.ref (ea E 0), .int a1, .int a2] σ (some (.int r)) τ) (hd : decode cc pc = .ok (.invokevirtual idx, 3)) (hlay : layC[0]? = some (.inl (7, fl))) (w1 : Cond.methodLink own idx yX8_menu ∈ gw) (hR : d + 1 ≤ D) (hrs : (rest.map fun v => v.category).sum ≤ 8) (k : AW E layC p l e (rmD D) ms m args below meth c nL 0 0 Q (pc + 3) L (.int r :: rest) τ) : AW E layC p l e (rmD D) ms m args below meth c nL 0 0 Q pc L (.int a2 :: .int a1 :: .ref (ea E 0) :: rest) σ :=
  s_callV X [.int a1, .int a2] rest hM hd v_X8 hlay w1 g_354 g_355 g_67 g_356 nX8_menu rfl rfl hrs (Nat.le_of_ble_eq_true rfl) hR k
def fX8_menu (a1 : Int32) (a2 : Int32) (s0 : St) : Option (Int32 × St) :=
    bd2 (fX8_isCourse a1 s0) fun u3 s1 =>
    jn (fun (s4 : St) =>
    bd2 (fX8_error 1 s4) fun u7 s5 =>
    some (u7, s5)) fun j19 =>
    if u3 = 0 then
    j19 s1
    else
    jn (fun (s8 : St) =>
    if a2 = (-1) then
    bd1 (ald s8 5 6 a1) fun v13 =>
    some (v13, s8)
    else
    bd2 (fX8_replaced 5 6 a1 a2 s8) fun u11 s9 =>
    some (u11, s9)) fun j25 =>
    if a2 = (-1) then
    j25 s1
    else
    bd2 (fX8_isDish a2 s1) fun u17 s15 =>
    if u17 = 0 then
    j19 s15
    else
    j25 s15
set_option maxHeartbeats 4000000 in
set_option maxRecDepth 100000 in
theorem ctX8_menu {l : Launch} {E : EE} {a1 : Int32} {a2 : Int32} {s0 : St} {r9 : Int32} {t9 : St}  (h : fX8_menu a1 a2 s0 = some (r9, t9)) : Ct l E layC yX8_menu cX8_menu 3 (some .int) 2 [.ref (ea E 0), .int a1, .int a2] s0 (some (.int r9)) t9 := by
  refine Ct.of (by decide) (Nat.le_of_ble_eq_true rfl) ?_
  intro p e ms m below meth c X hlk hr
  have X : Cx E layC p ms m [.ref (ea E 0), .int a1, .int a2].toArray c cX8_menu RX8 3 := X
  refine r_sub (L' := [(0, .ref (ea E 0)), (1, .int a1), (2, .int a2)]) [0, 1, 2] rfl ?_
  unfold fX8_menu at h
  refine r_iload_n X dX8_menu_0 1 rfl rfl ?_
  obtain ⟨u3, s1, e2, h⟩ := bd2_ok h
  refine kX8_isCourse X (ctX8_isCourse e2) dX8_menu_1 g_357 (Nat.le_of_ble_eq_true rfl) (Nat.le_of_ble_eq_true rfl) ?_
  obtain ⟨j19, ej19, h⟩ := jn1_ok h
  have hj19 : ∀ (s4 : St), j19 s4 = some (r9, t9) → AW E layC p l e (rmD 2) ms m [.ref (ea E 0), .int a1, .int a2].toArray below meth c 3 0 0 (MQc E layC below [.ref (ea E 0), .int a1, .int a2].toArray ms (some (.int r9)) t9) 19 [(0, .ref (ea E 0))] [] s4 := by
    intro s4 h
    rw [ej19] at h
    refine r_aload_n X dX8_menu_19 0 rfl rfl ?_
    refine r_iconst X dX8_menu_20 (v := 1) (by decide) ?_
    obtain ⟨u7, s5, e6, h⟩ := bd2_ok h
    refine kX8_error X (ctX8_error e6) dX8_menu_21 lC_0 g_337 (Nat.le_of_ble_eq_true rfl) (Nat.le_of_ble_eq_true rfl) ?_
    exact s_iret X hlk hr dX8_menu_24 h
  refine r_if_eq X 19 dX8_menu_4 (by decide) (fun c20 => ?_) (fun c20 => ?_)
  · rw [if_pos c20] at h
    refine r_sub (L' := [(0, .ref (ea E 0))]) [0] rfl ?_
    exact hj19 _ h
  · rw [if_neg c20] at h
    refine r_iload_n X dX8_menu_7 2 rfl rfl ?_
    refine r_iconst X dX8_menu_8 (v := (-1)) (by decide) ?_
    obtain ⟨j25, ej25, h⟩ := jn1_ok h
    have hj25 : ∀ (s8 : St), j25 s8 = some (r9, t9) → AW E layC p l e (rmD 2) ms m [.ref (ea E 0), .int a1, .int a2].toArray below meth c 3 0 0 (MQc E layC below [.ref (ea E 0), .int a1, .int a2].toArray ms (some (.int r9)) t9) 25 [(0, .ref (ea E 0)), (1, .int a1), (2, .int a2)] [] s8 := by
      intro s8 h
      rw [ej25] at h
      refine r_iload_n X dX8_menu_25 2 rfl rfl ?_
      refine r_iconst X dX8_menu_26 (v := (-1)) (by decide) ?_
      refine r_icmp_ne X 45 dX8_menu_27 (by decide) (fun c14 => ?_) (fun c14 => ?_)
      · rw [if_neg c14] at h
        refine r_aload_n X dX8_menu_45 0 rfl rfl ?_
        refine r_getr X dX8_menu_46 i_X8 v_X8 lC_0 0 rfl (Nat.le_of_ble_eq_true rfl) g_293 ?_
        refine r_getr X dX8_menu_49 i_X7 v_X7 lC_1 0 rfl (Nat.le_of_ble_eq_true rfl) g_177 ?_
        refine r_getr X dX8_menu_52 i_X0 v_X0 lC_2 2 rfl (Nat.le_of_ble_eq_true rfl) g_105 ?_
        refine r_iload_n X dX8_menu_55 1 rfl rfl ?_
        refine r_iload_n X dX8_menu_56 2 rfl rfl ?_
        obtain ⟨u11, s9, e10, h⟩ := bd2_ok h
        refine kX8_replaced X (ctX8_replaced lC_5 e10) dX8_menu_57 g_342 (Nat.le_of_ble_eq_true rfl) (Nat.le_of_ble_eq_true rfl) ?_
        exact s_iret X hlk hr dX8_menu_60 h
      · rw [if_pos c14] at h
        refine r_aload_n X dX8_menu_30 0 rfl rfl ?_
        refine r_getr X dX8_menu_31 i_X8 v_X8 lC_0 0 rfl (Nat.le_of_ble_eq_true rfl) g_293 ?_
        refine r_getr X dX8_menu_34 i_X7 v_X7 lC_1 0 rfl (Nat.le_of_ble_eq_true rfl) g_177 ?_
        refine r_getr X dX8_menu_37 i_X0 v_X0 lC_2 2 rfl (Nat.le_of_ble_eq_true rfl) g_105 ?_
        refine r_iload_n X dX8_menu_40 1 rfl rfl ?_
        obtain ⟨g12, v13, ev13, h⟩ := ld_ok h
        refine s_iald X dX8_menu_41 lC_5 g12 ev13 ?_
        refine r_goto X 60 dX8_menu_42 (by decide) ?_
        exact s_iret X hlk hr dX8_menu_60 h
    refine r_icmp_eq X 25 dX8_menu_9 (by decide) (fun c19 => ?_) (fun c19 => ?_)
    · rw [if_pos c19] at h
      exact hj25 _ h
    · rw [if_neg c19] at h
      refine r_iload_n X dX8_menu_12 2 rfl rfl ?_
      obtain ⟨u17, s15, e16, h⟩ := bd2_ok h
      refine kX8_isDish X (ctX8_isDish e16) dX8_menu_13 g_331 (Nat.le_of_ble_eq_true rfl) (Nat.le_of_ble_eq_true rfl) ?_
      refine r_if_ne X 25 dX8_menu_16 (by decide) (fun c18 => ?_) (fun c18 => ?_)
      · rw [if_neg c18] at h
        exact hj25 _ h
      · rw [if_pos c18] at h
        refine r_sub (L' := [(0, .ref (ea E 0))]) [0] rfl ?_
        exact hj19 _ h
/-! X8_house -/
theorem nX8_house : yX8_house.cls ≠ "java/lang/invoke/MethodHandle" ∧ yX8_house.cls ≠ "java/lang/invoke/VarHandle" ∧ (parseMethodDescriptor yX8_house.desc).map (fun d => d.parameters.length) = some 2 := by decide +kernel
theorem kX8_house {l : Launch} {E : EE} {p : Program} {e : Env} {ms : State} {m : MethodId} {args : Array Value} {below : List Frame} {meth : Method} {c : Code} {cc : ByteArray} {own : String} {nL pc idx d D : Nat} {Q : State → Prop} {L : List (Nat × Value)} {rest : List Value} {σ τ : St} {a1 : Int32} {a2 : Int32} {r : Int32} {fl : List (Option Nat)} (X : Cx E layC p ms m args c cc own nL) (hM : Ct l E layC yX8_house cX8_house 4 (some .int) d [.ref (ea E 0), .int a1, .int a2] σ (some (.int r)) τ) (hd : decode cc pc = .ok (.invokevirtual idx, 3)) (hlay : layC[0]? = some (.inl (7, fl))) (w1 : Cond.methodLink own idx yX8_house ∈ gw) (hR : d + 1 ≤ D) (hrs : (rest.map fun v => v.category).sum ≤ 8) (k : AW E layC p l e (rmD D) ms m args below meth c nL 0 0 Q (pc + 3) L (.int r :: rest) τ) : AW E layC p l e (rmD D) ms m args below meth c nL 0 0 Q pc L (.int a2 :: .int a1 :: .ref (ea E 0) :: rest) σ :=
  s_callV X [.int a1, .int a2] rest hM hd v_X8 hlay w1 g_361 g_362 g_67 g_363 nX8_house rfl rfl hrs (Nat.le_of_ble_eq_true rfl) hR k
def fX8_house (a1 : Int32) (a2 : Int32) (s0 : St) : Option (Int32 × St) :=
    bd2 (fX8_within a1 0 1 s0) fun u3 s1 =>
    jn (fun (s4 : St) =>
    bd2 (fX8_error 1 s4) fun u7 s5 =>
    some (u7, s5)) fun j28 =>
    if u3 = 0 then
    j28 s1
    else
    jn (fun (w8 : Int32) =>
    bd2 (fX8_within a2 0 w8 s1) fun u11 s9 =>
    if u11 = 0 then
    j28 s9
    else
    if a1 = 0 then
    bd1 (ptf s9 2 9 a2) fun s13 =>
    some (s9 2 9, s13)
    else
    bd1 (ptf s9 2 10 a2) fun s12 =>
    some (s9 2 10, s12)) fun j22 =>
    if a1 = 0 then
    j22 40
    else
    j22 99999
set_option maxHeartbeats 4000000 in
set_option maxRecDepth 100000 in
theorem ctX8_house {l : Launch} {E : EE} {a1 : Int32} {a2 : Int32} {s0 : St} {r9 : Int32} {t9 : St}  (h : fX8_house a1 a2 s0 = some (r9, t9)) : Ct l E layC yX8_house cX8_house 4 (some .int) 1 [.ref (ea E 0), .int a1, .int a2] s0 (some (.int r9)) t9 := by
  refine Ct.of (by decide) (Nat.le_of_ble_eq_true rfl) ?_
  intro p e ms m below meth c X hlk hr
  have X : Cx E layC p ms m [.ref (ea E 0), .int a1, .int a2].toArray c cX8_house RX8 4 := X
  refine r_sub (L' := [(0, .ref (ea E 0)), (1, .int a1), (2, .int a2)]) [0, 1, 2] rfl ?_
  unfold fX8_house at h
  refine r_iload_n X dX8_house_0 1 rfl rfl ?_
  refine r_iconst X dX8_house_1 (v := 0) (by decide) ?_
  refine r_iconst X dX8_house_2 (v := 1) (by decide) ?_
  obtain ⟨u3, s1, e2, h⟩ := bd2_ok h
  refine kX8_within X (ctX8_within e2) dX8_house_3 g_334 (Nat.le_of_ble_eq_true rfl) (Nat.le_of_ble_eq_true rfl) ?_
  obtain ⟨j28, ej28, h⟩ := jn1_ok h
  have hj28 : ∀ (s4 : St), j28 s4 = some (r9, t9) → AW E layC p l e (rmD 1) ms m [.ref (ea E 0), .int a1, .int a2].toArray below meth c 4 0 0 (MQc E layC below [.ref (ea E 0), .int a1, .int a2].toArray ms (some (.int r9)) t9) 28 [(0, .ref (ea E 0))] [] s4 := by
    intro s4 h
    rw [ej28] at h
    refine r_aload_n X dX8_house_28 0 rfl rfl ?_
    refine r_iconst X dX8_house_29 (v := 1) (by decide) ?_
    obtain ⟨u7, s5, e6, h⟩ := bd2_ok h
    refine kX8_error X (ctX8_error e6) dX8_house_30 lC_0 g_337 (Nat.le_of_ble_eq_true rfl) (Nat.le_of_ble_eq_true rfl) ?_
    exact s_iret X hlk hr dX8_house_33 h
  refine r_if_eq X 28 dX8_house_6 (by decide) (fun c17 => ?_) (fun c17 => ?_)
  · rw [if_pos c17] at h
    refine r_sub (L' := [(0, .ref (ea E 0))]) [0] rfl ?_
    exact hj28 _ h
  · rw [if_neg c17] at h
    refine r_iload_n X dX8_house_9 2 rfl rfl ?_
    refine r_iconst X dX8_house_10 (v := 0) (by decide) ?_
    refine r_iload_n X dX8_house_11 1 rfl rfl ?_
    obtain ⟨j22, ej22, h⟩ := jn1_ok h
    have hj22 : ∀ (w8 : Int32), j22 w8 = some (r9, t9) → AW E layC p l e (rmD 1) ms m [.ref (ea E 0), .int a1, .int a2].toArray below meth c 4 0 0 (MQc E layC below [.ref (ea E 0), .int a1, .int a2].toArray ms (some (.int r9)) t9) 22 [(0, .ref (ea E 0)), (1, .int a1), (2, .int a2)] [.int w8, .int 0, .int a2] s1 := by
      intro w8 h
      rw [ej22] at h
      obtain ⟨u11, s9, e10, h⟩ := bd2_ok h
      refine kX8_within X (ctX8_within e10) dX8_house_22 g_334 (Nat.le_of_ble_eq_true rfl) (Nat.le_of_ble_eq_true rfl) ?_
      refine r_if_ne X 34 dX8_house_25 (by decide) (fun c15 => ?_) (fun c15 => ?_)
      · rw [if_neg c15] at h
        refine r_iload_n X dX8_house_34 1 rfl rfl ?_
        refine r_if_ne X 63 dX8_house_35 (by decide) (fun c14 => ?_) (fun c14 => ?_)
        · rw [if_neg c14] at h
          refine r_aload_n X dX8_house_63 0 rfl rfl ?_
          refine r_getr X dX8_house_64 i_X8 v_X8 lC_0 0 rfl (Nat.le_of_ble_eq_true rfl) g_293 ?_
          refine r_getr X dX8_house_67 i_X7 v_X7 lC_1 0 rfl (Nat.le_of_ble_eq_true rfl) g_177 ?_
          refine r_geti X dX8_house_70 i_X0 v_X0 lC_2 10 rfl (Nat.le_of_ble_eq_true rfl) g_120 ?_
          refine r_istore_n (L' := [(0, .ref (ea E 0)), (2, .int a2), (3, .int (s9 2 10))]) X dX8_house_73 [1, 3, 0] rfl rfl (Nat.le_of_ble_eq_true rfl) ?_
          refine r_aload_n X dX8_house_74 0 rfl rfl ?_
          refine r_getr X dX8_house_75 i_X8 v_X8 lC_0 0 rfl (Nat.le_of_ble_eq_true rfl) g_293 ?_
          refine r_getr X dX8_house_78 i_X7 v_X7 lC_1 0 rfl (Nat.le_of_ble_eq_true rfl) g_177 ?_
          refine r_iload_n X dX8_house_81 1 rfl rfl ?_
          obtain ⟨s12, es12, h⟩ := pt_ok h
          refine s_puti X dX8_house_82 i_X0 tyX0_ok nmX0 v_X0 lC_2 10 rfl (Nat.le_of_ble_eq_true rfl) g_120 rfl rfl ⟨rfl, rfl⟩ es12 ?_
          refine r_iload_n X dX8_house_85 2 rfl rfl ?_
          exact s_iret X hlk hr dX8_house_86 h
        · rw [if_pos c14] at h
          refine r_aload_n X dX8_house_38 0 rfl rfl ?_
          refine r_getr X dX8_house_39 i_X8 v_X8 lC_0 0 rfl (Nat.le_of_ble_eq_true rfl) g_293 ?_
          refine r_getr X dX8_house_42 i_X7 v_X7 lC_1 0 rfl (Nat.le_of_ble_eq_true rfl) g_177 ?_
          refine r_geti X dX8_house_45 i_X0 v_X0 lC_2 9 rfl (Nat.le_of_ble_eq_true rfl) g_118 ?_
          refine r_istore_n (L' := [(0, .ref (ea E 0)), (2, .int a2), (3, .int (s9 2 9))]) X dX8_house_48 [1, 3, 0] rfl rfl (Nat.le_of_ble_eq_true rfl) ?_
          refine r_aload_n X dX8_house_49 0 rfl rfl ?_
          refine r_getr X dX8_house_50 i_X8 v_X8 lC_0 0 rfl (Nat.le_of_ble_eq_true rfl) g_293 ?_
          refine r_getr X dX8_house_53 i_X7 v_X7 lC_1 0 rfl (Nat.le_of_ble_eq_true rfl) g_177 ?_
          refine r_iload_n X dX8_house_56 1 rfl rfl ?_
          obtain ⟨s13, es13, h⟩ := pt_ok h
          refine s_puti X dX8_house_57 i_X0 tyX0_ok nmX0 v_X0 lC_2 9 rfl (Nat.le_of_ble_eq_true rfl) g_118 rfl rfl ⟨rfl, rfl⟩ es13 ?_
          refine r_goto X 85 dX8_house_60 (by decide) ?_
          refine r_iload_n X dX8_house_85 2 rfl rfl ?_
          exact s_iret X hlk hr dX8_house_86 h
      · rw [if_pos c15] at h
        refine r_sub (L' := [(0, .ref (ea E 0))]) [0] rfl ?_
        exact hj28 _ h
    refine r_if_ne X 20 dX8_house_12 (by decide) (fun c16 => ?_) (fun c16 => ?_)
    · rw [if_neg c16] at h
      refine r_ldc X dX8_house_20 g_364 ?_
      exact hj22 _ h
    · rw [if_pos c16] at h
      refine r_bipush X dX8_house_15 (v := 40) (by decide) ?_
      refine r_goto X 22 dX8_house_17 (by decide) ?_
      exact hj22 _ h
/-! X8_isKindAndM -/
theorem nX8_isKindAndM : yX8_isKindAndM.cls ≠ "java/lang/invoke/MethodHandle" ∧ yX8_isKindAndM.cls ≠ "java/lang/invoke/VarHandle" ∧ (parseMethodDescriptor yX8_isKindAndM.desc).map (fun d => d.parameters.length) = some 1 := by decide +kernel
theorem kX8_isKindAndM {l : Launch} {E : EE} {p : Program} {e : Env} {ms : State} {m : MethodId} {args : Array Value} {below : List Frame} {meth : Method} {c : Code} {cc : ByteArray} {own : String} {nL pc idx d D : Nat} {Q : State → Prop} {L : List (Nat × Value)} {rest : List Value} {σ τ : St} {a0 : Int32} {r : Int32} (X : Cx E layC p ms m args c cc own nL) (hM : Ct l E layC yX8_isKindAndM cX8_isKindAndM 1 (some .boolean) d [.int a0] σ (some (.int r)) τ) (hd : decode cc pc = .ok (.invokestatic idx, 3)) (w1 : Cond.methodLink own idx yX8_isKindAndM ∈ gw) (hR : d + 1 ≤ D) (hrs : (rest.map fun v => v.category).sum ≤ 8) (k : AW E layC p l e (rmD D) ms m args below meth c nL 0 0 Q (pc + 3) L (.int r :: rest) τ) : AW E layC p l e (rmD D) ms m args below meth c nL 0 0 Q pc L (.int a0 :: rest) σ :=
  s_callS X [.int a0] rest hM hd w1 g_370 g_67 g_371 nX8_isKindAndM rfl rfl hrs (Nat.le_of_ble_eq_true rfl) hR k
def fX8_isKindAndM (a0 : Int32) (s0 : St) : Option (Int32 × St) :=
    bd2 (fX8_within a0 0 69 s0) fun u3 s1 =>
    gb u3 <| some (u3, s1)
set_option maxHeartbeats 4000000 in
set_option maxRecDepth 100000 in
theorem ctX8_isKindAndM {l : Launch} {E : EE} {a0 : Int32} {s0 : St} {r9 : Int32} {t9 : St}  (h : fX8_isKindAndM a0 s0 = some (r9, t9)) : Ct l E layC yX8_isKindAndM cX8_isKindAndM 1 (some .boolean) 1 [.int a0] s0 (some (.int r9)) t9 := by
  refine Ct.of (by decide) (Nat.le_of_ble_eq_true rfl) ?_
  intro p e ms m below meth c X hlk hr
  have X : Cx E layC p ms m [.int a0].toArray c cX8_isKindAndM RX8 1 := X
  refine r_sub (L' := [(0, .int a0)]) [0] rfl ?_
  unfold fX8_isKindAndM at h
  refine r_iload_n X dX8_isKindAndM_0 0 rfl rfl ?_
  refine r_iconst X dX8_isKindAndM_1 (v := 0) (by decide) ?_
  refine r_bipush X dX8_isKindAndM_2 (v := 69) (by decide) ?_
  obtain ⟨u3, s1, e2, h⟩ := bd2_ok h
  refine kX8_within X (ctX8_within e2) dX8_isKindAndM_4 g_334 (Nat.le_of_ble_eq_true rfl) (Nat.le_of_ble_eq_true rfl) ?_
  obtain ⟨g4, h⟩ := gb_ok h
  exact s_zret X hlk hr g4.1 dX8_isKindAndM_7 h
/-! X8_diner -/
theorem nX8_diner : yX8_diner.cls ≠ "java/lang/invoke/MethodHandle" ∧ yX8_diner.cls ≠ "java/lang/invoke/VarHandle" ∧ (parseMethodDescriptor yX8_diner.desc).map (fun d => d.parameters.length) = some 2 := by decide +kernel
theorem kX8_diner {l : Launch} {E : EE} {p : Program} {e : Env} {ms : State} {m : MethodId} {args : Array Value} {below : List Frame} {meth : Method} {c : Code} {cc : ByteArray} {own : String} {nL pc idx d D : Nat} {Q : State → Prop} {L : List (Nat × Value)} {rest : List Value} {σ τ : St} {a1 : Int32} {a2 : Int32} {r : Int32} {fl : List (Option Nat)} (X : Cx E layC p ms m args c cc own nL) (hM : Ct l E layC yX8_diner cX8_diner 3 (some .int) d [.ref (ea E 0), .int a1, .int a2] σ (some (.int r)) τ) (hd : decode cc pc = .ok (.invokevirtual idx, 3)) (hlay : layC[0]? = some (.inl (7, fl))) (w1 : Cond.methodLink own idx yX8_diner ∈ gw) (hR : d + 1 ≤ D) (hrs : (rest.map fun v => v.category).sum ≤ 8) (k : AW E layC p l e (rmD D) ms m args below meth c nL 0 0 Q (pc + 3) L (.int r :: rest) τ) : AW E layC p l e (rmD D) ms m args below meth c nL 0 0 Q pc L (.int a2 :: .int a1 :: .ref (ea E 0) :: rest) σ :=
  s_callV X [.int a1, .int a2] rest hM hd v_X8 hlay w1 g_366 g_367 g_67 g_368 nX8_diner rfl rfl hrs (Nat.le_of_ble_eq_true rfl) hR k
def fX8_diner (a1 : Int32) (a2 : Int32) (s0 : St) : Option (Int32 × St) :=
    bd2 (fX8_isKindAndM a1 s0) fun u3 s1 =>
    jn (fun (s4 : St) =>
    bd2 (fX8_error 1 s4) fun u7 s5 =>
    some (u7, s5)) fun j17 =>
    if u3 = 0 then
    j17 s1
    else
    bd2 (fX8_within a2 0 9 s1) fun u10 s8 =>
    if u10 = 0 then
    j17 s8
    else
    if (s8 2 12) < 8 then
    bd2 (fX0_seat 2 (a1 / 10) (irm a1 10) a2 s8) fun u13 s11 =>
    some (u13, s11)
    else
    bd2 (fX8_error 4 s8) fun u16 s14 =>
    some (u16, s14)
set_option maxHeartbeats 4000000 in
set_option maxRecDepth 100000 in
theorem ctX8_diner {l : Launch} {E : EE} {a1 : Int32} {a2 : Int32} {s0 : St} {r9 : Int32} {t9 : St}  (h : fX8_diner a1 a2 s0 = some (r9, t9)) : Ct l E layC yX8_diner cX8_diner 3 (some .int) 2 [.ref (ea E 0), .int a1, .int a2] s0 (some (.int r9)) t9 := by
  refine Ct.of (by decide) (Nat.le_of_ble_eq_true rfl) ?_
  intro p e ms m below meth c X hlk hr
  have X : Cx E layC p ms m [.ref (ea E 0), .int a1, .int a2].toArray c cX8_diner RX8 3 := X
  refine r_sub (L' := [(0, .ref (ea E 0)), (1, .int a1), (2, .int a2)]) [0, 1, 2] rfl ?_
  unfold fX8_diner at h
  refine r_iload_n X dX8_diner_0 1 rfl rfl ?_
  obtain ⟨u3, s1, e2, h⟩ := bd2_ok h
  refine kX8_isKindAndM X (ctX8_isKindAndM e2) dX8_diner_1 g_369 (Nat.le_of_ble_eq_true rfl) (Nat.le_of_ble_eq_true rfl) ?_
  obtain ⟨j17, ej17, h⟩ := jn1_ok h
  have hj17 : ∀ (s4 : St), j17 s4 = some (r9, t9) → AW E layC p l e (rmD 2) ms m [.ref (ea E 0), .int a1, .int a2].toArray below meth c 3 0 0 (MQc E layC below [.ref (ea E 0), .int a1, .int a2].toArray ms (some (.int r9)) t9) 17 [(0, .ref (ea E 0))] [] s4 := by
    intro s4 h
    rw [ej17] at h
    refine r_aload_n X dX8_diner_17 0 rfl rfl ?_
    refine r_iconst X dX8_diner_18 (v := 1) (by decide) ?_
    obtain ⟨u7, s5, e6, h⟩ := bd2_ok h
    refine kX8_error X (ctX8_error e6) dX8_diner_19 lC_0 g_337 (Nat.le_of_ble_eq_true rfl) (Nat.le_of_ble_eq_true rfl) ?_
    exact s_iret X hlk hr dX8_diner_22 h
  refine r_if_eq X 17 dX8_diner_4 (by decide) (fun c19 => ?_) (fun c19 => ?_)
  · rw [if_pos c19] at h
    refine r_sub (L' := [(0, .ref (ea E 0))]) [0] rfl ?_
    exact hj17 _ h
  · rw [if_neg c19] at h
    refine r_iload_n X dX8_diner_7 2 rfl rfl ?_
    refine r_iconst X dX8_diner_8 (v := 0) (by decide) ?_
    refine r_bipush X dX8_diner_9 (v := 9) (by decide) ?_
    obtain ⟨u10, s8, e9, h⟩ := bd2_ok h
    refine kX8_within X (ctX8_within e9) dX8_diner_11 g_334 (Nat.le_of_ble_eq_true rfl) (Nat.le_of_ble_eq_true rfl) ?_
    refine r_if_ne X 23 dX8_diner_14 (by decide) (fun c18 => ?_) (fun c18 => ?_)
    · rw [if_neg c18] at h
      refine r_aload_n X dX8_diner_23 0 rfl rfl ?_
      refine r_getr X dX8_diner_24 i_X8 v_X8 lC_0 0 rfl (Nat.le_of_ble_eq_true rfl) g_293 ?_
      refine r_getr X dX8_diner_27 i_X7 v_X7 lC_1 0 rfl (Nat.le_of_ble_eq_true rfl) g_177 ?_
      refine r_geti X dX8_diner_30 i_X0 v_X0 lC_2 12 rfl (Nat.le_of_ble_eq_true rfl) g_124 ?_
      refine r_bipush X dX8_diner_33 (v := 8) (by decide) ?_
      refine r_icmp_lt X 44 dX8_diner_35 (by decide) (fun c17 => ?_) (fun c17 => ?_)
      · rw [if_pos c17] at h
        refine r_aload_n X dX8_diner_44 0 rfl rfl ?_
        refine r_getr X dX8_diner_45 i_X8 v_X8 lC_0 0 rfl (Nat.le_of_ble_eq_true rfl) g_293 ?_
        refine r_getr X dX8_diner_48 i_X7 v_X7 lC_1 0 rfl (Nat.le_of_ble_eq_true rfl) g_177 ?_
        refine r_iload_n X dX8_diner_51 1 rfl rfl ?_
        refine r_bipush X dX8_diner_52 (v := 10) (by decide) ?_
        refine r_idiv X dX8_diner_54 (by decide) ?_
        refine r_iload_n X dX8_diner_55 1 rfl rfl ?_
        refine r_bipush X dX8_diner_56 (v := 10) (by decide) ?_
        refine s_irem X dX8_diner_58 (by decide) ?_
        refine r_iload_n X dX8_diner_59 2 rfl rfl ?_
        obtain ⟨u13, s11, e12, h⟩ := bd2_ok h
        refine kX0_seat X (ctX0_seat hH_2 e12) dX8_diner_60 lC_2 g_372 (Nat.le_of_ble_eq_true rfl) (Nat.le_of_ble_eq_true rfl) ?_
        exact s_iret X hlk hr dX8_diner_63 h
      · rw [if_neg c17] at h
        refine r_aload_n X dX8_diner_38 0 rfl rfl ?_
        refine r_iconst X dX8_diner_39 (v := 4) (by decide) ?_
        obtain ⟨u16, s14, e15, h⟩ := bd2_ok h
        refine kX8_error X (ctX8_error e15) dX8_diner_40 lC_0 g_337 (Nat.le_of_ble_eq_true rfl) (Nat.le_of_ble_eq_true rfl) ?_
        exact s_iret X hlk hr dX8_diner_43 h
    · rw [if_pos c18] at h
      refine r_sub (L' := [(0, .ref (ea E 0))]) [0] rfl ?_
      exact hj17 _ h
/-! X8_isDiner -/
theorem nX8_isDiner : yX8_isDiner.cls ≠ "java/lang/invoke/MethodHandle" ∧ yX8_isDiner.cls ≠ "java/lang/invoke/VarHandle" ∧ (parseMethodDescriptor yX8_isDiner.desc).map (fun d => d.parameters.length) = some 1 := by decide +kernel
theorem kX8_isDiner {l : Launch} {E : EE} {p : Program} {e : Env} {ms : State} {m : MethodId} {args : Array Value} {below : List Frame} {meth : Method} {c : Code} {cc : ByteArray} {own : String} {nL pc idx d D : Nat} {Q : State → Prop} {L : List (Nat × Value)} {rest : List Value} {σ τ : St} {a1 : Int32} {r : Int32} {fl : List (Option Nat)} (X : Cx E layC p ms m args c cc own nL) (hM : Ct l E layC yX8_isDiner cX8_isDiner 2 (some .boolean) d [.ref (ea E 0), .int a1] σ (some (.int r)) τ) (hd : decode cc pc = .ok (.invokevirtual idx, 3)) (hlay : layC[0]? = some (.inl (7, fl))) (w1 : Cond.methodLink own idx yX8_isDiner ∈ gw) (hR : d + 1 ≤ D) (hrs : (rest.map fun v => v.category).sum ≤ 8) (k : AW E layC p l e (rmD D) ms m args below meth c nL 0 0 Q (pc + 3) L (.int r :: rest) τ) : AW E layC p l e (rmD D) ms m args below meth c nL 0 0 Q pc L (.int a1 :: .ref (ea E 0) :: rest) σ :=
  s_callV X [.int a1] rest hM hd v_X8 hlay w1 g_382 g_1 g_67 g_383 nX8_isDiner rfl rfl hrs (Nat.le_of_ble_eq_true rfl) hR k
def fX8_isDiner (a1 : Int32) (s0 : St) : Option (Int32 × St) :=
    bd2 (fX8_within a1 0 ((s0 2 12) - 1) s0) fun u3 s1 =>
    gb u3 <| some (u3, s1)
set_option maxHeartbeats 4000000 in
set_option maxRecDepth 100000 in
theorem ctX8_isDiner {l : Launch} {E : EE} {a1 : Int32} {s0 : St} {r9 : Int32} {t9 : St}  (h : fX8_isDiner a1 s0 = some (r9, t9)) : Ct l E layC yX8_isDiner cX8_isDiner 2 (some .boolean) 1 [.ref (ea E 0), .int a1] s0 (some (.int r9)) t9 := by
  refine Ct.of (by decide) (Nat.le_of_ble_eq_true rfl) ?_
  intro p e ms m below meth c X hlk hr
  have X : Cx E layC p ms m [.ref (ea E 0), .int a1].toArray c cX8_isDiner RX8 2 := X
  refine r_sub (L' := [(0, .ref (ea E 0)), (1, .int a1)]) [0, 1] rfl ?_
  unfold fX8_isDiner at h
  refine r_iload_n X dX8_isDiner_0 1 rfl rfl ?_
  refine r_iconst X dX8_isDiner_1 (v := 0) (by decide) ?_
  refine r_aload_n X dX8_isDiner_2 0 rfl rfl ?_
  refine r_getr X dX8_isDiner_3 i_X8 v_X8 lC_0 0 rfl (Nat.le_of_ble_eq_true rfl) g_293 ?_
  refine r_getr X dX8_isDiner_6 i_X7 v_X7 lC_1 0 rfl (Nat.le_of_ble_eq_true rfl) g_177 ?_
  refine r_geti X dX8_isDiner_9 i_X0 v_X0 lC_2 12 rfl (Nat.le_of_ble_eq_true rfl) g_124 ?_
  refine r_iconst X dX8_isDiner_12 (v := 1) (by decide) ?_
  refine r_isub X dX8_isDiner_13 ?_
  obtain ⟨u3, s1, e2, h⟩ := bd2_ok h
  refine kX8_within X (ctX8_within e2) dX8_isDiner_14 g_334 (Nat.le_of_ble_eq_true rfl) (Nat.le_of_ble_eq_true rfl) ?_
  obtain ⟨g4, h⟩ := gb_ok h
  exact s_zret X hlk hr g4.1 dX8_isDiner_17 h
/-! X8_ofDiner -/
theorem nX8_ofDiner : yX8_ofDiner.cls ≠ "java/lang/invoke/MethodHandle" ∧ yX8_ofDiner.cls ≠ "java/lang/invoke/VarHandle" ∧ (parseMethodDescriptor yX8_ofDiner.desc).map (fun d => d.parameters.length) = some 2 := by decide +kernel
theorem kX8_ofDiner {l : Launch} {E : EE} {p : Program} {e : Env} {ms : State} {m : MethodId} {args : Array Value} {below : List Frame} {meth : Method} {c : Code} {cc : ByteArray} {own : String} {nL pc idx d D : Nat} {Q : State → Prop} {L : List (Nat × Value)} {rest : List Value} {σ τ : St} {a1 : Int32} {a2 : Int32} {r : Int32} {fl : List (Option Nat)} (X : Cx E layC p ms m args c cc own nL) (hM : Ct l E layC yX8_ofDiner cX8_ofDiner 3 (some .int) d [.ref (ea E 0), .int a1, .int a2] σ (some (.int r)) τ) (hd : decode cc pc = .ok (.invokevirtual idx, 3)) (hlay : layC[0]? = some (.inl (7, fl))) (w1 : Cond.methodLink own idx yX8_ofDiner ∈ gw) (hR : d + 1 ≤ D) (hrs : (rest.map fun v => v.category).sum ≤ 8) (k : AW E layC p l e (rmD D) ms m args below meth c nL 0 0 Q (pc + 3) L (.int r :: rest) τ) : AW E layC p l e (rmD D) ms m args below meth c nL 0 0 Q pc L (.int a2 :: .int a1 :: .ref (ea E 0) :: rest) σ :=
  s_callV X [.int a1, .int a2] rest hM hd v_X8 hlay w1 g_377 g_378 g_67 g_379 nX8_ofDiner rfl rfl hrs (Nat.le_of_ble_eq_true rfl) hR k
def fX8_ofDiner (a1 : Int32) (a2 : Int32) (s0 : St) : Option (Int32 × St) :=
    bd2 (fX8_isDiner a1 s0) fun u3 s1 =>
    jn (fun (s4 : St) =>
    bd2 (fX8_error 1 s4) fun u7 s5 =>
    some (u7, s5)) fun j18 =>
    if u3 = 0 then
    j18 s1
    else
    bd2 (fX8_within a2 0 11 s1) fun u10 s8 =>
    if u10 = 0 then
    j18 s8
    else
    if a2 = 0 then
    bd1 (ald s8 6 8 a1) fun v13 =>
    some (v13, s8)
    else if a2 = 1 then
    bd1 (ald s8 7 8 a1) fun v16 =>
    some (v16, s8)
    else if a2 = 2 then
    bd1 (ald s8 8 8 a1) fun v19 =>
    some (v19, s8)
    else if a2 = 3 then
    bd1 (ald s8 9 8 a1) fun v22 =>
    some (v22, s8)
    else if a2 = 4 then
    bd1 (ald s8 10 8 a1) fun v25 =>
    some (v25, s8)
    else if a2 = 5 then
    bd2 (fX0_mendsOf 2 a1 s8) fun u29 s27 =>
    some (u29, s27)
    else bd2 (fX0_leftOf 2 (a2 - 6) a1 s8) fun u32 s30 =>
    some (u32, s30)
set_option maxHeartbeats 4000000 in
set_option maxRecDepth 100000 in
theorem ctX8_ofDiner {l : Launch} {E : EE} {a1 : Int32} {a2 : Int32} {s0 : St} {r9 : Int32} {t9 : St}  (h : fX8_ofDiner a1 a2 s0 = some (r9, t9)) : Ct l E layC yX8_ofDiner cX8_ofDiner 3 (some .int) 4 [.ref (ea E 0), .int a1, .int a2] s0 (some (.int r9)) t9 := by
  refine Ct.of (by decide) (Nat.le_of_ble_eq_true rfl) ?_
  intro p e ms m below meth c X hlk hr
  have X : Cx E layC p ms m [.ref (ea E 0), .int a1, .int a2].toArray c cX8_ofDiner RX8 3 := X
  refine r_sub (L' := [(0, .ref (ea E 0)), (1, .int a1), (2, .int a2)]) [0, 1, 2] rfl ?_
  unfold fX8_ofDiner at h
  refine r_aload_n X dX8_ofDiner_0 0 rfl rfl ?_
  refine r_iload_n X dX8_ofDiner_1 1 rfl rfl ?_
  obtain ⟨u3, s1, e2, h⟩ := bd2_ok h
  refine kX8_isDiner X (ctX8_isDiner e2) dX8_ofDiner_2 lC_0 g_380 (Nat.le_of_ble_eq_true rfl) (Nat.le_of_ble_eq_true rfl) ?_
  obtain ⟨j18, ej18, h⟩ := jn1_ok h
  have hj18 : ∀ (s4 : St), j18 s4 = some (r9, t9) → AW E layC p l e (rmD 4) ms m [.ref (ea E 0), .int a1, .int a2].toArray below meth c 3 0 0 (MQc E layC below [.ref (ea E 0), .int a1, .int a2].toArray ms (some (.int r9)) t9) 18 [(0, .ref (ea E 0))] [] s4 := by
    intro s4 h
    rw [ej18] at h
    refine r_aload_n X dX8_ofDiner_18 0 rfl rfl ?_
    refine r_iconst X dX8_ofDiner_19 (v := 1) (by decide) ?_
    obtain ⟨u7, s5, e6, h⟩ := bd2_ok h
    refine kX8_error X (ctX8_error e6) dX8_ofDiner_20 lC_0 g_337 (Nat.le_of_ble_eq_true rfl) (Nat.le_of_ble_eq_true rfl) ?_
    exact s_iret X hlk hr dX8_ofDiner_23 h
  refine r_if_eq X 18 dX8_ofDiner_5 (by decide) (fun c34 => ?_) (fun c34 => ?_)
  · rw [if_pos c34] at h
    refine r_sub (L' := [(0, .ref (ea E 0))]) [0] rfl ?_
    exact hj18 _ h
  · rw [if_neg c34] at h
    refine r_iload_n X dX8_ofDiner_8 2 rfl rfl ?_
    refine r_iconst X dX8_ofDiner_9 (v := 0) (by decide) ?_
    refine r_bipush X dX8_ofDiner_10 (v := 11) (by decide) ?_
    obtain ⟨u10, s8, e9, h⟩ := bd2_ok h
    refine kX8_within X (ctX8_within e9) dX8_ofDiner_12 g_334 (Nat.le_of_ble_eq_true rfl) (Nat.le_of_ble_eq_true rfl) ?_
    refine r_if_ne X 24 dX8_ofDiner_15 (by decide) (fun c33 => ?_) (fun c33 => ?_)
    · rw [if_neg c33] at h
      refine r_iload_n X dX8_ofDiner_24 2 rfl rfl ?_
      by_cases c11 : a2 = 0
      · rw [if_pos c11] at h
        refine r_tabIn X 64 (0) (by rw [c11]; decide) dX8_ofDiner_25 (by decide) (by decide) rfl (by decide) ?_
        refine r_aload_n X dX8_ofDiner_64 0 rfl rfl ?_
        refine r_getr X dX8_ofDiner_65 i_X8 v_X8 lC_0 0 rfl (Nat.le_of_ble_eq_true rfl) g_293 ?_
        refine r_getr X dX8_ofDiner_68 i_X7 v_X7 lC_1 0 rfl (Nat.le_of_ble_eq_true rfl) g_177 ?_
        refine r_getr X dX8_ofDiner_71 i_X0 v_X0 lC_2 3 rfl (Nat.le_of_ble_eq_true rfl) g_107 ?_
        refine r_iload_n X dX8_ofDiner_74 1 rfl rfl ?_
        obtain ⟨g12, v13, ev13, h⟩ := ld_ok h
        refine s_iald X dX8_ofDiner_75 lC_6 g12 ev13 ?_
        exact s_iret X hlk hr dX8_ofDiner_76 h
      rw [if_neg c11] at h
      by_cases c14 : a2 = 1
      · rw [if_pos c14] at h
        refine r_tabIn X 77 (1) (by rw [c14]; decide) dX8_ofDiner_25 (by decide) (by decide) rfl (by decide) ?_
        refine r_aload_n X dX8_ofDiner_77 0 rfl rfl ?_
        refine r_getr X dX8_ofDiner_78 i_X8 v_X8 lC_0 0 rfl (Nat.le_of_ble_eq_true rfl) g_293 ?_
        refine r_getr X dX8_ofDiner_81 i_X7 v_X7 lC_1 0 rfl (Nat.le_of_ble_eq_true rfl) g_177 ?_
        refine r_getr X dX8_ofDiner_84 i_X0 v_X0 lC_2 4 rfl (Nat.le_of_ble_eq_true rfl) g_109 ?_
        refine r_iload_n X dX8_ofDiner_87 1 rfl rfl ?_
        obtain ⟨g15, v16, ev16, h⟩ := ld_ok h
        refine s_iald X dX8_ofDiner_88 lC_7 g15 ev16 ?_
        exact s_iret X hlk hr dX8_ofDiner_89 h
      rw [if_neg c14] at h
      by_cases c17 : a2 = 2
      · rw [if_pos c17] at h
        refine r_tabIn X 90 (2) (by rw [c17]; decide) dX8_ofDiner_25 (by decide) (by decide) rfl (by decide) ?_
        refine r_aload_n X dX8_ofDiner_90 0 rfl rfl ?_
        refine r_getr X dX8_ofDiner_91 i_X8 v_X8 lC_0 0 rfl (Nat.le_of_ble_eq_true rfl) g_293 ?_
        refine r_getr X dX8_ofDiner_94 i_X7 v_X7 lC_1 0 rfl (Nat.le_of_ble_eq_true rfl) g_177 ?_
        refine r_getr X dX8_ofDiner_97 i_X0 v_X0 lC_2 5 rfl (Nat.le_of_ble_eq_true rfl) g_111 ?_
        refine r_iload_n X dX8_ofDiner_100 1 rfl rfl ?_
        obtain ⟨g18, v19, ev19, h⟩ := ld_ok h
        refine s_iald X dX8_ofDiner_101 lC_8 g18 ev19 ?_
        exact s_iret X hlk hr dX8_ofDiner_102 h
      rw [if_neg c17] at h
      by_cases c20 : a2 = 3
      · rw [if_pos c20] at h
        refine r_tabIn X 103 (3) (by rw [c20]; decide) dX8_ofDiner_25 (by decide) (by decide) rfl (by decide) ?_
        refine r_aload_n X dX8_ofDiner_103 0 rfl rfl ?_
        refine r_getr X dX8_ofDiner_104 i_X8 v_X8 lC_0 0 rfl (Nat.le_of_ble_eq_true rfl) g_293 ?_
        refine r_getr X dX8_ofDiner_107 i_X7 v_X7 lC_1 0 rfl (Nat.le_of_ble_eq_true rfl) g_177 ?_
        refine r_getr X dX8_ofDiner_110 i_X0 v_X0 lC_2 6 rfl (Nat.le_of_ble_eq_true rfl) g_113 ?_
        refine r_iload_n X dX8_ofDiner_113 1 rfl rfl ?_
        obtain ⟨g21, v22, ev22, h⟩ := ld_ok h
        refine s_iald X dX8_ofDiner_114 lC_9 g21 ev22 ?_
        exact s_iret X hlk hr dX8_ofDiner_115 h
      rw [if_neg c20] at h
      by_cases c23 : a2 = 4
      · rw [if_pos c23] at h
        refine r_tabIn X 116 (4) (by rw [c23]; decide) dX8_ofDiner_25 (by decide) (by decide) rfl (by decide) ?_
        refine r_aload_n X dX8_ofDiner_116 0 rfl rfl ?_
        refine r_getr X dX8_ofDiner_117 i_X8 v_X8 lC_0 0 rfl (Nat.le_of_ble_eq_true rfl) g_293 ?_
        refine r_getr X dX8_ofDiner_120 i_X7 v_X7 lC_1 0 rfl (Nat.le_of_ble_eq_true rfl) g_177 ?_
        refine r_getr X dX8_ofDiner_123 i_X0 v_X0 lC_2 7 rfl (Nat.le_of_ble_eq_true rfl) g_115 ?_
        refine r_iload_n X dX8_ofDiner_126 1 rfl rfl ?_
        obtain ⟨g24, v25, ev25, h⟩ := ld_ok h
        refine s_iald X dX8_ofDiner_127 lC_10 g24 ev25 ?_
        exact s_iret X hlk hr dX8_ofDiner_128 h
      rw [if_neg c23] at h
      by_cases c26 : a2 = 5
      · rw [if_pos c26] at h
        refine r_tabIn X 129 (5) (by rw [c26]; decide) dX8_ofDiner_25 (by decide) (by decide) rfl (by decide) ?_
        refine r_aload_n X dX8_ofDiner_129 0 rfl rfl ?_
        refine r_getr X dX8_ofDiner_130 i_X8 v_X8 lC_0 0 rfl (Nat.le_of_ble_eq_true rfl) g_293 ?_
        refine r_getr X dX8_ofDiner_133 i_X7 v_X7 lC_1 0 rfl (Nat.le_of_ble_eq_true rfl) g_177 ?_
        refine r_iload_n X dX8_ofDiner_136 1 rfl rfl ?_
        obtain ⟨u29, s27, e28, h⟩ := bd2_ok h
        refine kX0_mendsOf X (ctX0_mendsOf hH_2 e28) dX8_ofDiner_137 lC_2 g_384 (Nat.le_of_ble_eq_true rfl) (Nat.le_of_ble_eq_true rfl) ?_
        exact s_iret X hlk hr dX8_ofDiner_140 h
      rw [if_neg c26] at h
      have nc11 := lv_neT (k := 0) c11 (a := 0) (by decide)
      have nc14 := lv_neT (k := 1) c14 (a := 1) (by decide)
      have nc17 := lv_neT (k := 2) c17 (a := 2) (by decide)
      have nc20 := lv_neT (k := 3) c20 (a := 3) (by decide)
      have nc23 := lv_neT (k := 4) c23 (a := 4) (by decide)
      have nc26 := lv_neT (k := 5) c26 (a := 5) (by decide)
      refine r_tabOut X 141 dX8_ofDiner_25 (by omega) (by decide) ?_
      refine r_aload_n X dX8_ofDiner_141 0 rfl rfl ?_
      refine r_getr X dX8_ofDiner_142 i_X8 v_X8 lC_0 0 rfl (Nat.le_of_ble_eq_true rfl) g_293 ?_
      refine r_getr X dX8_ofDiner_145 i_X7 v_X7 lC_1 0 rfl (Nat.le_of_ble_eq_true rfl) g_177 ?_
      refine r_aload_n X dX8_ofDiner_148 0 rfl rfl ?_
      refine r_getr X dX8_ofDiner_149 i_X8 v_X8 lC_0 3 rfl (Nat.le_of_ble_eq_true rfl) g_296 ?_
      refine r_iload_n X dX8_ofDiner_152 2 rfl rfl ?_
      refine r_bipush X dX8_ofDiner_153 (v := 6) (by decide) ?_
      refine r_isub X dX8_ofDiner_155 ?_
      refine r_iload_n X dX8_ofDiner_156 1 rfl rfl ?_
      obtain ⟨u32, s30, e31, h⟩ := bd2_ok h
      refine kX0_leftOf X (ctX0_leftOf hH_2 e31) dX8_ofDiner_157 lC_2 g_391 (Nat.le_of_ble_eq_true rfl) (Nat.le_of_ble_eq_true rfl) ?_
      exact s_iret X hlk hr dX8_ofDiner_160 h
    · rw [if_pos c33] at h
      refine r_sub (L' := [(0, .ref (ea E 0))]) [0] rfl ?_
      exact hj18 _ h
/-! X8_isKnown -/
theorem nX8_isKnown : yX8_isKnown.cls ≠ "java/lang/invoke/MethodHandle" ∧ yX8_isKnown.cls ≠ "java/lang/invoke/VarHandle" ∧ (parseMethodDescriptor yX8_isKnown.desc).map (fun d => d.parameters.length) = some 1 := by decide +kernel
theorem kX8_isKnown {l : Launch} {E : EE} {p : Program} {e : Env} {ms : State} {m : MethodId} {args : Array Value} {below : List Frame} {meth : Method} {c : Code} {cc : ByteArray} {own : String} {nL pc idx d D : Nat} {Q : State → Prop} {L : List (Nat × Value)} {rest : List Value} {σ τ : St} {a0 : Int32} {r : Int32} (X : Cx E layC p ms m args c cc own nL) (hM : Ct l E layC yX8_isKnown cX8_isKnown 1 (some .boolean) d [.int a0] σ (some (.int r)) τ) (hd : decode cc pc = .ok (.invokestatic idx, 3)) (w1 : Cond.methodLink own idx yX8_isKnown ∈ gw) (hR : d + 1 ≤ D) (hrs : (rest.map fun v => v.category).sum ≤ 8) (k : AW E layC p l e (rmD D) ms m args below meth c nL 0 0 Q (pc + 3) L (.int r :: rest) τ) : AW E layC p l e (rmD D) ms m args below meth c nL 0 0 Q pc L (.int a0 :: rest) σ :=
  s_callS X [.int a0] rest hM hd w1 g_427 g_67 g_428 nX8_isKnown rfl rfl hrs (Nat.le_of_ble_eq_true rfl) hR k
def fX8_isKnown (a0 : Int32) (s0 : St) : Option (Int32 × St) :=
    bd2 (fX8_within a0 0 99 s0) fun u3 s1 =>
    gb u3 <| some (u3, s1)
set_option maxHeartbeats 4000000 in
set_option maxRecDepth 100000 in
theorem ctX8_isKnown {l : Launch} {E : EE} {a0 : Int32} {s0 : St} {r9 : Int32} {t9 : St}  (h : fX8_isKnown a0 s0 = some (r9, t9)) : Ct l E layC yX8_isKnown cX8_isKnown 1 (some .boolean) 1 [.int a0] s0 (some (.int r9)) t9 := by
  refine Ct.of (by decide) (Nat.le_of_ble_eq_true rfl) ?_
  intro p e ms m below meth c X hlk hr
  have X : Cx E layC p ms m [.int a0].toArray c cX8_isKnown RX8 1 := X
  refine r_sub (L' := [(0, .int a0)]) [0] rfl ?_
  unfold fX8_isKnown at h
  refine r_iload_n X dX8_isKnown_0 0 rfl rfl ?_
  refine r_iconst X dX8_isKnown_1 (v := 0) (by decide) ?_
  refine r_bipush X dX8_isKnown_2 (v := 99) (by decide) ?_
  obtain ⟨u3, s1, e2, h⟩ := bd2_ok h
  refine kX8_within X (ctX8_within e2) dX8_isKnown_4 g_334 (Nat.le_of_ble_eq_true rfl) (Nat.le_of_ble_eq_true rfl) ?_
  obtain ⟨g4, h⟩ := gb_ok h
  exact s_zret X hlk hr g4.1 dX8_isKnown_7 h
/-! X8_change -/
theorem nX8_change : yX8_change.cls ≠ "java/lang/invoke/MethodHandle" ∧ yX8_change.cls ≠ "java/lang/invoke/VarHandle" ∧ (parseMethodDescriptor yX8_change.desc).map (fun d => d.parameters.length) = some 3 := by decide +kernel
theorem kX8_change {l : Launch} {E : EE} {p : Program} {e : Env} {ms : State} {m : MethodId} {args : Array Value} {below : List Frame} {meth : Method} {c : Code} {cc : ByteArray} {own : String} {nL pc idx d D : Nat} {Q : State → Prop} {L : List (Nat × Value)} {rest : List Value} {σ τ : St} {a1 : Int32} {a2 : Int32} {a3 : Int32} {r : Int32} {fl : List (Option Nat)} (X : Cx E layC p ms m args c cc own nL) (hM : Ct l E layC yX8_change cX8_change 4 (some .int) d [.ref (ea E 0), .int a1, .int a2, .int a3] σ (some (.int r)) τ) (hd : decode cc pc = .ok (.invokevirtual idx, 3)) (hlay : layC[0]? = some (.inl (7, fl))) (w1 : Cond.methodLink own idx yX8_change ∈ gw) (hR : d + 1 ≤ D) (hrs : (rest.map fun v => v.category).sum ≤ 8) (k : AW E layC p l e (rmD D) ms m args below meth c nL 0 0 Q (pc + 3) L (.int r :: rest) τ) : AW E layC p l e (rmD D) ms m args below meth c nL 0 0 Q pc L (.int a3 :: .int a2 :: .int a1 :: .ref (ea E 0) :: rest) σ :=
  s_callV X [.int a1, .int a2, .int a3] rest hM hd v_X8 hlay w1 g_423 g_424 g_67 g_425 nX8_change rfl rfl hrs (Nat.le_of_ble_eq_true rfl) hR k
def fX8_change (a1 : Int32) (a2 : Int32) (a3 : Int32) (s0 : St) : Option (Int32 × St) :=
    bd2 (fX8_isDiner a1 s0) fun u3 s1 =>
    jn (fun (s4 : St) =>
    bd2 (fX8_error 1 s4) fun u7 s5 =>
    some (u7, s5)) fun j17 =>
    if u3 = 0 then
    j17 s1
    else
    bd2 (fX8_within a2 0 2 s1) fun u10 s8 =>
    if u10 = 0 then
    j17 s8
    else
    if a2 = 0 then
    bd2 (fX8_within a3 0 9 s8) fun u34 s32 =>
    if u34 = 0 then
    bd2 (fX8_error 1 s32) fun u37 s35 =>
    some (u37, s35)
    else
    bd2 (fX8_replaced 8 8 a1 a3 s32) fun u40 s38 =>
    some (u40, s38)
    else
    if a2 = 1 then
    bd2 (fX8_within a3 0 7 s8) fun u23 s21 =>
    if u23 = 0 then
    bd2 (fX8_error 1 s21) fun u26 s24 =>
    some (u26, s24)
    else
    bd2 (fX8_replaced 9 8 a1 a3 s21) fun u29 s27 =>
    some (u29, s27)
    else
    bd2 (fX8_isKnown a3 s8) fun u13 s11 =>
    if u13 = 0 then
    bd2 (fX8_error 1 s11) fun u16 s14 =>
    some (u16, s14)
    else
    bd2 (fX8_replaced 10 8 a1 a3 s11) fun u19 s17 =>
    some (u19, s17)
set_option maxHeartbeats 4000000 in
set_option maxRecDepth 100000 in
theorem ctX8_change {l : Launch} {E : EE} {a1 : Int32} {a2 : Int32} {a3 : Int32} {s0 : St} {r9 : Int32} {t9 : St}  (h : fX8_change a1 a2 a3 s0 = some (r9, t9)) : Ct l E layC yX8_change cX8_change 4 (some .int) 2 [.ref (ea E 0), .int a1, .int a2, .int a3] s0 (some (.int r9)) t9 := by
  refine Ct.of (by decide) (Nat.le_of_ble_eq_true rfl) ?_
  intro p e ms m below meth c X hlk hr
  have X : Cx E layC p ms m [.ref (ea E 0), .int a1, .int a2, .int a3].toArray c cX8_change RX8 4 := X
  refine r_sub (L' := [(0, .ref (ea E 0)), (1, .int a1), (2, .int a2), (3, .int a3)]) [0, 1, 2, 3] rfl ?_
  unfold fX8_change at h
  refine r_aload_n X dX8_change_0 0 rfl rfl ?_
  refine r_iload_n X dX8_change_1 1 rfl rfl ?_
  obtain ⟨u3, s1, e2, h⟩ := bd2_ok h
  refine kX8_isDiner X (ctX8_isDiner e2) dX8_change_2 lC_0 g_380 (Nat.le_of_ble_eq_true rfl) (Nat.le_of_ble_eq_true rfl) ?_
  obtain ⟨j17, ej17, h⟩ := jn1_ok h
  have hj17 : ∀ (s4 : St), j17 s4 = some (r9, t9) → AW E layC p l e (rmD 2) ms m [.ref (ea E 0), .int a1, .int a2, .int a3].toArray below meth c 4 0 0 (MQc E layC below [.ref (ea E 0), .int a1, .int a2, .int a3].toArray ms (some (.int r9)) t9) 17 [(0, .ref (ea E 0))] [] s4 := by
    intro s4 h
    rw [ej17] at h
    refine r_aload_n X dX8_change_17 0 rfl rfl ?_
    refine r_iconst X dX8_change_18 (v := 1) (by decide) ?_
    obtain ⟨u7, s5, e6, h⟩ := bd2_ok h
    refine kX8_error X (ctX8_error e6) dX8_change_19 lC_0 g_337 (Nat.le_of_ble_eq_true rfl) (Nat.le_of_ble_eq_true rfl) ?_
    exact s_iret X hlk hr dX8_change_22 h
  refine r_if_eq X 17 dX8_change_5 (by decide) (fun c44 => ?_) (fun c44 => ?_)
  · rw [if_pos c44] at h
    refine r_sub (L' := [(0, .ref (ea E 0))]) [0] rfl ?_
    exact hj17 _ h
  · rw [if_neg c44] at h
    refine r_iload_n X dX8_change_8 2 rfl rfl ?_
    refine r_iconst X dX8_change_9 (v := 0) (by decide) ?_
    refine r_iconst X dX8_change_10 (v := 2) (by decide) ?_
    obtain ⟨u10, s8, e9, h⟩ := bd2_ok h
    refine kX8_within X (ctX8_within e9) dX8_change_11 g_334 (Nat.le_of_ble_eq_true rfl) (Nat.le_of_ble_eq_true rfl) ?_
    refine r_if_ne X 23 dX8_change_14 (by decide) (fun c43 => ?_) (fun c43 => ?_)
    · rw [if_neg c43] at h
      refine r_iload_n X dX8_change_23 2 rfl rfl ?_
      refine r_if_ne X 61 dX8_change_24 (by decide) (fun c42 => ?_) (fun c42 => ?_)
      · rw [if_neg c42] at h
        refine r_iload_n X dX8_change_61 2 rfl rfl ?_
        refine r_iconst X dX8_change_62 (v := 1) (by decide) ?_
        refine r_icmp_ne X 100 dX8_change_63 (by decide) (fun c31 => ?_) (fun c31 => ?_)
        · rw [if_neg c31] at h
          refine r_iload_n X dX8_change_100 3 rfl rfl ?_
          obtain ⟨u13, s11, e12, h⟩ := bd2_ok h
          refine kX8_isKnown X (ctX8_isKnown e12) dX8_change_101 g_426 (Nat.le_of_ble_eq_true rfl) (Nat.le_of_ble_eq_true rfl) ?_
          refine r_if_eq X 125 dX8_change_104 (by decide) (fun c20 => ?_) (fun c20 => ?_)
          · rw [if_pos c20] at h
            refine r_aload_n X dX8_change_125 0 rfl rfl ?_
            refine r_iconst X dX8_change_126 (v := 1) (by decide) ?_
            obtain ⟨u16, s14, e15, h⟩ := bd2_ok h
            refine kX8_error X (ctX8_error e15) dX8_change_127 lC_0 g_337 (Nat.le_of_ble_eq_true rfl) (Nat.le_of_ble_eq_true rfl) ?_
            exact s_iret X hlk hr dX8_change_130 h
          · rw [if_neg c20] at h
            refine r_aload_n X dX8_change_107 0 rfl rfl ?_
            refine r_getr X dX8_change_108 i_X8 v_X8 lC_0 0 rfl (Nat.le_of_ble_eq_true rfl) g_293 ?_
            refine r_getr X dX8_change_111 i_X7 v_X7 lC_1 0 rfl (Nat.le_of_ble_eq_true rfl) g_177 ?_
            refine r_getr X dX8_change_114 i_X0 v_X0 lC_2 7 rfl (Nat.le_of_ble_eq_true rfl) g_115 ?_
            refine r_iload_n X dX8_change_117 1 rfl rfl ?_
            refine r_iload_n X dX8_change_118 3 rfl rfl ?_
            obtain ⟨u19, s17, e18, h⟩ := bd2_ok h
            refine kX8_replaced X (ctX8_replaced lC_10 e18) dX8_change_119 g_342 (Nat.le_of_ble_eq_true rfl) (Nat.le_of_ble_eq_true rfl) ?_
            refine r_goto X 130 dX8_change_122 (by decide) ?_
            exact s_iret X hlk hr dX8_change_130 h
        · rw [if_pos c31] at h
          refine r_iload_n X dX8_change_66 3 rfl rfl ?_
          refine r_iconst X dX8_change_67 (v := 0) (by decide) ?_
          refine r_bipush X dX8_change_68 (v := 7) (by decide) ?_
          obtain ⟨u23, s21, e22, h⟩ := bd2_ok h
          refine kX8_within X (ctX8_within e22) dX8_change_70 g_334 (Nat.le_of_ble_eq_true rfl) (Nat.le_of_ble_eq_true rfl) ?_
          refine r_if_eq X 94 dX8_change_73 (by decide) (fun c30 => ?_) (fun c30 => ?_)
          · rw [if_pos c30] at h
            refine r_aload_n X dX8_change_94 0 rfl rfl ?_
            refine r_iconst X dX8_change_95 (v := 1) (by decide) ?_
            obtain ⟨u26, s24, e25, h⟩ := bd2_ok h
            refine kX8_error X (ctX8_error e25) dX8_change_96 lC_0 g_337 (Nat.le_of_ble_eq_true rfl) (Nat.le_of_ble_eq_true rfl) ?_
            exact s_iret X hlk hr dX8_change_99 h
          · rw [if_neg c30] at h
            refine r_aload_n X dX8_change_76 0 rfl rfl ?_
            refine r_getr X dX8_change_77 i_X8 v_X8 lC_0 0 rfl (Nat.le_of_ble_eq_true rfl) g_293 ?_
            refine r_getr X dX8_change_80 i_X7 v_X7 lC_1 0 rfl (Nat.le_of_ble_eq_true rfl) g_177 ?_
            refine r_getr X dX8_change_83 i_X0 v_X0 lC_2 6 rfl (Nat.le_of_ble_eq_true rfl) g_113 ?_
            refine r_iload_n X dX8_change_86 1 rfl rfl ?_
            refine r_iload_n X dX8_change_87 3 rfl rfl ?_
            obtain ⟨u29, s27, e28, h⟩ := bd2_ok h
            refine kX8_replaced X (ctX8_replaced lC_9 e28) dX8_change_88 g_342 (Nat.le_of_ble_eq_true rfl) (Nat.le_of_ble_eq_true rfl) ?_
            refine r_goto X 99 dX8_change_91 (by decide) ?_
            exact s_iret X hlk hr dX8_change_99 h
      · rw [if_pos c42] at h
        refine r_iload_n X dX8_change_27 3 rfl rfl ?_
        refine r_iconst X dX8_change_28 (v := 0) (by decide) ?_
        refine r_bipush X dX8_change_29 (v := 9) (by decide) ?_
        obtain ⟨u34, s32, e33, h⟩ := bd2_ok h
        refine kX8_within X (ctX8_within e33) dX8_change_31 g_334 (Nat.le_of_ble_eq_true rfl) (Nat.le_of_ble_eq_true rfl) ?_
        refine r_if_eq X 55 dX8_change_34 (by decide) (fun c41 => ?_) (fun c41 => ?_)
        · rw [if_pos c41] at h
          refine r_aload_n X dX8_change_55 0 rfl rfl ?_
          refine r_iconst X dX8_change_56 (v := 1) (by decide) ?_
          obtain ⟨u37, s35, e36, h⟩ := bd2_ok h
          refine kX8_error X (ctX8_error e36) dX8_change_57 lC_0 g_337 (Nat.le_of_ble_eq_true rfl) (Nat.le_of_ble_eq_true rfl) ?_
          exact s_iret X hlk hr dX8_change_60 h
        · rw [if_neg c41] at h
          refine r_aload_n X dX8_change_37 0 rfl rfl ?_
          refine r_getr X dX8_change_38 i_X8 v_X8 lC_0 0 rfl (Nat.le_of_ble_eq_true rfl) g_293 ?_
          refine r_getr X dX8_change_41 i_X7 v_X7 lC_1 0 rfl (Nat.le_of_ble_eq_true rfl) g_177 ?_
          refine r_getr X dX8_change_44 i_X0 v_X0 lC_2 5 rfl (Nat.le_of_ble_eq_true rfl) g_111 ?_
          refine r_iload_n X dX8_change_47 1 rfl rfl ?_
          refine r_iload_n X dX8_change_48 3 rfl rfl ?_
          obtain ⟨u40, s38, e39, h⟩ := bd2_ok h
          refine kX8_replaced X (ctX8_replaced lC_8 e39) dX8_change_49 g_342 (Nat.le_of_ble_eq_true rfl) (Nat.le_of_ble_eq_true rfl) ?_
          refine r_goto X 60 dX8_change_52 (by decide) ?_
          exact s_iret X hlk hr dX8_change_60 h
    · rw [if_pos c43] at h
      refine r_sub (L' := [(0, .ref (ea E 0))]) [0] rfl ?_
      exact hj17 _ h
/-! X8_become -/
theorem nX8_become : yX8_become.cls ≠ "java/lang/invoke/MethodHandle" ∧ yX8_become.cls ≠ "java/lang/invoke/VarHandle" ∧ (parseMethodDescriptor yX8_become.desc).map (fun d => d.parameters.length) = some 2 := by decide +kernel
theorem kX8_become {l : Launch} {E : EE} {p : Program} {e : Env} {ms : State} {m : MethodId} {args : Array Value} {below : List Frame} {meth : Method} {c : Code} {cc : ByteArray} {own : String} {nL pc idx d D : Nat} {Q : State → Prop} {L : List (Nat × Value)} {rest : List Value} {σ τ : St} {a1 : Int32} {a2 : Int32} {r : Int32} {fl : List (Option Nat)} (X : Cx E layC p ms m args c cc own nL) (hM : Ct l E layC yX8_become cX8_become 3 (some .int) d [.ref (ea E 0), .int a1, .int a2] σ (some (.int r)) τ) (hd : decode cc pc = .ok (.invokevirtual idx, 3)) (hlay : layC[0]? = some (.inl (7, fl))) (w1 : Cond.methodLink own idx yX8_become ∈ gw) (hR : d + 1 ≤ D) (hrs : (rest.map fun v => v.category).sum ≤ 8) (k : AW E layC p l e (rmD D) ms m args below meth c nL 0 0 Q (pc + 3) L (.int r :: rest) τ) : AW E layC p l e (rmD D) ms m args below meth c nL 0 0 Q pc L (.int a2 :: .int a1 :: .ref (ea E 0) :: rest) σ :=
  s_callV X [.int a1, .int a2] rest hM hd v_X8 hlay w1 g_430 g_431 g_67 g_432 nX8_become rfl rfl hrs (Nat.le_of_ble_eq_true rfl) hR k
def fX8_become (a1 : Int32) (a2 : Int32) (s0 : St) : Option (Int32 × St) :=
    bd2 (fX8_isDiner a1 s0) fun u3 s1 =>
    jn (fun (s4 : St) =>
    bd2 (fX8_error 1 s4) fun u7 s5 =>
    some (u7, s5)) fun j15 =>
    if u3 = 0 then
    j15 s1
    else
    bd2 (fX8_isKindAndM a2 s1) fun u10 s8 =>
    if u10 = 0 then
    j15 s8
    else
    bd1 (ast s8 7 8 a1 (irm a2 10)) fun s12 =>
    bd2 (fX8_replaced 6 8 a1 (a2 / 10) s12) fun u15 s13 =>
    some (u15, s13)
set_option maxHeartbeats 4000000 in
set_option maxRecDepth 100000 in
theorem ctX8_become {l : Launch} {E : EE} {a1 : Int32} {a2 : Int32} {s0 : St} {r9 : Int32} {t9 : St}  (h : fX8_become a1 a2 s0 = some (r9, t9)) : Ct l E layC yX8_become cX8_become 3 (some .int) 2 [.ref (ea E 0), .int a1, .int a2] s0 (some (.int r9)) t9 := by
  refine Ct.of (by decide) (Nat.le_of_ble_eq_true rfl) ?_
  intro p e ms m below meth c X hlk hr
  have X : Cx E layC p ms m [.ref (ea E 0), .int a1, .int a2].toArray c cX8_become RX8 3 := X
  refine r_sub (L' := [(0, .ref (ea E 0)), (1, .int a1), (2, .int a2)]) [0, 1, 2] rfl ?_
  unfold fX8_become at h
  refine r_aload_n X dX8_become_0 0 rfl rfl ?_
  refine r_iload_n X dX8_become_1 1 rfl rfl ?_
  obtain ⟨u3, s1, e2, h⟩ := bd2_ok h
  refine kX8_isDiner X (ctX8_isDiner e2) dX8_become_2 lC_0 g_380 (Nat.le_of_ble_eq_true rfl) (Nat.le_of_ble_eq_true rfl) ?_
  obtain ⟨j15, ej15, h⟩ := jn1_ok h
  have hj15 : ∀ (s4 : St), j15 s4 = some (r9, t9) → AW E layC p l e (rmD 2) ms m [.ref (ea E 0), .int a1, .int a2].toArray below meth c 3 0 0 (MQc E layC below [.ref (ea E 0), .int a1, .int a2].toArray ms (some (.int r9)) t9) 15 [(0, .ref (ea E 0))] [] s4 := by
    intro s4 h
    rw [ej15] at h
    refine r_aload_n X dX8_become_15 0 rfl rfl ?_
    refine r_iconst X dX8_become_16 (v := 1) (by decide) ?_
    obtain ⟨u7, s5, e6, h⟩ := bd2_ok h
    refine kX8_error X (ctX8_error e6) dX8_become_17 lC_0 g_337 (Nat.le_of_ble_eq_true rfl) (Nat.le_of_ble_eq_true rfl) ?_
    exact s_iret X hlk hr dX8_become_20 h
  refine r_if_eq X 15 dX8_become_5 (by decide) (fun c17 => ?_) (fun c17 => ?_)
  · rw [if_pos c17] at h
    refine r_sub (L' := [(0, .ref (ea E 0))]) [0] rfl ?_
    exact hj15 _ h
  · rw [if_neg c17] at h
    refine r_iload_n X dX8_become_8 2 rfl rfl ?_
    obtain ⟨u10, s8, e9, h⟩ := bd2_ok h
    refine kX8_isKindAndM X (ctX8_isKindAndM e9) dX8_become_9 g_369 (Nat.le_of_ble_eq_true rfl) (Nat.le_of_ble_eq_true rfl) ?_
    refine r_if_ne X 21 dX8_become_12 (by decide) (fun c16 => ?_) (fun c16 => ?_)
    · rw [if_neg c16] at h
      refine r_aload_n X dX8_become_21 0 rfl rfl ?_
      refine r_getr X dX8_become_22 i_X8 v_X8 lC_0 0 rfl (Nat.le_of_ble_eq_true rfl) g_293 ?_
      refine r_getr X dX8_become_25 i_X7 v_X7 lC_1 0 rfl (Nat.le_of_ble_eq_true rfl) g_177 ?_
      refine r_getr X dX8_become_28 i_X0 v_X0 lC_2 4 rfl (Nat.le_of_ble_eq_true rfl) g_109 ?_
      refine r_iload_n X dX8_become_31 1 rfl rfl ?_
      refine r_iload_n X dX8_become_32 2 rfl rfl ?_
      refine r_bipush X dX8_become_33 (v := 10) (by decide) ?_
      refine s_irem X dX8_become_35 (by decide) ?_
      obtain ⟨g11, s12, es12, h⟩ := as_ok h
      refine s_iast X dX8_become_36 lC_7 g11 es12 ?_
      refine r_aload_n X dX8_become_37 0 rfl rfl ?_
      refine r_getr X dX8_become_38 i_X8 v_X8 lC_0 0 rfl (Nat.le_of_ble_eq_true rfl) g_293 ?_
      refine r_getr X dX8_become_41 i_X7 v_X7 lC_1 0 rfl (Nat.le_of_ble_eq_true rfl) g_177 ?_
      refine r_getr X dX8_become_44 i_X0 v_X0 lC_2 3 rfl (Nat.le_of_ble_eq_true rfl) g_107 ?_
      refine r_iload_n X dX8_become_47 1 rfl rfl ?_
      refine r_iload_n X dX8_become_48 2 rfl rfl ?_
      refine r_bipush X dX8_become_49 (v := 10) (by decide) ?_
      refine r_idiv X dX8_become_51 (by decide) ?_
      obtain ⟨u15, s13, e14, h⟩ := bd2_ok h
      refine kX8_replaced X (ctX8_replaced lC_6 e14) dX8_become_52 g_342 (Nat.le_of_ble_eq_true rfl) (Nat.le_of_ble_eq_true rfl) ?_
      exact s_iret X hlk hr dX8_become_55 h
    · rw [if_pos c16] at h
      refine r_sub (L' := [(0, .ref (ea E 0))]) [0] rfl ?_
      exact hj15 _ h
/-! X8_as -/
theorem nX8_as : yX8_as.cls ≠ "java/lang/invoke/MethodHandle" ∧ yX8_as.cls ≠ "java/lang/invoke/VarHandle" ∧ (parseMethodDescriptor yX8_as.desc).map (fun d => d.parameters.length) = some 2 := by decide +kernel
theorem kX8_as {l : Launch} {E : EE} {p : Program} {e : Env} {ms : State} {m : MethodId} {args : Array Value} {below : List Frame} {meth : Method} {c : Code} {cc : ByteArray} {own : String} {nL pc idx d D : Nat} {Q : State → Prop} {L : List (Nat × Value)} {rest : List Value} {σ τ : St} {a1 : Int32} {a2 : Int32} {r : Int32} {fl : List (Option Nat)} (X : Cx E layC p ms m args c cc own nL) (hM : Ct l E layC yX8_as cX8_as 3 (some .int) d [.ref (ea E 0), .int a1, .int a2] σ (some (.int r)) τ) (hd : decode cc pc = .ok (.invokevirtual idx, 3)) (hlay : layC[0]? = some (.inl (7, fl))) (w1 : Cond.methodLink own idx yX8_as ∈ gw) (hR : d + 1 ≤ D) (hrs : (rest.map fun v => v.category).sum ≤ 8) (k : AW E layC p l e (rmD D) ms m args below meth c nL 0 0 Q (pc + 3) L (.int r :: rest) τ) : AW E layC p l e (rmD D) ms m args below meth c nL 0 0 Q pc L (.int a2 :: .int a1 :: .ref (ea E 0) :: rest) σ :=
  s_callV X [.int a1, .int a2] rest hM hd v_X8 hlay w1 g_434 g_435 g_67 g_436 nX8_as rfl rfl hrs (Nat.le_of_ble_eq_true rfl) hR k
def fX8_as (a1 : Int32) (a2 : Int32) (s0 : St) : Option (Int32 × St) :=
    bd2 (fX8_isDiner a1 s0) fun u3 s1 =>
    jn (fun (s4 : St) =>
    bd2 (fX8_error 1 s4) fun u7 s5 =>
    some (u7, s5)) fun j18 =>
    if u3 = 0 then
    j18 s1
    else
    bd2 (fX8_within a2 0 6 s1) fun u10 s8 =>
    if u10 = 0 then
    j18 s8
    else
    bd1 (ald s8 6 8 a1) fun v12 =>
    bd2 (fX1_isUnder v12 a2 s8) fun u15 s13 =>
    if u15 = 0 then
    bd2 (fX8_error 5 s13) fun u18 s16 =>
    some (u18, s16)
    else
    bd1 (ald s13 7 8 a1) fun v20 =>
    some (v20, s13)
set_option maxHeartbeats 4000000 in
set_option maxRecDepth 100000 in
theorem ctX8_as {l : Launch} {E : EE} {a1 : Int32} {a2 : Int32} {s0 : St} {r9 : Int32} {t9 : St}  (h : fX8_as a1 a2 s0 = some (r9, t9)) : Ct l E layC yX8_as cX8_as 3 (some .int) 2 [.ref (ea E 0), .int a1, .int a2] s0 (some (.int r9)) t9 := by
  refine Ct.of (by decide) (Nat.le_of_ble_eq_true rfl) ?_
  intro p e ms m below meth c X hlk hr
  have X : Cx E layC p ms m [.ref (ea E 0), .int a1, .int a2].toArray c cX8_as RX8 3 := X
  refine r_sub (L' := [(0, .ref (ea E 0)), (1, .int a1), (2, .int a2)]) [0, 1, 2] rfl ?_
  unfold fX8_as at h
  refine r_aload_n X dX8_as_0 0 rfl rfl ?_
  refine r_iload_n X dX8_as_1 1 rfl rfl ?_
  obtain ⟨u3, s1, e2, h⟩ := bd2_ok h
  refine kX8_isDiner X (ctX8_isDiner e2) dX8_as_2 lC_0 g_380 (Nat.le_of_ble_eq_true rfl) (Nat.le_of_ble_eq_true rfl) ?_
  obtain ⟨j18, ej18, h⟩ := jn1_ok h
  have hj18 : ∀ (s4 : St), j18 s4 = some (r9, t9) → AW E layC p l e (rmD 2) ms m [.ref (ea E 0), .int a1, .int a2].toArray below meth c 3 0 0 (MQc E layC below [.ref (ea E 0), .int a1, .int a2].toArray ms (some (.int r9)) t9) 18 [(0, .ref (ea E 0))] [] s4 := by
    intro s4 h
    rw [ej18] at h
    refine r_aload_n X dX8_as_18 0 rfl rfl ?_
    refine r_iconst X dX8_as_19 (v := 1) (by decide) ?_
    obtain ⟨u7, s5, e6, h⟩ := bd2_ok h
    refine kX8_error X (ctX8_error e6) dX8_as_20 lC_0 g_337 (Nat.le_of_ble_eq_true rfl) (Nat.le_of_ble_eq_true rfl) ?_
    exact s_iret X hlk hr dX8_as_23 h
  refine r_if_eq X 18 dX8_as_5 (by decide) (fun c23 => ?_) (fun c23 => ?_)
  · rw [if_pos c23] at h
    refine r_sub (L' := [(0, .ref (ea E 0))]) [0] rfl ?_
    exact hj18 _ h
  · rw [if_neg c23] at h
    refine r_iload_n X dX8_as_8 2 rfl rfl ?_
    refine r_iconst X dX8_as_9 (v := 0) (by decide) ?_
    refine r_bipush X dX8_as_10 (v := 6) (by decide) ?_
    obtain ⟨u10, s8, e9, h⟩ := bd2_ok h
    refine kX8_within X (ctX8_within e9) dX8_as_12 g_334 (Nat.le_of_ble_eq_true rfl) (Nat.le_of_ble_eq_true rfl) ?_
    refine r_if_ne X 24 dX8_as_15 (by decide) (fun c22 => ?_) (fun c22 => ?_)
    · rw [if_neg c22] at h
      refine r_aload_n X dX8_as_24 0 rfl rfl ?_
      refine r_getr X dX8_as_25 i_X8 v_X8 lC_0 0 rfl (Nat.le_of_ble_eq_true rfl) g_293 ?_
      refine r_getr X dX8_as_28 i_X7 v_X7 lC_1 0 rfl (Nat.le_of_ble_eq_true rfl) g_177 ?_
      refine r_getr X dX8_as_31 i_X0 v_X0 lC_2 3 rfl (Nat.le_of_ble_eq_true rfl) g_107 ?_
      refine r_iload_n X dX8_as_34 1 rfl rfl ?_
      obtain ⟨g11, v12, ev12, h⟩ := ld_ok h
      refine s_iald X dX8_as_35 lC_6 g11 ev12 ?_
      refine r_iload_n X dX8_as_36 2 rfl rfl ?_
      obtain ⟨u15, s13, e14, h⟩ := bd2_ok h
      refine kX1_isUnder X (ctX1_isUnder e14) dX8_as_37 g_437 (Nat.le_of_ble_eq_true rfl) (Nat.le_of_ble_eq_true rfl) ?_
      refine r_if_eq X 58 dX8_as_40 (by decide) (fun c21 => ?_) (fun c21 => ?_)
      · rw [if_pos c21] at h
        refine r_aload_n X dX8_as_58 0 rfl rfl ?_
        refine r_iconst X dX8_as_59 (v := 5) (by decide) ?_
        obtain ⟨u18, s16, e17, h⟩ := bd2_ok h
        refine kX8_error X (ctX8_error e17) dX8_as_60 lC_0 g_337 (Nat.le_of_ble_eq_true rfl) (Nat.le_of_ble_eq_true rfl) ?_
        exact s_iret X hlk hr dX8_as_63 h
      · rw [if_neg c21] at h
        refine r_aload_n X dX8_as_43 0 rfl rfl ?_
        refine r_getr X dX8_as_44 i_X8 v_X8 lC_0 0 rfl (Nat.le_of_ble_eq_true rfl) g_293 ?_
        refine r_getr X dX8_as_47 i_X7 v_X7 lC_1 0 rfl (Nat.le_of_ble_eq_true rfl) g_177 ?_
        refine r_getr X dX8_as_50 i_X0 v_X0 lC_2 4 rfl (Nat.le_of_ble_eq_true rfl) g_109 ?_
        refine r_iload_n X dX8_as_53 1 rfl rfl ?_
        obtain ⟨g19, v20, ev20, h⟩ := ld_ok h
        refine s_iald X dX8_as_54 lC_7 g19 ev20 ?_
        refine r_goto X 63 dX8_as_55 (by decide) ?_
        exact s_iret X hlk hr dX8_as_63 h
    · rw [if_pos c22] at h
      refine r_sub (L' := [(0, .ref (ea E 0))]) [0] rfl ?_
      exact hj18 _ h
/-! X8_feed -/
theorem nX8_feed : yX8_feed.cls ≠ "java/lang/invoke/MethodHandle" ∧ yX8_feed.cls ≠ "java/lang/invoke/VarHandle" ∧ (parseMethodDescriptor yX8_feed.desc).map (fun d => d.parameters.length) = some 2 := by decide +kernel
theorem kX8_feed {l : Launch} {E : EE} {p : Program} {e : Env} {ms : State} {m : MethodId} {args : Array Value} {below : List Frame} {meth : Method} {c : Code} {cc : ByteArray} {own : String} {nL pc idx d D : Nat} {Q : State → Prop} {L : List (Nat × Value)} {rest : List Value} {σ τ : St} {a1 : Int64} {a3 : Int32} {r : Int32} {fl : List (Option Nat)} (X : Cx E layC p ms m args c cc own nL) (hM : Ct l E layC yX8_feed cX8_feed 5 (some .int) d [.ref (ea E 0), .long a1, .int a3] σ (some (.int r)) τ) (hd : decode cc pc = .ok (.invokevirtual idx, 3)) (hlay : layC[0]? = some (.inl (7, fl))) (w1 : Cond.methodLink own idx yX8_feed ∈ gw) (hR : d + 1 ≤ D) (hrs : (rest.map fun v => v.category).sum ≤ 8) (k : AW E layC p l e (rmD D) ms m args below meth c nL 0 0 Q (pc + 3) L (.int r :: rest) τ) : AW E layC p l e (rmD D) ms m args below meth c nL 0 0 Q pc L (.int a3 :: .long a1 :: .ref (ea E 0) :: rest) σ :=
  s_callV X [.long a1, .int a3] rest hM hd v_X8 hlay w1 g_446 g_447 g_67 g_448 nX8_feed rfl rfl hrs (Nat.le_of_ble_eq_true rfl) hR k
def fX8_feed_42 (a1 : Int64) (a3 : Int32) : Nat → Int32 → St → Option (St)
  | 0, _, _ => none
  | n + 1, a4, s0 =>
    if a3 ≤ a4 then
    some s0
    else
    bd1 (fX4_add 12 (((lus a1 (8 * a4)).toInt32) &&& 255) s0) fun s4 =>
    fX8_feed_42 a1 a3 n (a4 + 1) s4
def fX8_feed (a1 : Int64) (a3 : Int32) (s0 : St) : Option (Int32 × St) :=
    bd2 (fX8_within a3 1 8 s0) fun u3 s1 =>
    if u3 = 0 then
    bd2 (fX8_error 1 s1) fun u14 s12 =>
    some (u14, s12)
    else
    if ((s1 12 1) + a3) ≤ 50 then
    bd1 (fX8_feed_42 a1 a3 FU 0 s1) fun s7 =>
    some (s7 12 1, s7)
    else
    bd2 (fX8_error 4 s1) fun u10 s8 =>
    some (u10, s8)
set_option maxHeartbeats 4000000 in
set_option maxRecDepth 100000 in
theorem LX8_feed_42 {l : Launch} {E : EE} {p : Program} {e : Env} {ms : State} {m : MethodId} {args : Array Value} {below : List Frame} {meth : Method} {c : Code} {a1 : Int64} {a3 : Int32} {Q : State → Prop} (X : Cx E layC p ms m args c cX8_feed RX8 5) : ∀ (n : Nat) (a4 : Int32) (s0 : St)  (t8 : St), fX8_feed_42 a1 a3 n a4 s0 = some t8 → AW E layC p l e (rmD 1) ms m args below meth c 5 0 0 Q 76 [(0, .ref (ea E 0))] [] t8 → AW E layC p l e (rmD 1) ms m args below meth c 5 0 0 Q 42 [(0, .ref (ea E 0)), (1, .long a1), (3, .int a3), (4, .int a4)] [] s0 := by
  intro n
  induction n with
  | zero =>
    intro a4 s0 t8 h hE
    cases h
  | succ n ih =>
    intro a4 s0 t8 h hE
    rw [fX8_feed_42] at h
    refine r_iload X dX8_feed_42 3 rfl ?_
    refine r_iload_n X dX8_feed_44 2 rfl rfl ?_
    refine r_icmp_ge X 76 dX8_feed_45 (by decide) (fun c6 => ?_) (fun c6 => ?_)
    · rw [if_pos c6] at h
      refine r_sub (L' := [(0, .ref (ea E 0))]) [0] rfl ?_
      cases h
      exact hE
    · rw [if_neg c6] at h
      refine r_aload_n X dX8_feed_48 0 rfl rfl ?_
      refine r_getr X dX8_feed_49 i_X8 v_X8 lC_0 0 rfl (Nat.le_of_ble_eq_true rfl) g_293 ?_
      refine r_getr X dX8_feed_52 i_X7 v_X7 lC_1 1 rfl (Nat.le_of_ble_eq_true rfl) g_179 ?_
      refine r_lload_n X dX8_feed_55 1 rfl rfl ?_
      refine r_bipush X dX8_feed_56 (v := 8) (by decide) ?_
      refine r_iload X dX8_feed_58 3 rfl ?_
      refine r_imul X dX8_feed_60 ?_
      refine s_lushr X dX8_feed_61 ?_
      refine r_l2i X dX8_feed_62 ?_
      refine r_sipush X dX8_feed_63 (v := 255) (by decide) ?_
      refine r_iand X dX8_feed_66 ?_
      obtain ⟨s4, e5, h⟩ := bd1_ok h
      refine kX4_add X (ctX4_add hR_12 e5) dX8_feed_67 lC_12 g_449 (Nat.le_of_ble_eq_true rfl) (Nat.le_of_ble_eq_true rfl) ?_
      refine r_iinc (L' := [(0, .ref (ea E 0)), (1, .long a1), (3, .int a3), (4, .int (a4 + 1))]) (v := a4 + 1) X dX8_feed_70 3 rfl rfl [1, 2, 3, 0] rfl (Nat.le_of_ble_eq_true rfl) ?_
      refine r_goto X 42 dX8_feed_73 (by decide) ?_
      exact ih _ _ _ h hE
set_option maxHeartbeats 4000000 in
set_option maxRecDepth 100000 in
theorem ctX8_feed {l : Launch} {E : EE} {a1 : Int64} {a3 : Int32} {s0 : St} {r9 : Int32} {t9 : St}  (h : fX8_feed a1 a3 s0 = some (r9, t9)) : Ct l E layC yX8_feed cX8_feed 5 (some .int) 1 [.ref (ea E 0), .long a1, .int a3] s0 (some (.int r9)) t9 := by
  refine Ct.of (by decide) (Nat.le_of_ble_eq_true rfl) ?_
  intro p e ms m below meth c X hlk hr
  have X : Cx E layC p ms m [.ref (ea E 0), .long a1, .int a3].toArray c cX8_feed RX8 5 := X
  refine r_sub (L' := [(0, .ref (ea E 0)), (1, .long a1), (3, .int a3)]) [0, 1, 2] rfl ?_
  unfold fX8_feed at h
  refine r_iload_n X dX8_feed_0 2 rfl rfl ?_
  refine r_iconst X dX8_feed_1 (v := 1) (by decide) ?_
  refine r_bipush X dX8_feed_2 (v := 8) (by decide) ?_
  obtain ⟨u3, s1, e2, h⟩ := bd2_ok h
  refine kX8_within X (ctX8_within e2) dX8_feed_4 g_334 (Nat.le_of_ble_eq_true rfl) (Nat.le_of_ble_eq_true rfl) ?_
  refine r_if_ne X 16 dX8_feed_7 (by decide) (fun c15 => ?_) (fun c15 => ?_)
  · rw [if_neg c15] at h
    refine r_aload_n X dX8_feed_16 0 rfl rfl ?_
    refine r_getr X dX8_feed_17 i_X8 v_X8 lC_0 0 rfl (Nat.le_of_ble_eq_true rfl) g_293 ?_
    refine r_getr X dX8_feed_20 i_X7 v_X7 lC_1 1 rfl (Nat.le_of_ble_eq_true rfl) g_179 ?_
    refine r_geti X dX8_feed_23 i_X4 v_X4 lC_12 1 rfl (Nat.le_of_ble_eq_true rfl) g_170 ?_
    refine r_iload_n X dX8_feed_26 2 rfl rfl ?_
    refine r_iadd X dX8_feed_27 ?_
    refine r_bipush X dX8_feed_28 (v := 50) (by decide) ?_
    refine r_icmp_le X 39 dX8_feed_30 (by decide) (fun c11 => ?_) (fun c11 => ?_)
    · rw [if_pos c11] at h
      refine r_iconst X dX8_feed_39 (v := 0) (by decide) ?_
      refine r_istore (L' := [(0, .ref (ea E 0)), (1, .long a1), (3, .int a3), (4, .int 0)]) X dX8_feed_40 [1, 2, 3, 0] rfl (Nat.le_of_ble_eq_true rfl) ?_
      obtain ⟨s7, eo, h⟩ := bd1_ok h
      refine LX8_feed_42 X FU _ _ _ eo ?_
      refine r_aload_n X dX8_feed_76 0 rfl rfl ?_
      refine r_getr X dX8_feed_77 i_X8 v_X8 lC_0 0 rfl (Nat.le_of_ble_eq_true rfl) g_293 ?_
      refine r_getr X dX8_feed_80 i_X7 v_X7 lC_1 1 rfl (Nat.le_of_ble_eq_true rfl) g_179 ?_
      refine r_geti X dX8_feed_83 i_X4 v_X4 lC_12 1 rfl (Nat.le_of_ble_eq_true rfl) g_170 ?_
      exact s_iret X hlk hr dX8_feed_86 h
    · rw [if_neg c11] at h
      refine r_aload_n X dX8_feed_33 0 rfl rfl ?_
      refine r_iconst X dX8_feed_34 (v := 4) (by decide) ?_
      obtain ⟨u10, s8, e9, h⟩ := bd2_ok h
      refine kX8_error X (ctX8_error e9) dX8_feed_35 lC_0 g_337 (Nat.le_of_ble_eq_true rfl) (Nat.le_of_ble_eq_true rfl) ?_
      exact s_iret X hlk hr dX8_feed_38 h
  · rw [if_pos c15] at h
    refine r_aload_n X dX8_feed_10 0 rfl rfl ?_
    refine r_iconst X dX8_feed_11 (v := 1) (by decide) ?_
    obtain ⟨u14, s12, e13, h⟩ := bd2_ok h
    refine kX8_error X (ctX8_error e13) dX8_feed_12 lC_0 g_337 (Nat.le_of_ble_eq_true rfl) (Nat.le_of_ble_eq_true rfl) ?_
    exact s_iret X hlk hr dX8_feed_15 h
/-! X8_text -/
theorem nX8_text : yX8_text.cls ≠ "java/lang/invoke/MethodHandle" ∧ yX8_text.cls ≠ "java/lang/invoke/VarHandle" ∧ (parseMethodDescriptor yX8_text.desc).map (fun d => d.parameters.length) = some 1 := by decide +kernel
theorem kX8_text {l : Launch} {E : EE} {p : Program} {e : Env} {ms : State} {m : MethodId} {args : Array Value} {below : List Frame} {meth : Method} {c : Code} {cc : ByteArray} {own : String} {nL pc idx d D : Nat} {Q : State → Prop} {L : List (Nat × Value)} {rest : List Value} {σ τ : St} {a1 : Int32} {r : Int32} {fl : List (Option Nat)} (X : Cx E layC p ms m args c cc own nL) (hM : Ct l E layC yX8_text cX8_text 3 (some .int) d [.ref (ea E 0), .int a1] σ (some (.int r)) τ) (hd : decode cc pc = .ok (.invokevirtual idx, 3)) (hlay : layC[0]? = some (.inl (7, fl))) (w1 : Cond.methodLink own idx yX8_text ∈ gw) (hR : d + 1 ≤ D) (hrs : (rest.map fun v => v.category).sum ≤ 8) (k : AW E layC p l e (rmD D) ms m args below meth c nL 0 0 Q (pc + 3) L (.int r :: rest) τ) : AW E layC p l e (rmD D) ms m args below meth c nL 0 0 Q pc L (.int a1 :: .ref (ea E 0) :: rest) σ :=
  s_callV X [.int a1] rest hM hd v_X8 hlay w1 g_454 g_455 g_67 g_456 nX8_text rfl rfl hrs (Nat.le_of_ble_eq_true rfl) hR k
def fX8_text (a1 : Int32) (s0 : St) : Option (Int32 × St) :=
    bd2 (fX8_within a1 0 1 s0) fun u3 s1 =>
    if u3 = 0 then
    bd2 (fX8_error 1 s1) fun u18 s16 =>
    some (u18, s16)
    else
    bd2 (fX3_faultFor a1 s1) fun u6 s4 =>
    bd1 (ptf s4 12 1 0) fun s7 =>
    if u6 < 0 then
    bd2 (fX7_textOf 1 a1 s7) fun u10 s8 =>
    bd1 (fX4_copyFrom u10 53 s8) fun s11 =>
    bd1 (fX2_forget  s11) fun s13 =>
    some (1, s13)
    else
    some ((-10) - u6, s7)
set_option maxHeartbeats 4000000 in
set_option maxRecDepth 100000 in
theorem ctX8_text {l : Launch} {E : EE} {a1 : Int32} {s0 : St} {r9 : Int32} {t9 : St}  (h : fX8_text a1 s0 = some (r9, t9)) : Ct l E layC yX8_text cX8_text 3 (some .int) 105 [.ref (ea E 0), .int a1] s0 (some (.int r9)) t9 := by
  refine Ct.of (by decide) (Nat.le_of_ble_eq_true rfl) ?_
  intro p e ms m below meth c X hlk hr
  have X : Cx E layC p ms m [.ref (ea E 0), .int a1].toArray c cX8_text RX8 3 := X
  refine r_sub (L' := [(0, .ref (ea E 0)), (1, .int a1)]) [0, 1] rfl ?_
  unfold fX8_text at h
  refine r_iload_n X dX8_text_0 1 rfl rfl ?_
  refine r_iconst X dX8_text_1 (v := 0) (by decide) ?_
  refine r_iconst X dX8_text_2 (v := 1) (by decide) ?_
  obtain ⟨u3, s1, e2, h⟩ := bd2_ok h
  refine kX8_within X (ctX8_within e2) dX8_text_3 g_334 (Nat.le_of_ble_eq_true rfl) (Nat.le_of_ble_eq_true rfl) ?_
  refine r_if_ne X 15 dX8_text_6 (by decide) (fun c19 => ?_) (fun c19 => ?_)
  · rw [if_neg c19] at h
    refine r_aload_n X dX8_text_15 0 rfl rfl ?_
    refine r_getr X dX8_text_16 i_X8 v_X8 lC_0 4 rfl (Nat.le_of_ble_eq_true rfl) g_297 ?_
    refine r_iload_n X dX8_text_19 1 rfl rfl ?_
    obtain ⟨u6, s4, e5, h⟩ := bd2_ok h
    refine kX3_faultFor X (ctX3_faultFor e5) dX8_text_20 lC_52 g_457 (Nat.le_of_ble_eq_true rfl) (Nat.le_of_ble_eq_true rfl) ?_
    refine r_istore_n (L' := [(0, .ref (ea E 0)), (1, .int a1), (2, .int u6)]) X dX8_text_23 [1, 2, 0] rfl rfl (Nat.le_of_ble_eq_true rfl) ?_
    refine r_aload_n X dX8_text_24 0 rfl rfl ?_
    refine r_getr X dX8_text_25 i_X8 v_X8 lC_0 0 rfl (Nat.le_of_ble_eq_true rfl) g_293 ?_
    refine r_getr X dX8_text_28 i_X7 v_X7 lC_1 1 rfl (Nat.le_of_ble_eq_true rfl) g_179 ?_
    refine r_iconst X dX8_text_31 (v := 0) (by decide) ?_
    obtain ⟨s7, es7, h⟩ := pt_ok h
    refine s_puti X dX8_text_32 i_X4 tyX4_ok nmX4 v_X4 lC_12 1 rfl (Nat.le_of_ble_eq_true rfl) g_170 rfl rfl ⟨rfl, rfl⟩ es7 ?_
    refine r_iload_n X dX8_text_35 2 rfl rfl ?_
    refine r_if_lt X 44 dX8_text_36 (by decide) (fun c15 => ?_) (fun c15 => ?_)
    · rw [if_pos c15] at h
      refine r_aload_n X dX8_text_44 0 rfl rfl ?_
      refine r_getr X dX8_text_45 i_X8 v_X8 lC_0 0 rfl (Nat.le_of_ble_eq_true rfl) g_293 ?_
      refine r_iload_n X dX8_text_48 1 rfl rfl ?_
      obtain ⟨u10, s8, e9, h⟩ := bd2_ok h
      refine kX7_textOf X (ctX7_textOf hW_1 e9) dX8_text_49 lC_1 g_497 (Nat.le_of_ble_eq_true rfl) (Nat.le_of_ble_eq_true rfl) ?_
      refine r_aload_n X dX8_text_52 0 rfl rfl ?_
      refine r_getr X dX8_text_53 i_X8 v_X8 lC_0 4 rfl (Nat.le_of_ble_eq_true rfl) g_297 ?_
      refine r_getr X dX8_text_56 i_X3 v_X3 lC_52 0 rfl (Nat.le_of_ble_eq_true rfl) g_235 ?_
      obtain ⟨s11, e12, h⟩ := bd1_ok h
      refine kX4_copyFrom X (ctX4_copyFrom (fX7_textOf_isR hW_1 e9) hR_53 e12) dX8_text_59 (lR0 (fX7_textOf_isR hW_1 e9)) g_501 (Nat.le_of_ble_eq_true rfl) (Nat.le_of_ble_eq_true rfl) ?_
      refine r_aload_n X dX8_text_62 0 rfl rfl ?_
      refine r_getr X dX8_text_63 i_X8 v_X8 lC_0 3 rfl (Nat.le_of_ble_eq_true rfl) g_296 ?_
      obtain ⟨s13, e14, h⟩ := bd1_ok h
      refine kX2_forget X (ctX2_forget e14) dX8_text_66 lC_49 g_509 (Nat.le_of_ble_eq_true rfl) (Nat.le_of_ble_eq_true rfl) ?_
      refine r_iconst X dX8_text_69 (v := 1) (by decide) ?_
      exact s_iret X hlk hr dX8_text_70 h
    · rw [if_neg c15] at h
      refine r_bipush X dX8_text_39 (v := (-10)) (by decide) ?_
      refine r_iload_n X dX8_text_41 2 rfl rfl ?_
      refine r_isub X dX8_text_42 ?_
      exact s_iret X hlk hr dX8_text_43 h
  · rw [if_pos c19] at h
    refine r_aload_n X dX8_text_9 0 rfl rfl ?_
    refine r_iconst X dX8_text_10 (v := 1) (by decide) ?_
    obtain ⟨u18, s16, e17, h⟩ := bd2_ok h
    refine kX8_error X (ctX8_error e17) dX8_text_11 lC_0 g_337 (Nat.le_of_ble_eq_true rfl) (Nat.le_of_ble_eq_true rfl) ?_
    exact s_iret X hlk hr dX8_text_14 h
/-! X8_law -/
theorem nX8_law : yX8_law.cls ≠ "java/lang/invoke/MethodHandle" ∧ yX8_law.cls ≠ "java/lang/invoke/VarHandle" ∧ (parseMethodDescriptor yX8_law.desc).map (fun d => d.parameters.length) = some 4 := by decide +kernel
theorem kX8_law {l : Launch} {E : EE} {p : Program} {e : Env} {ms : State} {m : MethodId} {args : Array Value} {below : List Frame} {meth : Method} {c : Code} {cc : ByteArray} {own : String} {nL pc idx d D : Nat} {Q : State → Prop} {L : List (Nat × Value)} {rest : List Value} {σ τ : St} {a1 : Int32} {a2 : Int32} {a3 : Int32} {a4 : Int32} {r : Int32} {fl : List (Option Nat)} (X : Cx E layC p ms m args c cc own nL) (hM : Ct l E layC yX8_law cX8_law 5 (some .int) d [.ref (ea E 0), .int a1, .int a2, .int a3, .int a4] σ (some (.int r)) τ) (hd : decode cc pc = .ok (.invokevirtual idx, 3)) (hlay : layC[0]? = some (.inl (7, fl))) (w1 : Cond.methodLink own idx yX8_law ∈ gw) (hR : d + 1 ≤ D) (hrs : (rest.map fun v => v.category).sum ≤ 8) (k : AW E layC p l e (rmD D) ms m args below meth c nL 0 0 Q (pc + 3) L (.int r :: rest) τ) : AW E layC p l e (rmD D) ms m args below meth c nL 0 0 Q pc L (.int a4 :: .int a3 :: .int a2 :: .int a1 :: .ref (ea E 0) :: rest) σ :=
  s_callV X [.int a1, .int a2, .int a3, .int a4] rest hM hd v_X8 hlay w1 g_514 g_515 g_67 g_516 nX8_law rfl rfl hrs (Nat.le_of_ble_eq_true rfl) hR k
def fX8_law (a1 : Int32) (a2 : Int32) (a3 : Int32) (a4 : Int32) (s0 : St) : Option (Int32 × St) :=
    bd2 (fX8_within a1 0 1 s0) fun u3 s1 =>
    if u3 = 0 then
    bd2 (fX8_error 1 s1) fun u9 s7 =>
    some (u9, s7)
    else
    bd2 (fX2_workedOut a1 a2 a3 a4 s1) fun u6 s4 =>
    some (u6, s4)
set_option maxHeartbeats 4000000 in
set_option maxRecDepth 100000 in
theorem ctX8_law {l : Launch} {E : EE} {a1 : Int32} {a2 : Int32} {a3 : Int32} {a4 : Int32} {s0 : St} {r9 : Int32} {t9 : St}  (h : fX8_law a1 a2 a3 a4 s0 = some (r9, t9)) : Ct l E layC yX8_law cX8_law 5 (some .int) 2 [.ref (ea E 0), .int a1, .int a2, .int a3, .int a4] s0 (some (.int r9)) t9 := by
  refine Ct.of (by decide) (Nat.le_of_ble_eq_true rfl) ?_
  intro p e ms m below meth c X hlk hr
  have X : Cx E layC p ms m [.ref (ea E 0), .int a1, .int a2, .int a3, .int a4].toArray c cX8_law RX8 5 := X
  refine r_sub (L' := [(0, .ref (ea E 0)), (1, .int a1), (2, .int a2), (3, .int a3), (4, .int a4)]) [0, 1, 2, 3, 4] rfl ?_
  unfold fX8_law at h
  refine r_iload_n X dX8_law_0 1 rfl rfl ?_
  refine r_iconst X dX8_law_1 (v := 0) (by decide) ?_
  refine r_iconst X dX8_law_2 (v := 1) (by decide) ?_
  obtain ⟨u3, s1, e2, h⟩ := bd2_ok h
  refine kX8_within X (ctX8_within e2) dX8_law_3 g_334 (Nat.le_of_ble_eq_true rfl) (Nat.le_of_ble_eq_true rfl) ?_
  refine r_if_ne X 15 dX8_law_6 (by decide) (fun c10 => ?_) (fun c10 => ?_)
  · rw [if_neg c10] at h
    refine r_aload_n X dX8_law_15 0 rfl rfl ?_
    refine r_getr X dX8_law_16 i_X8 v_X8 lC_0 3 rfl (Nat.le_of_ble_eq_true rfl) g_296 ?_
    refine r_iload_n X dX8_law_19 1 rfl rfl ?_
    refine r_iload_n X dX8_law_20 2 rfl rfl ?_
    refine r_iload_n X dX8_law_21 3 rfl rfl ?_
    refine r_iload X dX8_law_22 4 rfl ?_
    obtain ⟨u6, s4, e5, h⟩ := bd2_ok h
    refine kX2_workedOut X (ctX2_workedOut e5) dX8_law_24 lC_49 g_517 (Nat.le_of_ble_eq_true rfl) (Nat.le_of_ble_eq_true rfl) ?_
    exact s_iret X hlk hr dX8_law_27 h
  · rw [if_pos c10] at h
    refine r_aload_n X dX8_law_9 0 rfl rfl ?_
    refine r_iconst X dX8_law_10 (v := 1) (by decide) ?_
    obtain ⟨u9, s7, e8, h⟩ := bd2_ok h
    refine kX8_error X (ctX8_error e8) dX8_law_11 lC_0 g_337 (Nat.le_of_ble_eq_true rfl) (Nat.le_of_ble_eq_true rfl) ?_
    exact s_iret X hlk hr dX8_law_14 h
/-! X8_days -/
theorem nX8_days : yX8_days.cls ≠ "java/lang/invoke/MethodHandle" ∧ yX8_days.cls ≠ "java/lang/invoke/VarHandle" ∧ (parseMethodDescriptor yX8_days.desc).map (fun d => d.parameters.length) = some 1 := by decide +kernel
theorem kX8_days {l : Launch} {E : EE} {p : Program} {e : Env} {ms : State} {m : MethodId} {args : Array Value} {below : List Frame} {meth : Method} {c : Code} {cc : ByteArray} {own : String} {nL pc idx d D : Nat} {Q : State → Prop} {L : List (Nat × Value)} {rest : List Value} {σ τ : St} {a1 : Int32} {r : Int32} {fl : List (Option Nat)} (X : Cx E layC p ms m args c cc own nL) (hM : Ct l E layC yX8_days cX8_days 2 (some .int) d [.ref (ea E 0), .int a1] σ (some (.int r)) τ) (hd : decode cc pc = .ok (.invokevirtual idx, 3)) (hlay : layC[0]? = some (.inl (7, fl))) (w1 : Cond.methodLink own idx yX8_days ∈ gw) (hR : d + 1 ≤ D) (hrs : (rest.map fun v => v.category).sum ≤ 8) (k : AW E layC p l e (rmD D) ms m args below meth c nL 0 0 Q (pc + 3) L (.int r :: rest) τ) : AW E layC p l e (rmD D) ms m args below meth c nL 0 0 Q pc L (.int a1 :: .ref (ea E 0) :: rest) σ :=
  s_callV X [.int a1] rest hM hd v_X8 hlay w1 g_519 g_520 g_67 g_521 nX8_days rfl rfl hrs (Nat.le_of_ble_eq_true rfl) hR k
def fX8_days (a1 : Int32) (s0 : St) : Option (Int32 × St) :=
    bd2 (fX8_within a1 1 60 s0) fun u3 s1 =>
    if u3 = 0 then
    bd2 (fX8_error 1 s1) fun u12 s10 =>
    some (u12, s10)
    else
    if ((s1 2 11) + a1) ≤ 9999 then
    bd1 (fX0_spend 2 a1 s1) fun s4 =>
    some (s4 2 10, s4)
    else
    bd2 (fX8_error 3 s1) fun u8 s6 =>
    some (u8, s6)
set_option maxHeartbeats 4000000 in
set_option maxRecDepth 100000 in
theorem ctX8_days {l : Launch} {E : EE} {a1 : Int32} {s0 : St} {r9 : Int32} {t9 : St}  (h : fX8_days a1 s0 = some (r9, t9)) : Ct l E layC yX8_days cX8_days 2 (some .int) 6 [.ref (ea E 0), .int a1] s0 (some (.int r9)) t9 := by
  refine Ct.of (by decide) (Nat.le_of_ble_eq_true rfl) ?_
  intro p e ms m below meth c X hlk hr
  have X : Cx E layC p ms m [.ref (ea E 0), .int a1].toArray c cX8_days RX8 2 := X
  refine r_sub (L' := [(0, .ref (ea E 0)), (1, .int a1)]) [0, 1] rfl ?_
  unfold fX8_days at h
  refine r_iload_n X dX8_days_0 1 rfl rfl ?_
  refine r_iconst X dX8_days_1 (v := 1) (by decide) ?_
  refine r_bipush X dX8_days_2 (v := 60) (by decide) ?_
  obtain ⟨u3, s1, e2, h⟩ := bd2_ok h
  refine kX8_within X (ctX8_within e2) dX8_days_4 g_334 (Nat.le_of_ble_eq_true rfl) (Nat.le_of_ble_eq_true rfl) ?_
  refine r_if_ne X 16 dX8_days_7 (by decide) (fun c13 => ?_) (fun c13 => ?_)
  · rw [if_neg c13] at h
    refine r_aload_n X dX8_days_16 0 rfl rfl ?_
    refine r_getr X dX8_days_17 i_X8 v_X8 lC_0 0 rfl (Nat.le_of_ble_eq_true rfl) g_293 ?_
    refine r_getr X dX8_days_20 i_X7 v_X7 lC_1 0 rfl (Nat.le_of_ble_eq_true rfl) g_177 ?_
    refine r_geti X dX8_days_23 i_X0 v_X0 lC_2 11 rfl (Nat.le_of_ble_eq_true rfl) g_122 ?_
    refine r_iload_n X dX8_days_26 1 rfl rfl ?_
    refine r_iadd X dX8_days_27 ?_
    refine r_sipush X dX8_days_28 (v := 9999) (by decide) ?_
    refine r_icmp_le X 40 dX8_days_31 (by decide) (fun c9 => ?_) (fun c9 => ?_)
    · rw [if_pos c9] at h
      refine r_aload_n X dX8_days_40 0 rfl rfl ?_
      refine r_getr X dX8_days_41 i_X8 v_X8 lC_0 0 rfl (Nat.le_of_ble_eq_true rfl) g_293 ?_
      refine r_getr X dX8_days_44 i_X7 v_X7 lC_1 0 rfl (Nat.le_of_ble_eq_true rfl) g_177 ?_
      refine r_aload_n X dX8_days_47 0 rfl rfl ?_
      refine r_getr X dX8_days_48 i_X8 v_X8 lC_0 3 rfl (Nat.le_of_ble_eq_true rfl) g_296 ?_
      refine r_iload_n X dX8_days_51 1 rfl rfl ?_
      obtain ⟨s4, e5, h⟩ := bd1_ok h
      refine kX0_spend X (ctX0_spend hH_2 e5) dX8_days_52 lC_2 g_522 (Nat.le_of_ble_eq_true rfl) (Nat.le_of_ble_eq_true rfl) ?_
      refine r_aload_n X dX8_days_55 0 rfl rfl ?_
      refine r_getr X dX8_days_56 i_X8 v_X8 lC_0 0 rfl (Nat.le_of_ble_eq_true rfl) g_293 ?_
      refine r_getr X dX8_days_59 i_X7 v_X7 lC_1 0 rfl (Nat.le_of_ble_eq_true rfl) g_177 ?_
      refine r_geti X dX8_days_62 i_X0 v_X0 lC_2 10 rfl (Nat.le_of_ble_eq_true rfl) g_120 ?_
      exact s_iret X hlk hr dX8_days_65 h
    · rw [if_neg c9] at h
      refine r_aload_n X dX8_days_34 0 rfl rfl ?_
      refine r_iconst X dX8_days_35 (v := 3) (by decide) ?_
      obtain ⟨u8, s6, e7, h⟩ := bd2_ok h
      refine kX8_error X (ctX8_error e7) dX8_days_36 lC_0 g_337 (Nat.le_of_ble_eq_true rfl) (Nat.le_of_ble_eq_true rfl) ?_
      exact s_iret X hlk hr dX8_days_39 h
  · rw [if_pos c13] at h
    refine r_aload_n X dX8_days_10 0 rfl rfl ?_
    refine r_iconst X dX8_days_11 (v := 1) (by decide) ?_
    obtain ⟨u12, s10, e11, h⟩ := bd2_ok h
    refine kX8_error X (ctX8_error e11) dX8_days_12 lC_0 g_337 (Nat.le_of_ble_eq_true rfl) (Nat.le_of_ble_eq_true rfl) ?_
    exact s_iret X hlk hr dX8_days_15 h
/-! X8_loose -/
theorem nX8_loose : yX8_loose.cls ≠ "java/lang/invoke/MethodHandle" ∧ yX8_loose.cls ≠ "java/lang/invoke/VarHandle" ∧ (parseMethodDescriptor yX8_loose.desc).map (fun d => d.parameters.length) = some 1 := by decide +kernel
theorem kX8_loose {l : Launch} {E : EE} {p : Program} {e : Env} {ms : State} {m : MethodId} {args : Array Value} {below : List Frame} {meth : Method} {c : Code} {cc : ByteArray} {own : String} {nL pc idx d D : Nat} {Q : State → Prop} {L : List (Nat × Value)} {rest : List Value} {σ τ : St} {a1 : Int32} {r : Int32} {fl : List (Option Nat)} (X : Cx E layC p ms m args c cc own nL) (hM : Ct l E layC yX8_loose cX8_loose 4 (some .int) d [.ref (ea E 0), .int a1] σ (some (.int r)) τ) (hd : decode cc pc = .ok (.invokevirtual idx, 3)) (hlay : layC[0]? = some (.inl (7, fl))) (w1 : Cond.methodLink own idx yX8_loose ∈ gw) (hR : d + 1 ≤ D) (hrs : (rest.map fun v => v.category).sum ≤ 8) (k : AW E layC p l e (rmD D) ms m args below meth c nL 0 0 Q (pc + 3) L (.int r :: rest) τ) : AW E layC p l e (rmD D) ms m args below meth c nL 0 0 Q pc L (.int a1 :: .ref (ea E 0) :: rest) σ :=
  s_callV X [.int a1] rest hM hd v_X8 hlay w1 g_544 g_545 g_67 g_546 nX8_loose rfl rfl hrs (Nat.le_of_ble_eq_true rfl) hR k
def fX8_loose_42 (a1 : Int32) : Nat → Int32 → St → Option (St)
  | 0, _, _ => none
  | n + 1, a2, s0 =>
    if a1 ≤ a2 then
    some s0
    else
    bd2 (fX7_draw 1 s0) fun u6 s4 =>
    bd2 (fX7_draw 1 s4) fun u9 s7 =>
    bd1 (ast s7 5 6 (irm u6 6) (irm u9 16)) fun s11 =>
    bd1 (fX0_spend 2 1 s11) fun s12 =>
    fX8_loose_42 a1 n (a2 + 1) s12
def fX8_loose (a1 : Int32) (s0 : St) : Option (Int32 × St) :=
    bd2 (fX8_within a1 1 40 s0) fun u3 s1 =>
    if u3 = 0 then
    bd2 (fX8_error 1 s1) fun u22 s20 =>
    some (u22, s20)
    else
    if ((s1 2 11) + a1) ≤ 9999 then
    bd1 (fX8_loose_42 a1 FU 0 s1) fun s15 =>
    some (s15 2 10, s15)
    else
    bd2 (fX8_error 3 s1) fun u18 s16 =>
    some (u18, s16)
set_option maxHeartbeats 4000000 in
set_option maxRecDepth 100000 in
theorem LX8_loose_42 {l : Launch} {E : EE} {p : Program} {e : Env} {ms : State} {m : MethodId} {args : Array Value} {below : List Frame} {meth : Method} {c : Code} {a1 : Int32} {Q : State → Prop} (X : Cx E layC p ms m args c cX8_loose RX8 4) : ∀ (n : Nat) (a2 : Int32) (s0 : St)  (t8 : St), fX8_loose_42 a1 n a2 s0 = some t8 → AW E layC p l e (rmD 6) ms m args below meth c 4 0 0 Q 101 [(0, .ref (ea E 0))] [] t8 → AW E layC p l e (rmD 6) ms m args below meth c 4 0 0 Q 42 [(0, .ref (ea E 0)), (1, .int a1), (2, .int a2)] [] s0 := by
  intro n
  induction n with
  | zero =>
    intro a2 s0 t8 h hE
    cases h
  | succ n ih =>
    intro a2 s0 t8 h hE
    rw [fX8_loose_42] at h
    refine r_iload_n X dX8_loose_42 2 rfl rfl ?_
    refine r_iload_n X dX8_loose_43 1 rfl rfl ?_
    refine r_icmp_ge X 101 dX8_loose_44 (by decide) (fun c14 => ?_) (fun c14 => ?_)
    · rw [if_pos c14] at h
      refine r_sub (L' := [(0, .ref (ea E 0))]) [0] rfl ?_
      cases h
      exact hE
    · rw [if_neg c14] at h
      refine r_aload_n X dX8_loose_47 0 rfl rfl ?_
      refine r_getr X dX8_loose_48 i_X8 v_X8 lC_0 0 rfl (Nat.le_of_ble_eq_true rfl) g_293 ?_
      obtain ⟨u6, s4, e5, h⟩ := bd2_ok h
      refine kX7_draw X (ctX7_draw hW_1 e5) dX8_loose_51 lC_1 g_547 (Nat.le_of_ble_eq_true rfl) (Nat.le_of_ble_eq_true rfl) ?_
      refine r_bipush X dX8_loose_54 (v := 6) (by decide) ?_
      refine s_irem X dX8_loose_56 (by decide) ?_
      refine r_istore_n (L' := [(0, .ref (ea E 0)), (1, .int a1), (2, .int a2), (3, .int (irm u6 6))]) X dX8_loose_57 [1, 2, 3, 0] rfl rfl (Nat.le_of_ble_eq_true rfl) ?_
      refine r_aload_n X dX8_loose_58 0 rfl rfl ?_
      refine r_getr X dX8_loose_59 i_X8 v_X8 lC_0 0 rfl (Nat.le_of_ble_eq_true rfl) g_293 ?_
      refine r_getr X dX8_loose_62 i_X7 v_X7 lC_1 0 rfl (Nat.le_of_ble_eq_true rfl) g_177 ?_
      refine r_getr X dX8_loose_65 i_X0 v_X0 lC_2 2 rfl (Nat.le_of_ble_eq_true rfl) g_105 ?_
      refine r_iload_n X dX8_loose_68 3 rfl rfl ?_
      refine r_aload_n X dX8_loose_69 0 rfl rfl ?_
      refine r_getr X dX8_loose_70 i_X8 v_X8 lC_0 0 rfl (Nat.le_of_ble_eq_true rfl) g_293 ?_
      obtain ⟨u9, s7, e8, h⟩ := bd2_ok h
      refine kX7_draw X (ctX7_draw hW_1 e8) dX8_loose_73 lC_1 g_547 (Nat.le_of_ble_eq_true rfl) (Nat.le_of_ble_eq_true rfl) ?_
      refine r_bipush X dX8_loose_76 (v := 16) (by decide) ?_
      refine s_irem X dX8_loose_78 (by decide) ?_
      obtain ⟨g10, s11, es11, h⟩ := as_ok h
      refine s_iast X dX8_loose_79 lC_5 g10 es11 ?_
      refine r_aload_n X dX8_loose_80 0 rfl rfl ?_
      refine r_getr X dX8_loose_81 i_X8 v_X8 lC_0 0 rfl (Nat.le_of_ble_eq_true rfl) g_293 ?_
      refine r_getr X dX8_loose_84 i_X7 v_X7 lC_1 0 rfl (Nat.le_of_ble_eq_true rfl) g_177 ?_
      refine r_aload_n X dX8_loose_87 0 rfl rfl ?_
      refine r_getr X dX8_loose_88 i_X8 v_X8 lC_0 3 rfl (Nat.le_of_ble_eq_true rfl) g_296 ?_
      refine r_iconst X dX8_loose_91 (v := 1) (by decide) ?_
      obtain ⟨s12, e13, h⟩ := bd1_ok h
      refine kX0_spend X (ctX0_spend hH_2 e13) dX8_loose_92 lC_2 g_522 (Nat.le_of_ble_eq_true rfl) (Nat.le_of_ble_eq_true rfl) ?_
      refine r_iinc (L' := [(0, .ref (ea E 0)), (1, .int a1), (2, .int (a2 + 1)), (3, .int (irm u6 6))]) (v := a2 + 1) X dX8_loose_95 2 rfl rfl [1, 2, 0, 3] rfl (Nat.le_of_ble_eq_true rfl) ?_
      refine r_goto X 42 dX8_loose_98 (by decide) ?_
      refine r_sub (L' := [(0, .ref (ea E 0)), (1, .int a1), (2, .int (a2 + 1))]) [0, 1, 2] rfl ?_
      exact ih _ _ _ h hE
set_option maxHeartbeats 4000000 in
set_option maxRecDepth 100000 in
theorem ctX8_loose {l : Launch} {E : EE} {a1 : Int32} {s0 : St} {r9 : Int32} {t9 : St}  (h : fX8_loose a1 s0 = some (r9, t9)) : Ct l E layC yX8_loose cX8_loose 4 (some .int) 6 [.ref (ea E 0), .int a1] s0 (some (.int r9)) t9 := by
  refine Ct.of (by decide) (Nat.le_of_ble_eq_true rfl) ?_
  intro p e ms m below meth c X hlk hr
  have X : Cx E layC p ms m [.ref (ea E 0), .int a1].toArray c cX8_loose RX8 4 := X
  refine r_sub (L' := [(0, .ref (ea E 0)), (1, .int a1)]) [0, 1] rfl ?_
  unfold fX8_loose at h
  refine r_iload_n X dX8_loose_0 1 rfl rfl ?_
  refine r_iconst X dX8_loose_1 (v := 1) (by decide) ?_
  refine r_bipush X dX8_loose_2 (v := 40) (by decide) ?_
  obtain ⟨u3, s1, e2, h⟩ := bd2_ok h
  refine kX8_within X (ctX8_within e2) dX8_loose_4 g_334 (Nat.le_of_ble_eq_true rfl) (Nat.le_of_ble_eq_true rfl) ?_
  refine r_if_ne X 16 dX8_loose_7 (by decide) (fun c23 => ?_) (fun c23 => ?_)
  · rw [if_neg c23] at h
    refine r_aload_n X dX8_loose_16 0 rfl rfl ?_
    refine r_getr X dX8_loose_17 i_X8 v_X8 lC_0 0 rfl (Nat.le_of_ble_eq_true rfl) g_293 ?_
    refine r_getr X dX8_loose_20 i_X7 v_X7 lC_1 0 rfl (Nat.le_of_ble_eq_true rfl) g_177 ?_
    refine r_geti X dX8_loose_23 i_X0 v_X0 lC_2 11 rfl (Nat.le_of_ble_eq_true rfl) g_122 ?_
    refine r_iload_n X dX8_loose_26 1 rfl rfl ?_
    refine r_iadd X dX8_loose_27 ?_
    refine r_sipush X dX8_loose_28 (v := 9999) (by decide) ?_
    refine r_icmp_le X 40 dX8_loose_31 (by decide) (fun c19 => ?_) (fun c19 => ?_)
    · rw [if_pos c19] at h
      refine r_iconst X dX8_loose_40 (v := 0) (by decide) ?_
      refine r_istore_n (L' := [(0, .ref (ea E 0)), (1, .int a1), (2, .int 0)]) X dX8_loose_41 [1, 2, 0] rfl rfl (Nat.le_of_ble_eq_true rfl) ?_
      obtain ⟨s15, eo, h⟩ := bd1_ok h
      refine LX8_loose_42 X FU _ _ _ eo ?_
      refine r_aload_n X dX8_loose_101 0 rfl rfl ?_
      refine r_getr X dX8_loose_102 i_X8 v_X8 lC_0 0 rfl (Nat.le_of_ble_eq_true rfl) g_293 ?_
      refine r_getr X dX8_loose_105 i_X7 v_X7 lC_1 0 rfl (Nat.le_of_ble_eq_true rfl) g_177 ?_
      refine r_geti X dX8_loose_108 i_X0 v_X0 lC_2 10 rfl (Nat.le_of_ble_eq_true rfl) g_120 ?_
      exact s_iret X hlk hr dX8_loose_111 h
    · rw [if_neg c19] at h
      refine r_aload_n X dX8_loose_34 0 rfl rfl ?_
      refine r_iconst X dX8_loose_35 (v := 3) (by decide) ?_
      obtain ⟨u18, s16, e17, h⟩ := bd2_ok h
      refine kX8_error X (ctX8_error e17) dX8_loose_36 lC_0 g_337 (Nat.le_of_ble_eq_true rfl) (Nat.le_of_ble_eq_true rfl) ?_
      exact s_iret X hlk hr dX8_loose_39 h
  · rw [if_pos c23] at h
    refine r_aload_n X dX8_loose_10 0 rfl rfl ?_
    refine r_iconst X dX8_loose_11 (v := 1) (by decide) ?_
    obtain ⟨u22, s20, e21, h⟩ := bd2_ok h
    refine kX8_error X (ctX8_error e21) dX8_loose_12 lC_0 g_337 (Nat.le_of_ble_eq_true rfl) (Nat.le_of_ble_eq_true rfl) ?_
    exact s_iret X hlk hr dX8_loose_15 h
