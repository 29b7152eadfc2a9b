/-! X8_isAhead -/
theorem nX8_isAhead : yX8_isAhead.cls ≠ "java/lang/invoke/MethodHandle" ∧ yX8_isAhead.cls ≠ "java/lang/invoke/VarHandle" ∧ (parseMethodDescriptor yX8_isAhead.desc).map (fun d => d.parameters.length) = some 1 := by decide +kernel
theorem kX8_isAhead {l : Launch} {E : EE} {p : Program} {e : Env} {ms : State} {m : MethodId} {args : Array Value} {below : List Frame} {meth : Method} {c : Code} {cc : ByteArray} {own : String} {nL pc idx d D : Nat} {Q : State → Prop} {L : List (Nat × Value)} {rest : List Value} {σ τ : St} {a0 : Int32} {r : Int32} (X : Cx E layC p ms m args c cc own nL) (hM : Ct l E layC yX8_isAhead cX8_isAhead 1 (some .boolean) d [.int a0] σ (some (.int r)) τ) (hd : decode cc pc = .ok (.invokestatic idx, 3)) (w1 : Cond.methodLink own idx yX8_isAhead ∈ gw) (hR : d + 1 ≤ D) (hrs : (rest.map fun v => v.category).sum ≤ 8) (k : AW E layC p l e (rmD D) ms m args below meth c nL 0 0 Q (pc + 3) L (.int r :: rest) τ) : AW E layC p l e (rmD D) ms m args below meth c nL 0 0 Q pc L (.int a0 :: rest) σ :=
  s_callS X [.int a0] rest hM hd w1 g_557 g_67 g_558 nX8_isAhead rfl rfl hrs (Nat.le_of_ble_eq_true rfl) hR k
def fX8_isAhead (a0 : Int32) (s0 : St) : Option (Int32 × St) :=
    bd2 (fX8_within a0 0 60 s0) fun u3 s1 =>
    gb u3 <| some (u3, s1)
set_option maxHeartbeats 4000000 in
set_option maxRecDepth 100000 in
theorem ctX8_isAhead {l : Launch} {E : EE} {a0 : Int32} {s0 : St} {r9 : Int32} {t9 : St}  (h : fX8_isAhead a0 s0 = some (r9, t9)) : Ct l E layC yX8_isAhead cX8_isAhead 1 (some .boolean) 1 [.int a0] s0 (some (.int r9)) t9 := by
  refine Ct.of (by decide) (Nat.le_of_ble_eq_true rfl) ?_
  intro p e ms m below meth c X hlk hr
  have X : Cx E layC p ms m [.int a0].toArray c cX8_isAhead RX8 1 := X
  refine r_sub (L' := [(0, .int a0)]) [0] rfl ?_
  unfold fX8_isAhead at h
  refine r_iload_n X dX8_isAhead_0 0 rfl rfl ?_
  refine r_iconst X dX8_isAhead_1 (v := 0) (by decide) ?_
  refine r_bipush X dX8_isAhead_2 (v := 60) (by decide) ?_
  obtain ⟨u3, s1, e2, h⟩ := bd2_ok h
  refine kX8_within X (ctX8_within e2) dX8_isAhead_4 g_334 (Nat.le_of_ble_eq_true rfl) (Nat.le_of_ble_eq_true rfl) ?_
  obtain ⟨g4, h⟩ := gb_ok h
  exact s_zret X hlk hr g4.1 dX8_isAhead_7 h
/-! X8_thinkAnew -/
theorem nX8_thinkAnew : yX8_thinkAnew.cls ≠ "java/lang/invoke/MethodHandle" ∧ yX8_thinkAnew.cls ≠ "java/lang/invoke/VarHandle" ∧ (parseMethodDescriptor yX8_thinkAnew.desc).map (fun d => d.parameters.length) = some 0 := by decide +kernel
theorem kX8_thinkAnew {l : Launch} {E : EE} {p : Program} {e : Env} {ms : State} {m : MethodId} {args : Array Value} {below : List Frame} {meth : Method} {c : Code} {cc : ByteArray} {own : String} {nL pc idx d D : Nat} {Q : State → Prop} {L : List (Nat × Value)} {rest : List Value} {σ τ : St}   {fl : List (Option Nat)} (X : Cx E layC p ms m args c cc own nL) (hM : Ct l E layC yX8_thinkAnew cX8_thinkAnew 1 none d [.ref (ea E 0)] σ none τ) (hd : decode cc pc = .ok (.invokevirtual idx, 3)) (hlay : layC[0]? = some (.inl (7, fl))) (w1 : Cond.methodLink own idx yX8_thinkAnew ∈ gw) (hR : d + 1 ≤ D) (hrs : (rest.map fun v => v.category).sum ≤ 8) (k : AW E layC p l e (rmD D) ms m args below meth c nL 0 0 Q (pc + 3) L rest τ) : AW E layC p l e (rmD D) ms m args below meth c nL 0 0 Q pc L (.ref (ea E 0) :: rest) σ :=
  s_callV X [] rest hM hd v_X8 hlay w1 g_561 g_12 g_67 g_562 nX8_thinkAnew rfl rfl hrs (Nat.le_of_ble_eq_true rfl) hR k
def fX8_thinkAnew  (s0 : St) : Option (St) :=
    bd1 (fX0_copyFrom 39 2 s0) fun s1 =>
    some s1
set_option maxHeartbeats 4000000 in
set_option maxRecDepth 100000 in
theorem ctX8_thinkAnew {l : Launch} {E : EE}  {s0 : St} {t9 : St}  (h : fX8_thinkAnew  s0 = some t9) : Ct l E layC yX8_thinkAnew cX8_thinkAnew 1 none 2 [.ref (ea E 0)] s0 none t9 := by
  refine Ct.of (by decide) (Nat.le_of_ble_eq_true rfl) ?_
  intro p e ms m below meth c X hlk hr
  have X : Cx E layC p ms m [.ref (ea E 0)].toArray c cX8_thinkAnew RX8 1 := X
  refine r_sub (L' := [(0, .ref (ea E 0))]) [0] rfl ?_
  unfold fX8_thinkAnew at h
  refine r_aload_n X dX8_thinkAnew_0 0 rfl rfl ?_
  refine r_getr X dX8_thinkAnew_1 i_X8 v_X8 lC_0 2 rfl (Nat.le_of_ble_eq_true rfl) g_295 ?_
  refine r_aload_n X dX8_thinkAnew_4 0 rfl rfl ?_
  refine r_getr X dX8_thinkAnew_5 i_X8 v_X8 lC_0 0 rfl (Nat.le_of_ble_eq_true rfl) g_293 ?_
  refine r_getr X dX8_thinkAnew_8 i_X7 v_X7 lC_1 0 rfl (Nat.le_of_ble_eq_true rfl) g_177 ?_
  obtain ⟨s1, e2, h⟩ := bd1_ok h
  refine kX0_copyFrom X (ctX0_copyFrom hH_39 hH_2 e2) dX8_thinkAnew_11 lC_39 g_563 (Nat.le_of_ble_eq_true rfl) (Nat.le_of_ble_eq_true rfl) ?_
  exact s_vret X hlk hr dX8_thinkAnew_14 h
/-! X8_then -/
theorem nX8_then : yX8_then.cls ≠ "java/lang/invoke/MethodHandle" ∧ yX8_then.cls ≠ "java/lang/invoke/VarHandle" ∧ (parseMethodDescriptor yX8_then.desc).map (fun d => d.parameters.length) = some 3 := by decide +kernel
theorem kX8_then {l : Launch} {E : EE} {p : Program} {e : Env} {ms : State} {m : MethodId} {args : Array Value} {below : List Frame} {meth : Method} {c : Code} {cc : ByteArray} {own : String} {nL pc idx d D : Nat} {Q : State → Prop} {L : List (Nat × Value)} {rest : List Value} {σ τ : St} {a1 : Int32} {a2 : Int32} {a3 : Int32} {r : Int32} {fl : List (Option Nat)} (X : Cx E layC p ms m args c cc own nL) (hM : Ct l E layC yX8_then cX8_then 4 (some .int) d [.ref (ea E 0), .int a1, .int a2, .int a3] σ (some (.int r)) τ) (hd : decode cc pc = .ok (.invokevirtual idx, 3)) (hlay : layC[0]? = some (.inl (7, fl))) (w1 : Cond.methodLink own idx yX8_then ∈ gw) (hR : d + 1 ≤ D) (hrs : (rest.map fun v => v.category).sum ≤ 8) (k : AW E layC p l e (rmD D) ms m args below meth c nL 0 0 Q (pc + 3) L (.int r :: rest) τ) : AW E layC p l e (rmD D) ms m args below meth c nL 0 0 Q pc L (.int a3 :: .int a2 :: .int a1 :: .ref (ea E 0) :: rest) σ :=
  s_callV X [.int a1, .int a2, .int a3] rest hM hd v_X8 hlay w1 g_553 g_554 g_67 g_555 nX8_then rfl rfl hrs (Nat.le_of_ble_eq_true rfl) hR k
def fX8_then (a1 : Int32) (a2 : Int32) (a3 : Int32) (s0 : St) : Option (Int32 × St) :=
    bd2 (fX8_isAhead a1 s0) fun u3 s1 =>
    jn (fun (s4 : St) =>
    bd2 (fX8_error 1 s4) fun u7 s5 =>
    some (u7, s5)) fun j24 =>
    if u3 = 0 then
    j24 s1
    else
    bd2 (fX8_isDiner a2 s1) fun u10 s8 =>
    if u10 = 0 then
    j24 s8
    else
    bd2 (fX8_within a3 0 1 s8) fun u13 s11 =>
    if u13 = 0 then
    j24 s11
    else
    bd1 (fX8_thinkAnew  s11) fun s14 =>
    bd1 (fX0_spend 39 a1 s14) fun s16 =>
    if a3 = 0 then
    bd1 (ald s16 45 8 a2) fun v21 =>
    some (v21, s16)
    else
    bd1 (ald s16 47 8 a2) fun v19 =>
    some (v19, s16)
set_option maxHeartbeats 4000000 in
set_option maxRecDepth 100000 in
theorem ctX8_then {l : Launch} {E : EE} {a1 : Int32} {a2 : Int32} {a3 : Int32} {s0 : St} {r9 : Int32} {t9 : St}  (h : fX8_then a1 a2 a3 s0 = some (r9, t9)) : Ct l E layC yX8_then cX8_then 4 (some .int) 6 [.ref (ea E 0), .int a1, .int a2, .int a3] s0 (some (.int r9)) t9 := by
  refine Ct.of (by decide) (Nat.le_of_ble_eq_true rfl) ?_
  intro p e ms m below meth c X hlk hr
  have X : Cx E layC p ms m [.ref (ea E 0), .int a1, .int a2, .int a3].toArray c cX8_then RX8 4 := X
  refine r_sub (L' := [(0, .ref (ea E 0)), (1, .int a1), (2, .int a2), (3, .int a3)]) [0, 1, 2, 3] rfl ?_
  unfold fX8_then at h
  refine r_iload_n X dX8_then_0 1 rfl rfl ?_
  obtain ⟨u3, s1, e2, h⟩ := bd2_ok h
  refine kX8_isAhead X (ctX8_isAhead e2) dX8_then_1 g_556 (Nat.le_of_ble_eq_true rfl) (Nat.le_of_ble_eq_true rfl) ?_
  obtain ⟨j24, ej24, h⟩ := jn1_ok h
  have hj24 : ∀ (s4 : St), j24 s4 = some (r9, t9) → AW E layC p l e (rmD 6) ms m [.ref (ea E 0), .int a1, .int a2, .int a3].toArray below meth c 4 0 0 (MQc E layC below [.ref (ea E 0), .int a1, .int a2, .int a3].toArray ms (some (.int r9)) t9) 24 [(0, .ref (ea E 0))] [] s4 := by
    intro s4 h
    rw [ej24] at h
    refine r_aload_n X dX8_then_24 0 rfl rfl ?_
    refine r_iconst X dX8_then_25 (v := 1) (by decide) ?_
    obtain ⟨u7, s5, e6, h⟩ := bd2_ok h
    refine kX8_error X (ctX8_error e6) dX8_then_26 lC_0 g_337 (Nat.le_of_ble_eq_true rfl) (Nat.le_of_ble_eq_true rfl) ?_
    exact s_iret X hlk hr dX8_then_29 h
  refine r_if_eq X 24 dX8_then_4 (by decide) (fun c25 => ?_) (fun c25 => ?_)
  · rw [if_pos c25] at h
    refine r_sub (L' := [(0, .ref (ea E 0))]) [0] rfl ?_
    exact hj24 _ h
  · rw [if_neg c25] at h
    refine r_aload_n X dX8_then_7 0 rfl rfl ?_
    refine r_iload_n X dX8_then_8 2 rfl rfl ?_
    obtain ⟨u10, s8, e9, h⟩ := bd2_ok h
    refine kX8_isDiner X (ctX8_isDiner e9) dX8_then_9 lC_0 g_380 (Nat.le_of_ble_eq_true rfl) (Nat.le_of_ble_eq_true rfl) ?_
    refine r_if_eq X 24 dX8_then_12 (by decide) (fun c24 => ?_) (fun c24 => ?_)
    · rw [if_pos c24] at h
      refine r_sub (L' := [(0, .ref (ea E 0))]) [0] rfl ?_
      exact hj24 _ h
    · rw [if_neg c24] at h
      refine r_iload_n X dX8_then_15 3 rfl rfl ?_
      refine r_iconst X dX8_then_16 (v := 0) (by decide) ?_
      refine r_iconst X dX8_then_17 (v := 1) (by decide) ?_
      obtain ⟨u13, s11, e12, h⟩ := bd2_ok h
      refine kX8_within X (ctX8_within e12) dX8_then_18 g_334 (Nat.le_of_ble_eq_true rfl) (Nat.le_of_ble_eq_true rfl) ?_
      refine r_if_ne X 30 dX8_then_21 (by decide) (fun c23 => ?_) (fun c23 => ?_)
      · rw [if_neg c23] at h
        refine r_aload_n X dX8_then_30 0 rfl rfl ?_
        obtain ⟨s14, e15, h⟩ := bd1_ok h
        refine kX8_thinkAnew X (ctX8_thinkAnew e15) dX8_then_31 lC_0 g_559 (Nat.le_of_ble_eq_true rfl) (Nat.le_of_ble_eq_true rfl) ?_
        refine r_aload_n X dX8_then_34 0 rfl rfl ?_
        refine r_getr X dX8_then_35 i_X8 v_X8 lC_0 2 rfl (Nat.le_of_ble_eq_true rfl) g_295 ?_
        refine r_aload_n X dX8_then_38 0 rfl rfl ?_
        refine r_getr X dX8_then_39 i_X8 v_X8 lC_0 3 rfl (Nat.le_of_ble_eq_true rfl) g_296 ?_
        refine r_iload_n X dX8_then_42 1 rfl rfl ?_
        obtain ⟨s16, e17, h⟩ := bd1_ok h
        refine kX0_spend X (ctX0_spend hH_39 e17) dX8_then_43 lC_39 g_522 (Nat.le_of_ble_eq_true rfl) (Nat.le_of_ble_eq_true rfl) ?_
        refine r_iload_n X dX8_then_46 3 rfl rfl ?_
        refine r_if_ne X 62 dX8_then_47 (by decide) (fun c22 => ?_) (fun c22 => ?_)
        · rw [if_neg c22] at h
          refine r_aload_n X dX8_then_62 0 rfl rfl ?_
          refine r_getr X dX8_then_63 i_X8 v_X8 lC_0 2 rfl (Nat.le_of_ble_eq_true rfl) g_295 ?_
          refine r_getr X dX8_then_66 i_X0 v_X0 lC_39 7 rfl (Nat.le_of_ble_eq_true rfl) g_115 ?_
          refine r_iload_n X dX8_then_69 2 rfl rfl ?_
          obtain ⟨g18, v19, ev19, h⟩ := ld_ok h
          refine s_iald X dX8_then_70 lC_47 g18 ev19 ?_
          exact s_iret X hlk hr dX8_then_71 h
        · rw [if_pos c22] at h
          refine r_aload_n X dX8_then_50 0 rfl rfl ?_
          refine r_getr X dX8_then_51 i_X8 v_X8 lC_0 2 rfl (Nat.le_of_ble_eq_true rfl) g_295 ?_
          refine r_getr X dX8_then_54 i_X0 v_X0 lC_39 5 rfl (Nat.le_of_ble_eq_true rfl) g_111 ?_
          refine r_iload_n X dX8_then_57 2 rfl rfl ?_
          obtain ⟨g20, v21, ev21, h⟩ := ld_ok h
          refine s_iald X dX8_then_58 lC_45 g20 ev21 ?_
          refine r_goto X 71 dX8_then_59 (by decide) ?_
          exact s_iret X hlk hr dX8_then_71 h
      · rw [if_pos c23] at h
        refine r_sub (L' := [(0, .ref (ea E 0))]) [0] rfl ?_
        exact hj24 _ h
/-! X8_out -/
theorem nX8_out : yX8_out.cls ≠ "java/lang/invoke/MethodHandle" ∧ yX8_out.cls ≠ "java/lang/invoke/VarHandle" ∧ (parseMethodDescriptor yX8_out.desc).map (fun d => d.parameters.length) = some 2 := by decide +kernel
theorem kX8_out {l : Launch} {E : EE} {p : Program} {e : Env} {ms : State} {m : MethodId} {args : Array Value} {below : List Frame} {meth : Method} {c : Code} {cc : ByteArray} {own : String} {nL pc idx d D : Nat} {Q : State → Prop} {L : List (Nat × Value)} {rest : List Value} {σ τ : St} {a1 : Int32} {a2 : Int32} {r : Int32} {fl : List (Option Nat)} (X : Cx E layC p ms m args c cc own nL) (hM : Ct l E layC yX8_out cX8_out 4 (some .int) d [.ref (ea E 0), .int a1, .int a2] σ (some (.int r)) τ) (hd : decode cc pc = .ok (.invokevirtual idx, 3)) (hlay : layC[0]? = some (.inl (7, fl))) (w1 : Cond.methodLink own idx yX8_out ∈ gw) (hR : d + 1 ≤ D) (hrs : (rest.map fun v => v.category).sum ≤ 8) (k : AW E layC p l e (rmD D) ms m args below meth c nL 0 0 Q (pc + 3) L (.int r :: rest) τ) : AW E layC p l e (rmD D) ms m args below meth c nL 0 0 Q pc L (.int a2 :: .int a1 :: .ref (ea E 0) :: rest) σ :=
  s_callV X [.int a1, .int a2] rest hM hd v_X8 hlay w1 g_569 g_570 g_67 g_571 nX8_out rfl rfl hrs (Nat.le_of_ble_eq_true rfl) hR k
def fX8_out_27 (a1 : Int32) (a2 : Int32) : Nat → Int32 → St → Option ((Int32 × St) ⊕ (St))
  | 0, _, _ => none
  | n + 1, a3, s0 =>
    if 60 < a3 then
    some (.inr s0)
    else
    bd1 (ald s0 47 8 a1) fun v14 =>
    if v14 < a2 then
    bd1 (fX0_spend 39 1 s0) fun s15 =>
    fX8_out_27 a1 a2 n (a3 + 1) s15
    else
    some (.inl (a3, s0))
def fX8_out (a1 : Int32) (a2 : Int32) (s0 : St) : Option (Int32 × St) :=
    bd2 (fX8_isDiner a1 s0) fun u3 s1 =>
    jn (fun (s4 : St) =>
    bd2 (fX8_error 1 s4) fun u7 s5 =>
    some (u7, s5)) fun j15 =>
    if u3 = 0 then
    j15 s1
    else
    bd2 (fX8_isKnown a2 s1) fun u10 s8 =>
    if u10 = 0 then
    j15 s8
    else
    bd1 (fX8_thinkAnew  s8) fun s11 =>
    bS1 (fX8_out_27 a1 a2 FU 0 s11) (fun u23 => some u23) fun s19 =>
    bd2 (fX8_error 2 s19) fun u22 s20 =>
    some (u22, s20)
set_option maxHeartbeats 4000000 in
set_option maxRecDepth 100000 in
theorem LX8_out_27 {l : Launch} {E : EE} {p : Program} {e : Env} {ms : State} {m : MethodId} {args : Array Value} {below : List Frame} {meth : Method} {c : Code} {a1 : Int32} {a2 : Int32} {r9 : Int32} {t9 : St} (X : Cx E layC p ms m args c cX8_out RX8 4) (hlk : meth.locks = false) (hr : meth.sig.returnType = (some .int)) : ∀ (n : Nat) (a3 : Int32) (s0 : St) (o : (Int32 × St) ⊕ (St)), fX8_out_27 a1 a2 n a3 s0 = some o → (∀ r, o = .inl r → r = (r9, t9)) → (∀  (t8 : St), o = .inr t8 → AW E layC p l e (rmD 6) ms m args below meth c 4 0 0 (MQc E layC below args ms (some (.int r9)) t9) 66 [(0, .ref (ea E 0))] [] t8) → AW E layC p l e (rmD 6) ms m args below meth c 4 0 0 (MQc E layC below args ms (some (.int r9)) t9) 27 [(0, .ref (ea E 0)), (1, .int a1), (2, .int a2), (3, .int a3)] [] s0 := by
  intro n
  induction n with
  | zero =>
    intro a3 s0 o h hR hE
    cases h
  | succ n ih =>
    intro a3 s0 o h hR hE
    rw [fX8_out_27] at h
    refine r_iload_n X dX8_out_27 3 rfl rfl ?_
    refine r_bipush X dX8_out_28 (v := 60) (by decide) ?_
    refine r_icmp_gt X 66 dX8_out_30 (by decide) (fun c18 => ?_) (fun c18 => ?_)
    · rw [if_pos c18] at h
      refine r_sub (L' := [(0, .ref (ea E 0))]) [0] rfl ?_
      cases h
      exact hE _ rfl
    · rw [if_neg c18] at h
      refine r_aload_n X dX8_out_33 0 rfl rfl ?_
      refine r_getr X dX8_out_34 i_X8 v_X8 lC_0 2 rfl (Nat.le_of_ble_eq_true rfl) g_295 ?_
      refine r_getr X dX8_out_37 i_X0 v_X0 lC_39 7 rfl (Nat.le_of_ble_eq_true rfl) g_115 ?_
      refine r_iload_n X dX8_out_40 1 rfl rfl ?_
      obtain ⟨g13, v14, ev14, h⟩ := ld_ok h
      refine s_iald X dX8_out_41 lC_47 g13 ev14 ?_
      refine r_iload_n X dX8_out_42 2 rfl rfl ?_
      refine r_icmp_lt X 48 dX8_out_43 (by decide) (fun c17 => ?_) (fun c17 => ?_)
      · rw [if_pos c17] at h
        refine r_aload_n X dX8_out_48 0 rfl rfl ?_
        refine r_getr X dX8_out_49 i_X8 v_X8 lC_0 2 rfl (Nat.le_of_ble_eq_true rfl) g_295 ?_
        refine r_aload_n X dX8_out_52 0 rfl rfl ?_
        refine r_getr X dX8_out_53 i_X8 v_X8 lC_0 3 rfl (Nat.le_of_ble_eq_true rfl) g_296 ?_
        refine r_iconst X dX8_out_56 (v := 1) (by decide) ?_
        obtain ⟨s15, e16, h⟩ := bd1_ok h
        refine kX0_spend X (ctX0_spend hH_39 e16) dX8_out_57 lC_39 g_522 (Nat.le_of_ble_eq_true rfl) (Nat.le_of_ble_eq_true rfl) ?_
        refine r_iinc (L' := [(0, .ref (ea E 0)), (1, .int a1), (2, .int a2), (3, .int (a3 + 1))]) (v := a3 + 1) X dX8_out_60 3 rfl rfl [1, 2, 3, 0] rfl (Nat.le_of_ble_eq_true rfl) ?_
        refine r_goto X 27 dX8_out_63 (by decide) ?_
        exact ih _ _ _ h hR hE
      · rw [if_neg c17] at h
        refine r_iload_n X dX8_out_46 3 rfl rfl ?_
        exact s_iret X hlk hr dX8_out_47 (inl_ok h hR)
set_option maxHeartbeats 4000000 in
set_option maxRecDepth 100000 in
theorem LX8_out_27_x {l : Launch} {E : EE} {p : Program} {e : Env} {ms : State} {m : MethodId} {args : Array Value} {below : List Frame} {meth : Method} {c : Code} {a1 : Int32} {a2 : Int32} {r9 : Int32} {t9 : St} (X : Cx E layC p ms m args c cX8_out RX8 4) (hlk : meth.locks = false) (hr : meth.sig.returnType = (some .int)) (n : Nat) (a3 : Int32) (s0 : St)  (t8 : St) (h : fX8_out_27 a1 a2 n a3 s0 = some (.inr t8)) (hE : AW E layC p l e (rmD 6) ms m args below meth c 4 0 0 (MQc E layC below args ms (some (.int r9)) t9) 66 [(0, .ref (ea E 0))] [] t8) : AW E layC p l e (rmD 6) ms m args below meth c 4 0 0 (MQc E layC below args ms (some (.int r9)) t9) 27 [(0, .ref (ea E 0)), (1, .int a1), (2, .int a2), (3, .int a3)] [] s0 :=
  LX8_out_27 X hlk hr n a3 s0 _ h (fun r he => by cases he) (fun _ he => by cases he; exact hE)
set_option maxHeartbeats 4000000 in
set_option maxRecDepth 100000 in
theorem LX8_out_27_r {l : Launch} {E : EE} {p : Program} {e : Env} {ms : State} {m : MethodId} {args : Array Value} {below : List Frame} {meth : Method} {c : Code} {a1 : Int32} {a2 : Int32} {r9 : Int32} {t9 : St} (X : Cx E layC p ms m args c cX8_out RX8 4) (hlk : meth.locks = false) (hr : meth.sig.returnType = (some .int)) (n : Nat) (a3 : Int32) (s0 : St) {r8 : Int32 × St} (h : fX8_out_27 a1 a2 n a3 s0 = some (.inl r8)) (hR : ∀ r, (.inl r8 : (Int32 × St) ⊕ (St)) = .inl r → r = (r9, t9)) : AW E layC p l e (rmD 6) ms m args below meth c 4 0 0 (MQc E layC below args ms (some (.int r9)) t9) 27 [(0, .ref (ea E 0)), (1, .int a1), (2, .int a2), (3, .int a3)] [] s0 :=
  LX8_out_27 X hlk hr n a3 s0 _ h hR (fun _ he => by cases he)
set_option maxHeartbeats 4000000 in
set_option maxRecDepth 100000 in
theorem ctX8_out {l : Launch} {E : EE} {a1 : Int32} {a2 : Int32} {s0 : St} {r9 : Int32} {t9 : St}  (h : fX8_out a1 a2 s0 = some (r9, t9)) : Ct l E layC yX8_out cX8_out 4 (some .int) 6 [.ref (ea E 0), .int a1, .int a2] s0 (some (.int r9)) t9 := by
  refine Ct.of (by decide) (Nat.le_of_ble_eq_true rfl) ?_
  intro p e ms m below meth c X hlk hr
  have X : Cx E layC p ms m [.ref (ea E 0), .int a1, .int a2].toArray c cX8_out RX8 4 := X
  refine r_sub (L' := [(0, .ref (ea E 0)), (1, .int a1), (2, .int a2)]) [0, 1, 2] rfl ?_
  unfold fX8_out at h
  refine r_aload_n X dX8_out_0 0 rfl rfl ?_
  refine r_iload_n X dX8_out_1 1 rfl rfl ?_
  obtain ⟨u3, s1, e2, h⟩ := bd2_ok h
  refine kX8_isDiner X (ctX8_isDiner e2) dX8_out_2 lC_0 g_380 (Nat.le_of_ble_eq_true rfl) (Nat.le_of_ble_eq_true rfl) ?_
  obtain ⟨j15, ej15, h⟩ := jn1_ok h
  have hj15 : ∀ (s4 : St), j15 s4 = some (r9, t9) → AW E layC p l e (rmD 6) ms m [.ref (ea E 0), .int a1, .int a2].toArray below meth c 4 0 0 (MQc E layC below [.ref (ea E 0), .int a1, .int a2].toArray ms (some (.int r9)) t9) 15 [(0, .ref (ea E 0))] [] s4 := by
    intro s4 h
    rw [ej15] at h
    refine r_aload_n X dX8_out_15 0 rfl rfl ?_
    refine r_iconst X dX8_out_16 (v := 1) (by decide) ?_
    obtain ⟨u7, s5, e6, h⟩ := bd2_ok h
    refine kX8_error X (ctX8_error e6) dX8_out_17 lC_0 g_337 (Nat.le_of_ble_eq_true rfl) (Nat.le_of_ble_eq_true rfl) ?_
    exact s_iret X hlk hr dX8_out_20 h
  refine r_if_eq X 15 dX8_out_5 (by decide) (fun c26 => ?_) (fun c26 => ?_)
  · rw [if_pos c26] at h
    refine r_sub (L' := [(0, .ref (ea E 0))]) [0] rfl ?_
    exact hj15 _ h
  · rw [if_neg c26] at h
    refine r_iload_n X dX8_out_8 2 rfl rfl ?_
    obtain ⟨u10, s8, e9, h⟩ := bd2_ok h
    refine kX8_isKnown X (ctX8_isKnown e9) dX8_out_9 g_426 (Nat.le_of_ble_eq_true rfl) (Nat.le_of_ble_eq_true rfl) ?_
    refine r_if_ne X 21 dX8_out_12 (by decide) (fun c25 => ?_) (fun c25 => ?_)
    · rw [if_neg c25] at h
      refine r_aload_n X dX8_out_21 0 rfl rfl ?_
      obtain ⟨s11, e12, h⟩ := bd1_ok h
      refine kX8_thinkAnew X (ctX8_thinkAnew e12) dX8_out_22 lC_0 g_559 (Nat.le_of_ble_eq_true rfl) (Nat.le_of_ble_eq_true rfl) ?_
      refine r_iconst X dX8_out_25 (v := 0) (by decide) ?_
      refine r_istore_n (L' := [(0, .ref (ea E 0)), (1, .int a1), (2, .int a2), (3, .int 0)]) X dX8_out_26 [1, 2, 3, 0] rfl rfl (Nat.le_of_ble_eq_true rfl) ?_
      obtain ⟨o24, eo, ho⟩ := bS1_ok h
      rcases ho with ⟨u23, rfl, h⟩ | ⟨s19, rfl, h⟩
      · exact LX8_out_27_r X hlk hr FU _ _ eo (fun r hr1 => by cases hr1; exact Option.some.inj h)
      · refine LX8_out_27_x X hlk hr FU _ _ _ eo ?_
        refine r_aload_n X dX8_out_66 0 rfl rfl ?_
        refine r_iconst X dX8_out_67 (v := 2) (by decide) ?_
        obtain ⟨u22, s20, e21, h⟩ := bd2_ok h
        refine kX8_error X (ctX8_error e21) dX8_out_68 lC_0 g_337 (Nat.le_of_ble_eq_true rfl) (Nat.le_of_ble_eq_true rfl) ?_
        exact s_iret X hlk hr dX8_out_71 h
    · rw [if_pos c25] at h
      refine r_sub (L' := [(0, .ref (ea E 0))]) [0] rfl ?_
      exact hj15 _ h
/-! X8_first -/
theorem nX8_first : yX8_first.cls ≠ "java/lang/invoke/MethodHandle" ∧ yX8_first.cls ≠ "java/lang/invoke/VarHandle" ∧ (parseMethodDescriptor yX8_first.desc).map (fun d => d.parameters.length) = some 1 := by decide +kernel
theorem kX8_first {l : Launch} {E : EE} {p : Program} {e : Env} {ms : State} {m : MethodId} {args : Array Value} {below : List Frame} {meth : Method} {c : Code} {cc : ByteArray} {own : String} {nL pc idx d D : Nat} {Q : State → Prop} {L : List (Nat × Value)} {rest : List Value} {σ τ : St} {a1 : Int32} {r : Int32} {fl : List (Option Nat)} (X : Cx E layC p ms m args c cc own nL) (hM : Ct l E layC yX8_first cX8_first 4 (some .int) d [.ref (ea E 0), .int a1] σ (some (.int r)) τ) (hd : decode cc pc = .ok (.invokevirtual idx, 3)) (hlay : layC[0]? = some (.inl (7, fl))) (w1 : Cond.methodLink own idx yX8_first ∈ gw) (hR : d + 1 ≤ D) (hrs : (rest.map fun v => v.category).sum ≤ 8) (k : AW E layC p l e (rmD D) ms m args below meth c nL 0 0 Q (pc + 3) L (.int r :: rest) τ) : AW E layC p l e (rmD D) ms m args below meth c nL 0 0 Q pc L (.int a1 :: .ref (ea E 0) :: rest) σ :=
  s_callV X [.int a1] rest hM hd v_X8 hlay w1 g_573 g_574 g_67 g_575 nX8_first rfl rfl hrs (Nat.le_of_ble_eq_true rfl) hR k
def fX8_first_21 (a1 : Int32) : Nat → Int32 → St → Option ((Int32 × St) ⊕ (St))
  | 0, _, _ => none
  | n + 1, a2, s0 =>
    if 60 < a2 then
    some (.inr s0)
    else
    bd2 (fX0_whoLeavesSweet 39 s0) fun u8 s6 =>
    if u8 < 0 then
    bd1 (fX0_spend 39 1 s6) fun s9 =>
    fX8_first_21 a1 n (a2 + 1) s9
    else
    if a1 = 0 then
    some (.inl (a2, s6))
    else
    some (.inl (u8, s6))
def fX8_first (a1 : Int32) (s0 : St) : Option (Int32 × St) :=
    bd2 (fX8_within a1 0 1 s0) fun u3 s1 =>
    if u3 = 0 then
    bd2 (fX8_error 1 s1) fun u22 s20 =>
    some (u22, s20)
    else
    bd1 (fX8_thinkAnew  s1) fun s4 =>
    bS1 (fX8_first_21 a1 FU 0 s4) (fun u18 => some u18) fun s14 =>
    bd2 (fX8_error 2 s14) fun u17 s15 =>
    some (u17, s15)
set_option maxHeartbeats 4000000 in
set_option maxRecDepth 100000 in
theorem LX8_first_21 {l : Launch} {E : EE} {p : Program} {e : Env} {ms : State} {m : MethodId} {args : Array Value} {below : List Frame} {meth : Method} {c : Code} {a1 : Int32} {r9 : Int32} {t9 : St} (X : Cx E layC p ms m args c cX8_first RX8 4) (hlk : meth.locks = false) (hr : meth.sig.returnType = (some .int)) : ∀ (n : Nat) (a2 : Int32) (s0 : St) (o : (Int32 × St) ⊕ (St)), fX8_first_21 a1 n a2 s0 = some o → (∀ r, o = .inl r → r = (r9, t9)) → (∀  (t8 : St), o = .inr t8 → AW E layC p l e (rmD 6) ms m args below meth c 4 0 0 (MQc E layC below args ms (some (.int r9)) t9) 71 [(0, .ref (ea E 0))] [] t8) → AW E layC p l e (rmD 6) ms m args below meth c 4 0 0 (MQc E layC below args ms (some (.int r9)) t9) 21 [(0, .ref (ea E 0)), (1, .int a1), (2, .int a2)] [] s0 := by
  intro n
  induction n with
  | zero =>
    intro a2 s0 o h hR hE
    cases h
  | succ n ih =>
    intro a2 s0 o h hR hE
    rw [fX8_first_21] at h
    refine r_iload_n X dX8_first_21 2 rfl rfl ?_
    refine r_bipush X dX8_first_22 (v := 60) (by decide) ?_
    refine r_icmp_gt X 71 dX8_first_24 (by decide) (fun c13 => ?_) (fun c13 => ?_)
    · rw [if_pos c13] at h
      refine r_sub (L' := [(0, .ref (ea E 0))]) [0] rfl ?_
      cases h
      exact hE _ rfl
    · rw [if_neg c13] at h
      refine r_aload_n X dX8_first_27 0 rfl rfl ?_
      refine r_getr X dX8_first_28 i_X8 v_X8 lC_0 2 rfl (Nat.le_of_ble_eq_true rfl) g_295 ?_
      refine r_aload_n X dX8_first_31 0 rfl rfl ?_
      refine r_getr X dX8_first_32 i_X8 v_X8 lC_0 3 rfl (Nat.le_of_ble_eq_true rfl) g_296 ?_
      obtain ⟨u8, s6, e7, h⟩ := bd2_ok h
      refine kX0_whoLeavesSweet X (ctX0_whoLeavesSweet hH_39 e7) dX8_first_35 lC_39 g_576 (Nat.le_of_ble_eq_true rfl) (Nat.le_of_ble_eq_true rfl) ?_
      refine r_istore_n (L' := [(0, .ref (ea E 0)), (1, .int a1), (2, .int a2), (3, .int u8)]) X dX8_first_38 [1, 2, 3, 0] rfl rfl (Nat.le_of_ble_eq_true rfl) ?_
      refine r_iload_n X dX8_first_39 3 rfl rfl ?_
      refine r_if_lt X 53 dX8_first_40 (by decide) (fun c12 => ?_) (fun c12 => ?_)
      · rw [if_pos c12] at h
        refine r_aload_n X dX8_first_53 0 rfl rfl ?_
        refine r_getr X dX8_first_54 i_X8 v_X8 lC_0 2 rfl (Nat.le_of_ble_eq_true rfl) g_295 ?_
        refine r_aload_n X dX8_first_57 0 rfl rfl ?_
        refine r_getr X dX8_first_58 i_X8 v_X8 lC_0 3 rfl (Nat.le_of_ble_eq_true rfl) g_296 ?_
        refine r_iconst X dX8_first_61 (v := 1) (by decide) ?_
        obtain ⟨s9, e10, h⟩ := bd1_ok h
        refine kX0_spend X (ctX0_spend hH_39 e10) dX8_first_62 lC_39 g_522 (Nat.le_of_ble_eq_true rfl) (Nat.le_of_ble_eq_true rfl) ?_
        refine r_iinc (L' := [(0, .ref (ea E 0)), (1, .int a1), (2, .int (a2 + 1)), (3, .int u8)]) (v := a2 + 1) X dX8_first_65 2 rfl rfl [1, 2, 0, 3] rfl (Nat.le_of_ble_eq_true rfl) ?_
        refine r_goto X 21 dX8_first_68 (by decide) ?_
        refine r_sub (L' := [(0, .ref (ea E 0)), (1, .int a1), (2, .int (a2 + 1))]) [0, 1, 2] rfl ?_
        exact ih _ _ _ h hR hE
      · rw [if_neg c12] at h
        refine r_iload_n X dX8_first_43 1 rfl rfl ?_
        refine r_if_ne X 51 dX8_first_44 (by decide) (fun c11 => ?_) (fun c11 => ?_)
        · rw [if_neg c11] at h
          refine r_iload_n X dX8_first_51 3 rfl rfl ?_
          exact s_iret X hlk hr dX8_first_52 (inl_ok h hR)
        · rw [if_pos c11] at h
          refine r_iload_n X dX8_first_47 2 rfl rfl ?_
          refine r_goto X 52 dX8_first_48 (by decide) ?_
          exact s_iret X hlk hr dX8_first_52 (inl_ok h hR)
set_option maxHeartbeats 4000000 in
set_option maxRecDepth 100000 in
theorem LX8_first_21_x {l : Launch} {E : EE} {p : Program} {e : Env} {ms : State} {m : MethodId} {args : Array Value} {below : List Frame} {meth : Method} {c : Code} {a1 : Int32} {r9 : Int32} {t9 : St} (X : Cx E layC p ms m args c cX8_first RX8 4) (hlk : meth.locks = false) (hr : meth.sig.returnType = (some .int)) (n : Nat) (a2 : Int32) (s0 : St)  (t8 : St) (h : fX8_first_21 a1 n a2 s0 = some (.inr t8)) (hE : AW E layC p l e (rmD 6) ms m args below meth c 4 0 0 (MQc E layC below args ms (some (.int r9)) t9) 71 [(0, .ref (ea E 0))] [] t8) : AW E layC p l e (rmD 6) ms m args below meth c 4 0 0 (MQc E layC below args ms (some (.int r9)) t9) 21 [(0, .ref (ea E 0)), (1, .int a1), (2, .int a2)] [] s0 :=
  LX8_first_21 X hlk hr n a2 s0 _ h (fun r he => by cases he) (fun _ he => by cases he; exact hE)
set_option maxHeartbeats 4000000 in
set_option maxRecDepth 100000 in
theorem LX8_first_21_r {l : Launch} {E : EE} {p : Program} {e : Env} {ms : State} {m : MethodId} {args : Array Value} {below : List Frame} {meth : Method} {c : Code} {a1 : Int32} {r9 : Int32} {t9 : St} (X : Cx E layC p ms m args c cX8_first RX8 4) (hlk : meth.locks = false) (hr : meth.sig.returnType = (some .int)) (n : Nat) (a2 : Int32) (s0 : St) {r8 : Int32 × St} (h : fX8_first_21 a1 n a2 s0 = some (.inl r8)) (hR : ∀ r, (.inl r8 : (Int32 × St) ⊕ (St)) = .inl r → r = (r9, t9)) : AW E layC p l e (rmD 6) ms m args below meth c 4 0 0 (MQc E layC below args ms (some (.int r9)) t9) 21 [(0, .ref (ea E 0)), (1, .int a1), (2, .int a2)] [] s0 :=
  LX8_first_21 X hlk hr n a2 s0 _ h hR (fun _ he => by cases he)
set_option maxHeartbeats 4000000 in
set_option maxRecDepth 100000 in
theorem ctX8_first {l : Launch} {E : EE} {a1 : Int32} {s0 : St} {r9 : Int32} {t9 : St}  (h : fX8_first a1 s0 = some (r9, t9)) : Ct l E layC yX8_first cX8_first 4 (some .int) 6 [.ref (ea E 0), .int a1] s0 (some (.int r9)) t9 := by
  refine Ct.of (by decide) (Nat.le_of_ble_eq_true rfl) ?_
  intro p e ms m below meth c X hlk hr
  have X : Cx E layC p ms m [.ref (ea E 0), .int a1].toArray c cX8_first RX8 4 := X
  refine r_sub (L' := [(0, .ref (ea E 0)), (1, .int a1)]) [0, 1] rfl ?_
  unfold fX8_first at h
  refine r_iload_n X dX8_first_0 1 rfl rfl ?_
  refine r_iconst X dX8_first_1 (v := 0) (by decide) ?_
  refine r_iconst X dX8_first_2 (v := 1) (by decide) ?_
  obtain ⟨u3, s1, e2, h⟩ := bd2_ok h
  refine kX8_within X (ctX8_within e2) dX8_first_3 g_334 (Nat.le_of_ble_eq_true rfl) (Nat.le_of_ble_eq_true rfl) ?_
  refine r_if_ne X 15 dX8_first_6 (by decide) (fun c23 => ?_) (fun c23 => ?_)
  · rw [if_neg c23] at h
    refine r_aload_n X dX8_first_15 0 rfl rfl ?_
    obtain ⟨s4, e5, h⟩ := bd1_ok h
    refine kX8_thinkAnew X (ctX8_thinkAnew e5) dX8_first_16 lC_0 g_559 (Nat.le_of_ble_eq_true rfl) (Nat.le_of_ble_eq_true rfl) ?_
    refine r_iconst X dX8_first_19 (v := 0) (by decide) ?_
    refine r_istore_n (L' := [(0, .ref (ea E 0)), (1, .int a1), (2, .int 0)]) X dX8_first_20 [1, 2, 0] rfl rfl (Nat.le_of_ble_eq_true rfl) ?_
    obtain ⟨o19, eo, ho⟩ := bS1_ok h
    rcases ho with ⟨u18, rfl, h⟩ | ⟨s14, rfl, h⟩
    · exact LX8_first_21_r X hlk hr FU _ _ eo (fun r hr1 => by cases hr1; exact Option.some.inj h)
    · refine LX8_first_21_x X hlk hr FU _ _ _ eo ?_
      refine r_aload_n X dX8_first_71 0 rfl rfl ?_
      refine r_iconst X dX8_first_72 (v := 2) (by decide) ?_
      obtain ⟨u17, s15, e16, h⟩ := bd2_ok h
      refine kX8_error X (ctX8_error e16) dX8_first_73 lC_0 g_337 (Nat.le_of_ble_eq_true rfl) (Nat.le_of_ble_eq_true rfl) ?_
      exact s_iret X hlk hr dX8_first_76 h
  · rw [if_pos c23] at h
    refine r_aload_n X dX8_first_9 0 rfl rfl ?_
    refine r_iconst X dX8_first_10 (v := 1) (by decide) ?_
    obtain ⟨u22, s20, e21, h⟩ := bd2_ok h
    refine kX8_error X (ctX8_error e21) dX8_first_11 lC_0 g_337 (Nat.le_of_ble_eq_true rfl) (Nat.le_of_ble_eq_true rfl) ?_
    exact s_iret X hlk hr dX8_first_14 h
/-! X8_roomFor -/
theorem nX8_roomFor : yX8_roomFor.cls ≠ "java/lang/invoke/MethodHandle" ∧ yX8_roomFor.cls ≠ "java/lang/invoke/VarHandle" ∧ (parseMethodDescriptor yX8_roomFor.desc).map (fun d => d.parameters.length) = some 3 := by decide +kernel
theorem kX8_roomFor {l : Launch} {E : EE} {p : Program} {e : Env} {ms : State} {m : MethodId} {args : Array Value} {below : List Frame} {meth : Method} {c : Code} {cc : ByteArray} {own : String} {nL pc idx d D : Nat} {Q : State → Prop} {L : List (Nat × Value)} {rest : List Value} {σ τ : St} {a1 : Int32} {a2 : Int32} {a3 : Int32} {r : Int32} {fl : List (Option Nat)} (X : Cx E layC p ms m args c cc own nL) (hM : Ct l E layC yX8_roomFor cX8_roomFor 5 (some .int) d [.ref (ea E 0), .int a1, .int a2, .int a3] σ (some (.int r)) τ) (hd : decode cc pc = .ok (.invokevirtual idx, 3)) (hlay : layC[0]? = some (.inl (7, fl))) (w1 : Cond.methodLink own idx yX8_roomFor ∈ gw) (hR : d + 1 ≤ D) (hrs : (rest.map fun v => v.category).sum ≤ 8) (k : AW E layC p l e (rmD D) ms m args below meth c nL 0 0 Q (pc + 3) L (.int r :: rest) τ) : AW E layC p l e (rmD D) ms m args below meth c nL 0 0 Q pc L (.int a3 :: .int a2 :: .int a1 :: .ref (ea E 0) :: rest) σ :=
  s_callV X [.int a1, .int a2, .int a3] rest hM hd v_X8 hlay w1 g_581 g_582 g_67 g_583 nX8_roomFor rfl rfl hrs (Nat.le_of_ble_eq_true rfl) hR k
def fX8_roomFor_34 (a1 : Int32) (a2 : Int32) (a3 : Int32) : Nat → Int32 → St → Option ((Int32 × St) ⊕ (St))
  | 0, _, _ => none
  | n + 1, a4, s0 =>
    if 40 < a4 then
    some (.inr s0)
    else
    bd1 (fX8_thinkAnew  s0) fun s14 =>
    bd1 (ptf s14 39 9 a4) fun s16 =>
    bd1 (fX0_spend 39 a3 s16) fun s17 =>
    bd1 (ald s17 47 8 a1) fun v20 =>
    if v20 < a2 then
    fX8_roomFor_34 a1 a2 a3 n (a4 + 1) s17
    else
    some (.inl (a4, s17))
def fX8_roomFor (a1 : Int32) (a2 : Int32) (a3 : Int32) (s0 : St) : Option (Int32 × St) :=
    bd2 (fX8_isDiner a1 s0) fun u3 s1 =>
    jn (fun (s4 : St) =>
    bd2 (fX8_error 1 s4) fun u7 s5 =>
    some (u7, s5)) fun j25 =>
    if u3 = 0 then
    j25 s1
    else
    bd2 (fX8_isKnown a2 s1) fun u10 s8 =>
    if u10 = 0 then
    j25 s8
    else
    bd2 (fX8_within a3 0 30 s8) fun u13 s11 =>
    if u13 = 0 then
    j25 s11
    else
    bS1 (fX8_roomFor_34 a1 a2 a3 FU 0 s11) (fun u27 => some u27) fun s23 =>
    bd2 (fX8_error 2 s23) fun u26 s24 =>
    some (u26, s24)
set_option maxHeartbeats 4000000 in
set_option maxRecDepth 100000 in
theorem LX8_roomFor_34 {l : Launch} {E : EE} {p : Program} {e : Env} {ms : State} {m : MethodId} {args : Array Value} {below : List Frame} {meth : Method} {c : Code} {a1 : Int32} {a2 : Int32} {a3 : Int32} {r9 : Int32} {t9 : St} (X : Cx E layC p ms m args c cX8_roomFor RX8 5) (hlk : meth.locks = false) (hr : meth.sig.returnType = (some .int)) : ∀ (n : Nat) (a4 : Int32) (s0 : St) (o : (Int32 × St) ⊕ (St)), fX8_roomFor_34 a1 a2 a3 n a4 s0 = some o → (∀ r, o = .inl r → r = (r9, t9)) → (∀  (t8 : St), o = .inr t8 → AW E layC p l e (rmD 6) ms m args below meth c 5 0 0 (MQc E layC below args ms (some (.int r9)) t9) 88 [(0, .ref (ea E 0))] [] t8) → AW E layC p l e (rmD 6) ms m args below meth c 5 0 0 (MQc E layC below args ms (some (.int r9)) t9) 34 [(0, .ref (ea E 0)), (1, .int a1), (2, .int a2), (3, .int a3), (4, .int a4)] [] s0 := by
  intro n
  induction n with
  | zero =>
    intro a4 s0 o h hR hE
    cases h
  | succ n ih =>
    intro a4 s0 o h hR hE
    rw [fX8_roomFor_34] at h
    refine r_iload X dX8_roomFor_34 4 rfl ?_
    refine r_bipush X dX8_roomFor_36 (v := 40) (by decide) ?_
    refine r_icmp_gt X 88 dX8_roomFor_38 (by decide) (fun c22 => ?_) (fun c22 => ?_)
    · rw [if_pos c22] at h
      refine r_sub (L' := [(0, .ref (ea E 0))]) [0] rfl ?_
      cases h
      exact hE _ rfl
    · rw [if_neg c22] at h
      refine r_aload_n X dX8_roomFor_41 0 rfl rfl ?_
      obtain ⟨s14, e15, h⟩ := bd1_ok h
      refine kX8_thinkAnew X (ctX8_thinkAnew e15) dX8_roomFor_42 lC_0 g_559 (Nat.le_of_ble_eq_true rfl) (Nat.le_of_ble_eq_true rfl) ?_
      refine r_aload_n X dX8_roomFor_45 0 rfl rfl ?_
      refine r_getr X dX8_roomFor_46 i_X8 v_X8 lC_0 2 rfl (Nat.le_of_ble_eq_true rfl) g_295 ?_
      refine r_iload X dX8_roomFor_49 4 rfl ?_
      obtain ⟨s16, es16, h⟩ := pt_ok h
      refine s_puti X dX8_roomFor_51 i_X0 tyX0_ok nmX0 v_X0 lC_39 9 rfl (Nat.le_of_ble_eq_true rfl) g_118 rfl rfl ⟨rfl, rfl⟩ es16 ?_
      refine r_aload_n X dX8_roomFor_54 0 rfl rfl ?_
      refine r_getr X dX8_roomFor_55 i_X8 v_X8 lC_0 2 rfl (Nat.le_of_ble_eq_true rfl) g_295 ?_
      refine r_aload_n X dX8_roomFor_58 0 rfl rfl ?_
      refine r_getr X dX8_roomFor_59 i_X8 v_X8 lC_0 3 rfl (Nat.le_of_ble_eq_true rfl) g_296 ?_
      refine r_iload_n X dX8_roomFor_62 3 rfl rfl ?_
      obtain ⟨s17, e18, h⟩ := bd1_ok h
      refine kX0_spend X (ctX0_spend hH_39 e18) dX8_roomFor_63 lC_39 g_522 (Nat.le_of_ble_eq_true rfl) (Nat.le_of_ble_eq_true rfl) ?_
      refine r_aload_n X dX8_roomFor_66 0 rfl rfl ?_
      refine r_getr X dX8_roomFor_67 i_X8 v_X8 lC_0 2 rfl (Nat.le_of_ble_eq_true rfl) g_295 ?_
      refine r_getr X dX8_roomFor_70 i_X0 v_X0 lC_39 7 rfl (Nat.le_of_ble_eq_true rfl) g_115 ?_
      refine r_iload_n X dX8_roomFor_73 1 rfl rfl ?_
      obtain ⟨g19, v20, ev20, h⟩ := ld_ok h
      refine s_iald X dX8_roomFor_74 lC_47 g19 ev20 ?_
      refine r_iload_n X dX8_roomFor_75 2 rfl rfl ?_
      refine r_icmp_lt X 82 dX8_roomFor_76 (by decide) (fun c21 => ?_) (fun c21 => ?_)
      · rw [if_pos c21] at h
        refine r_iinc (L' := [(0, .ref (ea E 0)), (1, .int a1), (2, .int a2), (3, .int a3), (4, .int (a4 + 1))]) (v := a4 + 1) X dX8_roomFor_82 4 rfl rfl [1, 2, 3, 4, 0] rfl (Nat.le_of_ble_eq_true rfl) ?_
        refine r_goto X 34 dX8_roomFor_85 (by decide) ?_
        exact ih _ _ _ h hR hE
      · rw [if_neg c21] at h
        refine r_iload X dX8_roomFor_79 4 rfl ?_
        exact s_iret X hlk hr dX8_roomFor_81 (inl_ok h hR)
set_option maxHeartbeats 4000000 in
set_option maxRecDepth 100000 in
theorem LX8_roomFor_34_x {l : Launch} {E : EE} {p : Program} {e : Env} {ms : State} {m : MethodId} {args : Array Value} {below : List Frame} {meth : Method} {c : Code} {a1 : Int32} {a2 : Int32} {a3 : Int32} {r9 : Int32} {t9 : St} (X : Cx E layC p ms m args c cX8_roomFor RX8 5) (hlk : meth.locks = false) (hr : meth.sig.returnType = (some .int)) (n : Nat) (a4 : Int32) (s0 : St)  (t8 : St) (h : fX8_roomFor_34 a1 a2 a3 n a4 s0 = some (.inr t8)) (hE : AW E layC p l e (rmD 6) ms m args below meth c 5 0 0 (MQc E layC below args ms (some (.int r9)) t9) 88 [(0, .ref (ea E 0))] [] t8) : AW E layC p l e (rmD 6) ms m args below meth c 5 0 0 (MQc E layC below args ms (some (.int r9)) t9) 34 [(0, .ref (ea E 0)), (1, .int a1), (2, .int a2), (3, .int a3), (4, .int a4)] [] s0 :=
  LX8_roomFor_34 X hlk hr n a4 s0 _ h (fun r he => by cases he) (fun _ he => by cases he; exact hE)
set_option maxHeartbeats 4000000 in
set_option maxRecDepth 100000 in
theorem LX8_roomFor_34_r {l : Launch} {E : EE} {p : Program} {e : Env} {ms : State} {m : MethodId} {args : Array Value} {below : List Frame} {meth : Method} {c : Code} {a1 : Int32} {a2 : Int32} {a3 : Int32} {r9 : Int32} {t9 : St} (X : Cx E layC p ms m args c cX8_roomFor RX8 5) (hlk : meth.locks = false) (hr : meth.sig.returnType = (some .int)) (n : Nat) (a4 : Int32) (s0 : St) {r8 : Int32 × St} (h : fX8_roomFor_34 a1 a2 a3 n a4 s0 = some (.inl r8)) (hR : ∀ r, (.inl r8 : (Int32 × St) ⊕ (St)) = .inl r → r = (r9, t9)) : AW E layC p l e (rmD 6) ms m args below meth c 5 0 0 (MQc E layC below args ms (some (.int r9)) t9) 34 [(0, .ref (ea E 0)), (1, .int a1), (2, .int a2), (3, .int a3), (4, .int a4)] [] s0 :=
  LX8_roomFor_34 X hlk hr n a4 s0 _ h hR (fun _ he => by cases he)
set_option maxHeartbeats 4000000 in
set_option maxRecDepth 100000 in
theorem ctX8_roomFor {l : Launch} {E : EE} {a1 : Int32} {a2 : Int32} {a3 : Int32} {s0 : St} {r9 : Int32} {t9 : St}  (h : fX8_roomFor a1 a2 a3 s0 = some (r9, t9)) : Ct l E layC yX8_roomFor cX8_roomFor 5 (some .int) 6 [.ref (ea E 0), .int a1, .int a2, .int a3] s0 (some (.int r9)) t9 := by
  refine Ct.of (by decide) (Nat.le_of_ble_eq_true rfl) ?_
  intro p e ms m below meth c X hlk hr
  have X : Cx E layC p ms m [.ref (ea E 0), .int a1, .int a2, .int a3].toArray c cX8_roomFor RX8 5 := X
  refine r_sub (L' := [(0, .ref (ea E 0)), (1, .int a1), (2, .int a2), (3, .int a3)]) [0, 1, 2, 3] rfl ?_
  unfold fX8_roomFor at h
  refine r_aload_n X dX8_roomFor_0 0 rfl rfl ?_
  refine r_iload_n X dX8_roomFor_1 1 rfl rfl ?_
  obtain ⟨u3, s1, e2, h⟩ := bd2_ok h
  refine kX8_isDiner X (ctX8_isDiner e2) dX8_roomFor_2 lC_0 g_380 (Nat.le_of_ble_eq_true rfl) (Nat.le_of_ble_eq_true rfl) ?_
  obtain ⟨j25, ej25, h⟩ := jn1_ok h
  have hj25 : ∀ (s4 : St), j25 s4 = some (r9, t9) → AW E layC p l e (rmD 6) ms m [.ref (ea E 0), .int a1, .int a2, .int a3].toArray below meth c 5 0 0 (MQc E layC below [.ref (ea E 0), .int a1, .int a2, .int a3].toArray ms (some (.int r9)) t9) 25 [(0, .ref (ea E 0))] [] s4 := by
    intro s4 h
    rw [ej25] at h
    refine r_aload_n X dX8_roomFor_25 0 rfl rfl ?_
    refine r_iconst X dX8_roomFor_26 (v := 1) (by decide) ?_
    obtain ⟨u7, s5, e6, h⟩ := bd2_ok h
    refine kX8_error X (ctX8_error e6) dX8_roomFor_27 lC_0 g_337 (Nat.le_of_ble_eq_true rfl) (Nat.le_of_ble_eq_true rfl) ?_
    exact s_iret X hlk hr dX8_roomFor_30 h
  refine r_if_eq X 25 dX8_roomFor_5 (by decide) (fun c31 => ?_) (fun c31 => ?_)
  · rw [if_pos c31] at h
    refine r_sub (L' := [(0, .ref (ea E 0))]) [0] rfl ?_
    exact hj25 _ h
  · rw [if_neg c31] at h
    refine r_iload_n X dX8_roomFor_8 2 rfl rfl ?_
    obtain ⟨u10, s8, e9, h⟩ := bd2_ok h
    refine kX8_isKnown X (ctX8_isKnown e9) dX8_roomFor_9 g_426 (Nat.le_of_ble_eq_true rfl) (Nat.le_of_ble_eq_true rfl) ?_
    refine r_if_eq X 25 dX8_roomFor_12 (by decide) (fun c30 => ?_) (fun c30 => ?_)
    · rw [if_pos c30] at h
      refine r_sub (L' := [(0, .ref (ea E 0))]) [0] rfl ?_
      exact hj25 _ h
    · rw [if_neg c30] at h
      refine r_iload_n X dX8_roomFor_15 3 rfl rfl ?_
      refine r_iconst X dX8_roomFor_16 (v := 0) (by decide) ?_
      refine r_bipush X dX8_roomFor_17 (v := 30) (by decide) ?_
      obtain ⟨u13, s11, e12, h⟩ := bd2_ok h
      refine kX8_within X (ctX8_within e12) dX8_roomFor_19 g_334 (Nat.le_of_ble_eq_true rfl) (Nat.le_of_ble_eq_true rfl) ?_
      refine r_if_ne X 31 dX8_roomFor_22 (by decide) (fun c29 => ?_) (fun c29 => ?_)
      · rw [if_neg c29] at h
        refine r_iconst X dX8_roomFor_31 (v := 0) (by decide) ?_
        refine r_istore (L' := [(0, .ref (ea E 0)), (1, .int a1), (2, .int a2), (3, .int a3), (4, .int 0)]) X dX8_roomFor_32 [1, 2, 3, 4, 0] rfl (Nat.le_of_ble_eq_true rfl) ?_
        obtain ⟨o28, eo, ho⟩ := bS1_ok h
        rcases ho with ⟨u27, rfl, h⟩ | ⟨s23, rfl, h⟩
        · exact LX8_roomFor_34_r X hlk hr FU _ _ eo (fun r hr1 => by cases hr1; exact Option.some.inj h)
        · refine LX8_roomFor_34_x X hlk hr FU _ _ _ eo ?_
          refine r_aload_n X dX8_roomFor_88 0 rfl rfl ?_
          refine r_iconst X dX8_roomFor_89 (v := 2) (by decide) ?_
          obtain ⟨u26, s24, e25, h⟩ := bd2_ok h
          refine kX8_error X (ctX8_error e25) dX8_roomFor_90 lC_0 g_337 (Nat.le_of_ble_eq_true rfl) (Nat.le_of_ble_eq_true rfl) ?_
          exact s_iret X hlk hr dX8_roomFor_93 h
      · rw [if_pos c29] at h
        refine r_sub (L' := [(0, .ref (ea E 0))]) [0] rfl ?_
        exact hj25 _ h
/-! X8_best -/
theorem nX8_best : yX8_best.cls ≠ "java/lang/invoke/MethodHandle" ∧ yX8_best.cls ≠ "java/lang/invoke/VarHandle" ∧ (parseMethodDescriptor yX8_best.desc).map (fun d => d.parameters.length) = some 3 := by decide +kernel
theorem kX8_best {l : Launch} {E : EE} {p : Program} {e : Env} {ms : State} {m : MethodId} {args : Array Value} {below : List Frame} {meth : Method} {c : Code} {cc : ByteArray} {own : String} {nL pc idx d D : Nat} {Q : State → Prop} {L : List (Nat × Value)} {rest : List Value} {σ τ : St} {a1 : Int32} {a2 : Int32} {a3 : Int32} {r : Int32} {fl : List (Option Nat)} (X : Cx E layC p ms m args c cc own nL) (hM : Ct l E layC yX8_best cX8_best 8 (some .int) d [.ref (ea E 0), .int a1, .int a2, .int a3] σ (some (.int r)) τ) (hd : decode cc pc = .ok (.invokevirtual idx, 3)) (hlay : layC[0]? = some (.inl (7, fl))) (w1 : Cond.methodLink own idx yX8_best ∈ gw) (hR : d + 1 ≤ D) (hrs : (rest.map fun v => v.category).sum ≤ 8) (k : AW E layC p l e (rmD D) ms m args below meth c nL 0 0 Q (pc + 3) L (.int r :: rest) τ) : AW E layC p l e (rmD D) ms m args below meth c nL 0 0 Q pc L (.int a3 :: .int a2 :: .int a1 :: .ref (ea E 0) :: rest) σ :=
  s_callV X [.int a1, .int a2, .int a3] rest hM hd v_X8 hlay w1 g_585 g_586 g_67 g_587 nX8_best rfl rfl hrs (Nat.le_of_ble_eq_true rfl) hR k
def fX8_best_41 (a1 : Int32) (a2 : Int32) (a3 : Int32) : Nat → Int32 → Int32 → Int32 → St → Option (Int32 × Int32 × St)
  | 0, _, _, _, _ => none
  | n + 1, a4, a5, a6, s0 =>
    if 16 ≤ a6 then
    some (a4, a5, s0)
    else
    bd1 (fX8_thinkAnew  s0) fun s14 =>
    bd1 (ast s14 42 6 a1 a6) fun s17 =>
    bd1 (fX0_spend 39 a2 s17) fun s18 =>
    bd2 (fX0_knownOfAll 39 s18) fun u22 s20 =>
    jn (fun (w23 : Int32) (w24 : Int32) =>
    fX8_best_41 a1 a2 a3 n w23 w24 (a6 + 1) s20) fun j99 =>
    if u22 ≤ a5 then
    j99 a4 a5
    else
    j99 a6 u22
def fX8_best (a1 : Int32) (a2 : Int32) (a3 : Int32) (s0 : St) : Option (Int32 × St) :=
    bd2 (fX8_isCourse a1 s0) fun u3 s1 =>
    jn (fun (s4 : St) =>
    bd2 (fX8_error 1 s4) fun u7 s5 =>
    some (u7, s5)) fun j26 =>
    if u3 = 0 then
    j26 s1
    else
    bd2 (fX8_within a2 0 20 s1) fun u10 s8 =>
    if u10 = 0 then
    j26 s8
    else
    bd2 (fX8_within a3 0 1 s8) fun u13 s11 =>
    if u13 = 0 then
    j26 s11
    else
    bd3 (fX8_best_41 a1 a2 a3 FU (-1) (-1) 0 s11) fun v28 v29 s27 =>
    if a3 = 0 then
    some (v28, s27)
    else
    some (v29, s27)
set_option maxHeartbeats 4000000 in
set_option maxRecDepth 100000 in
theorem LX8_best_41 {l : Launch} {E : EE} {p : Program} {e : Env} {ms : State} {m : MethodId} {args : Array Value} {below : List Frame} {meth : Method} {c : Code} {a1 : Int32} {a2 : Int32} {a3 : Int32} {Q : State → Prop} (X : Cx E layC p ms m args c cX8_best RX8 8) : ∀ (n : Nat) (a4 : Int32) (a5 : Int32) (a6 : Int32) (s0 : St) (q4 : Int32) (q5 : Int32) (t8 : St), fX8_best_41 a1 a2 a3 n a4 a5 a6 s0 = some (q4, q5, t8) → AW E layC p l e (rmD 6) ms m args below meth c 8 0 0 Q 105 [(3, .int a3), (4, .int q4), (5, .int q5)] [] t8 → AW E layC p l e (rmD 6) ms m args below meth c 8 0 0 Q 41 [(0, .ref (ea E 0)), (1, .int a1), (2, .int a2), (3, .int a3), (4, .int a4), (5, .int a5), (6, .int a6)] [] s0 := by
  intro n
  induction n with
  | zero =>
    intro a4 a5 a6 s0 q4 q5 t8 h hE
    cases h
  | succ n ih =>
    intro a4 a5 a6 s0 q4 q5 t8 h hE
    rw [fX8_best_41] at h
    refine r_iload X dX8_best_41 6 rfl ?_
    refine r_bipush X dX8_best_43 (v := 16) (by decide) ?_
    refine r_icmp_ge X 105 dX8_best_45 (by decide) (fun c26 => ?_) (fun c26 => ?_)
    · rw [if_pos c26] at h
      refine r_sub (L' := [(3, .int a3), (4, .int a4), (5, .int a5)]) [3, 4, 5] rfl ?_
      cases h
      exact hE
    · rw [if_neg c26] at h
      refine r_aload_n X dX8_best_48 0 rfl rfl ?_
      obtain ⟨s14, e15, h⟩ := bd1_ok h
      refine kX8_thinkAnew X (ctX8_thinkAnew e15) dX8_best_49 lC_0 g_559 (Nat.le_of_ble_eq_true rfl) (Nat.le_of_ble_eq_true rfl) ?_
      refine r_aload_n X dX8_best_52 0 rfl rfl ?_
      refine r_getr X dX8_best_53 i_X8 v_X8 lC_0 2 rfl (Nat.le_of_ble_eq_true rfl) g_295 ?_
      refine r_getr X dX8_best_56 i_X0 v_X0 lC_39 2 rfl (Nat.le_of_ble_eq_true rfl) g_105 ?_
      refine r_iload_n X dX8_best_59 1 rfl rfl ?_
      refine r_iload X dX8_best_60 6 rfl ?_
      obtain ⟨g16, s17, es17, h⟩ := as_ok h
      refine s_iast X dX8_best_62 lC_42 g16 es17 ?_
      refine r_aload_n X dX8_best_63 0 rfl rfl ?_
      refine r_getr X dX8_best_64 i_X8 v_X8 lC_0 2 rfl (Nat.le_of_ble_eq_true rfl) g_295 ?_
      refine r_aload_n X dX8_best_67 0 rfl rfl ?_
      refine r_getr X dX8_best_68 i_X8 v_X8 lC_0 3 rfl (Nat.le_of_ble_eq_true rfl) g_296 ?_
      refine r_iload_n X dX8_best_71 2 rfl rfl ?_
      obtain ⟨s18, e19, h⟩ := bd1_ok h
      refine kX0_spend X (ctX0_spend hH_39 e19) dX8_best_72 lC_39 g_522 (Nat.le_of_ble_eq_true rfl) (Nat.le_of_ble_eq_true rfl) ?_
      refine r_aload_n X dX8_best_75 0 rfl rfl ?_
      refine r_getr X dX8_best_76 i_X8 v_X8 lC_0 2 rfl (Nat.le_of_ble_eq_true rfl) g_295 ?_
      obtain ⟨u22, s20, e21, h⟩ := bd2_ok h
      refine kX0_knownOfAll X (ctX0_knownOfAll hH_39 e21) dX8_best_79 lC_39 g_588 (Nat.le_of_ble_eq_true rfl) (Nat.le_of_ble_eq_true rfl) ?_
      refine r_istore (L' := [(0, .ref (ea E 0)), (1, .int a1), (2, .int a2), (3, .int a3), (4, .int a4), (5, .int a5), (6, .int a6), (7, .int u22)]) X dX8_best_82 [1, 2, 3, 4, 5, 6, 7, 0] rfl (Nat.le_of_ble_eq_true rfl) ?_
      refine r_iload X dX8_best_84 7 rfl ?_
      refine r_iload X dX8_best_86 5 rfl ?_
      obtain ⟨j99, ej99, h⟩ := jn2_ok h
      have hj99 : ∀ (w23 : Int32) (w24 : Int32), j99 w23 w24 = some (q4, q5, t8) → AW E layC p l e (rmD 6) ms m args below meth c 8 0 0 Q 99 [(0, .ref (ea E 0)), (1, .int a1), (2, .int a2), (3, .int a3), (4, .int w23), (5, .int w24), (6, .int a6)] [] s20 := by
        intro w23 w24 h
        rw [ej99] at h
        refine r_iinc (L' := [(0, .ref (ea E 0)), (1, .int a1), (2, .int a2), (3, .int a3), (4, .int w23), (5, .int w24), (6, .int (a6 + 1))]) (v := a6 + 1) X dX8_best_99 6 rfl rfl [1, 2, 3, 4, 5, 6, 0] rfl (Nat.le_of_ble_eq_true rfl) ?_
        refine r_goto X 41 dX8_best_102 (by decide) ?_
        exact ih _ _ _ _ _ _ _ h hE
      refine r_icmp_le X 99 dX8_best_88 (by decide) (fun c25 => ?_) (fun c25 => ?_)
      · rw [if_pos c25] at h
        refine r_sub (L' := [(0, .ref (ea E 0)), (1, .int a1), (2, .int a2), (3, .int a3), (4, .int a4), (5, .int a5), (6, .int a6)]) [0, 1, 2, 3, 4, 5, 6] rfl ?_
        exact hj99 _ _ h
      · rw [if_neg c25] at h
        refine r_iload X dX8_best_91 7 rfl ?_
        refine r_istore (L' := [(0, .ref (ea E 0)), (1, .int a1), (2, .int a2), (3, .int a3), (5, .int u22), (6, .int a6)]) X dX8_best_93 [1, 2, 3, 4, 0, 6] rfl (Nat.le_of_ble_eq_true rfl) ?_
        refine r_iload X dX8_best_95 5 rfl ?_
        refine r_istore (L' := [(0, .ref (ea E 0)), (1, .int a1), (2, .int a2), (3, .int a3), (4, .int a6), (5, .int u22), (6, .int a6)]) X dX8_best_97 [1, 2, 3, 4, 0, 5, 6] rfl (Nat.le_of_ble_eq_true rfl) ?_
        exact hj99 _ _ h
set_option maxHeartbeats 4000000 in
set_option maxRecDepth 100000 in
theorem ctX8_best {l : Launch} {E : EE} {a1 : Int32} {a2 : Int32} {a3 : Int32} {s0 : St} {r9 : Int32} {t9 : St}  (h : fX8_best a1 a2 a3 s0 = some (r9, t9)) : Ct l E layC yX8_best cX8_best 8 (some .int) 6 [.ref (ea E 0), .int a1, .int a2, .int a3] s0 (some (.int r9)) t9 := by
  refine Ct.of (by decide) (Nat.le_of_ble_eq_true rfl) ?_
  intro p e ms m below meth c X hlk hr
  have X : Cx E layC p ms m [.ref (ea E 0), .int a1, .int a2, .int a3].toArray c cX8_best RX8 8 := X
  refine r_sub (L' := [(0, .ref (ea E 0)), (1, .int a1), (2, .int a2), (3, .int a3)]) [0, 1, 2, 3] rfl ?_
  unfold fX8_best at h
  refine r_iload_n X dX8_best_0 1 rfl rfl ?_
  obtain ⟨u3, s1, e2, h⟩ := bd2_ok h
  refine kX8_isCourse X (ctX8_isCourse e2) dX8_best_1 g_357 (Nat.le_of_ble_eq_true rfl) (Nat.le_of_ble_eq_true rfl) ?_
  obtain ⟨j26, ej26, h⟩ := jn1_ok h
  have hj26 : ∀ (s4 : St), j26 s4 = some (r9, t9) → AW E layC p l e (rmD 6) ms m [.ref (ea E 0), .int a1, .int a2, .int a3].toArray below meth c 8 0 0 (MQc E layC below [.ref (ea E 0), .int a1, .int a2, .int a3].toArray ms (some (.int r9)) t9) 26 [(0, .ref (ea E 0))] [] s4 := by
    intro s4 h
    rw [ej26] at h
    refine r_aload_n X dX8_best_26 0 rfl rfl ?_
    refine r_iconst X dX8_best_27 (v := 1) (by decide) ?_
    obtain ⟨u7, s5, e6, h⟩ := bd2_ok h
    refine kX8_error X (ctX8_error e6) dX8_best_28 lC_0 g_337 (Nat.le_of_ble_eq_true rfl) (Nat.le_of_ble_eq_true rfl) ?_
    exact s_iret X hlk hr dX8_best_31 h
  refine r_if_eq X 26 dX8_best_4 (by decide) (fun c33 => ?_) (fun c33 => ?_)
  · rw [if_pos c33] at h
    refine r_sub (L' := [(0, .ref (ea E 0))]) [0] rfl ?_
    exact hj26 _ h
  · rw [if_neg c33] at h
    refine r_iload_n X dX8_best_7 2 rfl rfl ?_
    refine r_iconst X dX8_best_8 (v := 0) (by decide) ?_
    refine r_bipush X dX8_best_9 (v := 20) (by decide) ?_
    obtain ⟨u10, s8, e9, h⟩ := bd2_ok h
    refine kX8_within X (ctX8_within e9) dX8_best_11 g_334 (Nat.le_of_ble_eq_true rfl) (Nat.le_of_ble_eq_true rfl) ?_
    refine r_if_eq X 26 dX8_best_14 (by decide) (fun c32 => ?_) (fun c32 => ?_)
    · rw [if_pos c32] at h
      refine r_sub (L' := [(0, .ref (ea E 0))]) [0] rfl ?_
      exact hj26 _ h
    · rw [if_neg c32] at h
      refine r_iload_n X dX8_best_17 3 rfl rfl ?_
      refine r_iconst X dX8_best_18 (v := 0) (by decide) ?_
      refine r_iconst X dX8_best_19 (v := 1) (by decide) ?_
      obtain ⟨u13, s11, e12, h⟩ := bd2_ok h
      refine kX8_within X (ctX8_within e12) dX8_best_20 g_334 (Nat.le_of_ble_eq_true rfl) (Nat.le_of_ble_eq_true rfl) ?_
      refine r_if_ne X 32 dX8_best_23 (by decide) (fun c31 => ?_) (fun c31 => ?_)
      · rw [if_neg c31] at h
        refine r_iconst X dX8_best_32 (v := (-1)) (by decide) ?_
        refine r_istore (L' := [(0, .ref (ea E 0)), (1, .int a1), (2, .int a2), (3, .int a3), (4, .int (-1))]) X dX8_best_33 [1, 2, 3, 4, 0] rfl (Nat.le_of_ble_eq_true rfl) ?_
        refine r_iconst X dX8_best_35 (v := (-1)) (by decide) ?_
        refine r_istore (L' := [(0, .ref (ea E 0)), (1, .int a1), (2, .int a2), (3, .int a3), (4, .int (-1)), (5, .int (-1))]) X dX8_best_36 [1, 2, 3, 4, 5, 0] rfl (Nat.le_of_ble_eq_true rfl) ?_
        refine r_iconst X dX8_best_38 (v := 0) (by decide) ?_
        refine r_istore (L' := [(0, .ref (ea E 0)), (1, .int a1), (2, .int a2), (3, .int a3), (4, .int (-1)), (5, .int (-1)), (6, .int 0)]) X dX8_best_39 [1, 2, 3, 4, 5, 6, 0] rfl (Nat.le_of_ble_eq_true rfl) ?_
        obtain ⟨v28, v29, s27, eo, h⟩ := bd3_ok h
        refine LX8_best_41 X FU _ _ _ _ _ _ _ eo ?_
        refine r_iload_n X dX8_best_105 0 rfl rfl ?_
        refine r_if_ne X 114 dX8_best_106 (by decide) (fun c30 => ?_) (fun c30 => ?_)
        · rw [if_neg c30] at h
          refine r_iload X dX8_best_114 2 rfl ?_
          exact s_iret X hlk hr dX8_best_116 h
        · rw [if_pos c30] at h
          refine r_iload X dX8_best_109 1 rfl ?_
          refine r_goto X 116 dX8_best_111 (by decide) ?_
          exact s_iret X hlk hr dX8_best_116 h
      · rw [if_pos c31] at h
        refine r_sub (L' := [(0, .ref (ea E 0))]) [0] rfl ?_
        exact hj26 _ h
/-! X8_swap -/
theorem nX8_swap : yX8_swap.cls ≠ "java/lang/invoke/MethodHandle" ∧ yX8_swap.cls ≠ "java/lang/invoke/VarHandle" ∧ (parseMethodDescriptor yX8_swap.desc).map (fun d => d.parameters.length) = some 1 := by decide +kernel
theorem kX8_swap {l : Launch} {E : EE} {p : Program} {e : Env} {ms : State} {m : MethodId} {args : Array Value} {below : List Frame} {meth : Method} {c : Code} {cc : ByteArray} {own : String} {nL pc idx d D : Nat} {Q : State → Prop} {L : List (Nat × Value)} {rest : List Value} {σ τ : St} {a1 : Int32} {r : Int32} {fl : List (Option Nat)} (X : Cx E layC p ms m args c cc own nL) (hM : Ct l E layC yX8_swap cX8_swap 6 (some .int) d [.ref (ea E 0), .int a1] σ (some (.int r)) τ) (hd : decode cc pc = .ok (.invokevirtual idx, 3)) (hlay : layC[0]? = some (.inl (7, fl))) (w1 : Cond.methodLink own idx yX8_swap ∈ gw) (hR : d + 1 ≤ D) (hrs : (rest.map fun v => v.category).sum ≤ 8) (k : AW E layC p l e (rmD D) ms m args below meth c nL 0 0 Q (pc + 3) L (.int r :: rest) τ) : AW E layC p l e (rmD D) ms m args below meth c nL 0 0 Q pc L (.int a1 :: .ref (ea E 0) :: rest) σ :=
  s_callV X [.int a1] rest hM hd v_X8 hlay w1 g_593 g_594 g_67 g_595 nX8_swap rfl rfl hrs (Nat.le_of_ble_eq_true rfl) hR k
def fX8_swap_58 (a1 : Int32) (a4 : Int32) : Nat → Int32 → Int32 → Int32 → St → Option (Int32 × Int32 × St)
  | 0, _, _, _, _ => none
  | n + 1, a2, a3, a5, s0 =>
    if 6 ≤ a5 then
    some (a2, a3, s0)
    else
    bd1 (fX8_thinkAnew  s0) fun s11 =>
    bd1 (ald s11 5 6 a5) fun v14 =>
    bd1 (ast s11 42 6 a4 v14) fun s16 =>
    bd1 (ald s16 5 6 a4) fun v18 =>
    bd1 (ast s16 42 6 a5 v18) fun s20 =>
    bd1 (fX0_spend 39 a1 s20) fun s21 =>
    bd2 (fX0_knownOfAll 39 s21) fun u25 s23 =>
    jn (fun (w26 : Int32) (w27 : Int32) (s28 : St) =>
    fX8_swap_58 a1 a4 n w26 w27 (a5 + 1) s28) fun j155 =>
    if u25 ≤ a2 then
    j155 a2 a3 s23
    else
    bd2 (fX0_knownOfAll 39 s23) fun u31 s29 =>
    j155 u31 ((10 * a4) + a5) s29
def fX8_swap_45 (a1 : Int32) : Nat → Int32 → Int32 → Int32 → St → Option (Int32 × St)
  | 0, _, _, _, _ => none
  | n + 1, a2, a3, a4, s0 =>
    if 6 ≤ a4 then
    some (a3, s0)
    else
    bd3 (fX8_swap_58 a1 a4 FU a2 a3 (a4 + 1) s0) fun v35 v36 s34 =>
    fX8_swap_45 a1 n v35 v36 (a4 + 1) s34
def fX8_swap (a1 : Int32) (s0 : St) : Option (Int32 × St) :=
    bd2 (fX8_within a1 0 20 s0) fun u3 s1 =>
    if u3 = 0 then
    bd2 (fX8_error 1 s1) fun u42 s40 =>
    some (u42, s40)
    else
    bd1 (fX8_thinkAnew  s1) fun s4 =>
    bd1 (fX0_spend 39 a1 s4) fun s6 =>
    bd2 (fX0_knownOfAll 39 s6) fun u10 s8 =>
    bd2 (fX8_swap_45 a1 FU u10 (-1) 0 s8) fun v39 s38 =>
    some (v39, s38)
set_option maxHeartbeats 4000000 in
set_option maxRecDepth 100000 in
theorem LX8_swap_58 {l : Launch} {E : EE} {p : Program} {e : Env} {ms : State} {m : MethodId} {args : Array Value} {below : List Frame} {meth : Method} {c : Code} {a1 : Int32} {a4 : Int32} {Q : State → Prop} (X : Cx E layC p ms m args c cX8_swap RX8 6) : ∀ (n : Nat) (a2 : Int32) (a3 : Int32) (a5 : Int32) (s0 : St) (q2 : Int32) (q3 : Int32) (t8 : St), fX8_swap_58 a1 a4 n a2 a3 a5 s0 = some (q2, q3, t8) → AW E layC p l e (rmD 6) ms m args below meth c 6 0 0 Q 161 [(0, .ref (ea E 0)), (1, .int a1), (2, .int q2), (3, .int q3), (4, .int a4)] [] t8 → AW E layC p l e (rmD 6) ms m args below meth c 6 0 0 Q 58 [(0, .ref (ea E 0)), (1, .int a1), (2, .int a2), (3, .int a3), (4, .int a4), (5, .int a5)] [] s0 := by
  intro n
  induction n with
  | zero =>
    intro a2 a3 a5 s0 q2 q3 t8 h hE
    cases h
  | succ n ih =>
    intro a2 a3 a5 s0 q2 q3 t8 h hE
    rw [fX8_swap_58] at h
    refine r_iload X dX8_swap_58 5 rfl ?_
    refine r_bipush X dX8_swap_60 (v := 6) (by decide) ?_
    refine r_icmp_ge X 161 dX8_swap_62 (by decide) (fun c33 => ?_) (fun c33 => ?_)
    · rw [if_pos c33] at h
      refine r_sub (L' := [(0, .ref (ea E 0)), (1, .int a1), (2, .int a2), (3, .int a3), (4, .int a4)]) [0, 1, 2, 3, 4] rfl ?_
      cases h
      exact hE
    · rw [if_neg c33] at h
      refine r_aload_n X dX8_swap_65 0 rfl rfl ?_
      obtain ⟨s11, e12, h⟩ := bd1_ok h
      refine kX8_thinkAnew X (ctX8_thinkAnew e12) dX8_swap_66 lC_0 g_559 (Nat.le_of_ble_eq_true rfl) (Nat.le_of_ble_eq_true rfl) ?_
      refine r_aload_n X dX8_swap_69 0 rfl rfl ?_
      refine r_getr X dX8_swap_70 i_X8 v_X8 lC_0 2 rfl (Nat.le_of_ble_eq_true rfl) g_295 ?_
      refine r_getr X dX8_swap_73 i_X0 v_X0 lC_39 2 rfl (Nat.le_of_ble_eq_true rfl) g_105 ?_
      refine r_iload X dX8_swap_76 4 rfl ?_
      refine r_aload_n X dX8_swap_78 0 rfl rfl ?_
      refine r_getr X dX8_swap_79 i_X8 v_X8 lC_0 0 rfl (Nat.le_of_ble_eq_true rfl) g_293 ?_
      refine r_getr X dX8_swap_82 i_X7 v_X7 lC_1 0 rfl (Nat.le_of_ble_eq_true rfl) g_177 ?_
      refine r_getr X dX8_swap_85 i_X0 v_X0 lC_2 2 rfl (Nat.le_of_ble_eq_true rfl) g_105 ?_
      refine r_iload X dX8_swap_88 5 rfl ?_
      obtain ⟨g13, v14, ev14, h⟩ := ld_ok h
      refine s_iald X dX8_swap_90 lC_5 g13 ev14 ?_
      obtain ⟨g15, s16, es16, h⟩ := as_ok h
      refine s_iast X dX8_swap_91 lC_42 g15 es16 ?_
      refine r_aload_n X dX8_swap_92 0 rfl rfl ?_
      refine r_getr X dX8_swap_93 i_X8 v_X8 lC_0 2 rfl (Nat.le_of_ble_eq_true rfl) g_295 ?_
      refine r_getr X dX8_swap_96 i_X0 v_X0 lC_39 2 rfl (Nat.le_of_ble_eq_true rfl) g_105 ?_
      refine r_iload X dX8_swap_99 5 rfl ?_
      refine r_aload_n X dX8_swap_101 0 rfl rfl ?_
      refine r_getr X dX8_swap_102 i_X8 v_X8 lC_0 0 rfl (Nat.le_of_ble_eq_true rfl) g_293 ?_
      refine r_getr X dX8_swap_105 i_X7 v_X7 lC_1 0 rfl (Nat.le_of_ble_eq_true rfl) g_177 ?_
      refine r_getr X dX8_swap_108 i_X0 v_X0 lC_2 2 rfl (Nat.le_of_ble_eq_true rfl) g_105 ?_
      refine r_iload X dX8_swap_111 4 rfl ?_
      obtain ⟨g17, v18, ev18, h⟩ := ld_ok h
      refine s_iald X dX8_swap_113 lC_5 g17 ev18 ?_
      obtain ⟨g19, s20, es20, h⟩ := as_ok h
      refine s_iast X dX8_swap_114 lC_42 g19 es20 ?_
      refine r_aload_n X dX8_swap_115 0 rfl rfl ?_
      refine r_getr X dX8_swap_116 i_X8 v_X8 lC_0 2 rfl (Nat.le_of_ble_eq_true rfl) g_295 ?_
      refine r_aload_n X dX8_swap_119 0 rfl rfl ?_
      refine r_getr X dX8_swap_120 i_X8 v_X8 lC_0 3 rfl (Nat.le_of_ble_eq_true rfl) g_296 ?_
      refine r_iload_n X dX8_swap_123 1 rfl rfl ?_
      obtain ⟨s21, e22, h⟩ := bd1_ok h
      refine kX0_spend X (ctX0_spend hH_39 e22) dX8_swap_124 lC_39 g_522 (Nat.le_of_ble_eq_true rfl) (Nat.le_of_ble_eq_true rfl) ?_
      refine r_aload_n X dX8_swap_127 0 rfl rfl ?_
      refine r_getr X dX8_swap_128 i_X8 v_X8 lC_0 2 rfl (Nat.le_of_ble_eq_true rfl) g_295 ?_
      obtain ⟨u25, s23, e24, h⟩ := bd2_ok h
      refine kX0_knownOfAll X (ctX0_knownOfAll hH_39 e24) dX8_swap_131 lC_39 g_588 (Nat.le_of_ble_eq_true rfl) (Nat.le_of_ble_eq_true rfl) ?_
      refine r_iload_n X dX8_swap_134 2 rfl rfl ?_
      obtain ⟨j155, ej155, h⟩ := jn3_ok h
      have hj155 : ∀ (w26 : Int32) (w27 : Int32) (s28 : St), j155 w26 w27 s28 = some (q2, q3, t8) → AW E layC p l e (rmD 6) ms m args below meth c 6 0 0 Q 155 [(0, .ref (ea E 0)), (1, .int a1), (2, .int w26), (3, .int w27), (4, .int a4), (5, .int a5)] [] s28 := by
        intro w26 w27 s28 h
        rw [ej155] at h
        refine r_iinc (L' := [(0, .ref (ea E 0)), (1, .int a1), (2, .int w26), (3, .int w27), (4, .int a4), (5, .int (a5 + 1))]) (v := a5 + 1) X dX8_swap_155 5 rfl rfl [1, 2, 3, 4, 5, 0] rfl (Nat.le_of_ble_eq_true rfl) ?_
        refine r_goto X 58 dX8_swap_158 (by decide) ?_
        exact ih _ _ _ _ _ _ _ h hE
      refine r_icmp_le X 155 dX8_swap_135 (by decide) (fun c32 => ?_) (fun c32 => ?_)
      · rw [if_pos c32] at h
        exact hj155 _ _ _ h
      · rw [if_neg c32] at h
        refine r_aload_n X dX8_swap_138 0 rfl rfl ?_
        refine r_getr X dX8_swap_139 i_X8 v_X8 lC_0 2 rfl (Nat.le_of_ble_eq_true rfl) g_295 ?_
        obtain ⟨u31, s29, e30, h⟩ := bd2_ok h
        refine kX0_knownOfAll X (ctX0_knownOfAll hH_39 e30) dX8_swap_142 lC_39 g_588 (Nat.le_of_ble_eq_true rfl) (Nat.le_of_ble_eq_true rfl) ?_
        refine r_istore_n (L' := [(0, .ref (ea E 0)), (1, .int a1), (2, .int u31), (4, .int a4), (5, .int a5)]) X dX8_swap_145 [1, 2, 0, 4, 5] rfl rfl (Nat.le_of_ble_eq_true rfl) ?_
        refine r_bipush X dX8_swap_146 (v := 10) (by decide) ?_
        refine r_iload X dX8_swap_148 3 rfl ?_
        refine r_imul X dX8_swap_150 ?_
        refine r_iload X dX8_swap_151 4 rfl ?_
        refine r_iadd X dX8_swap_153 ?_
        refine r_istore_n (L' := [(0, .ref (ea E 0)), (1, .int a1), (2, .int u31), (3, .int ((10 * a4) + a5)), (4, .int a4), (5, .int a5)]) X dX8_swap_154 [1, 2, 3, 0, 4, 5] rfl rfl (Nat.le_of_ble_eq_true rfl) ?_
        exact hj155 _ _ _ h
set_option maxHeartbeats 4000000 in
set_option maxRecDepth 100000 in
theorem LX8_swap_45 {l : Launch} {E : EE} {p : Program} {e : Env} {ms : State} {m : MethodId} {args : Array Value} {below : List Frame} {meth : Method} {c : Code} {a1 : Int32} {Q : State → Prop} (X : Cx E layC p ms m args c cX8_swap RX8 6) : ∀ (n : Nat) (a2 : Int32) (a3 : Int32) (a4 : Int32) (s0 : St) (q3 : Int32) (t8 : St), fX8_swap_45 a1 n a2 a3 a4 s0 = some (q3, t8) → AW E layC p l e (rmD 6) ms m args below meth c 6 0 0 Q 167 [(3, .int q3)] [] t8 → AW E layC p l e (rmD 6) ms m args below meth c 6 0 0 Q 45 [(0, .ref (ea E 0)), (1, .int a1), (2, .int a2), (3, .int a3), (4, .int a4)] [] s0 := by
  intro n
  induction n with
  | zero =>
    intro a2 a3 a4 s0 q3 t8 h hE
    cases h
  | succ n ih =>
    intro a2 a3 a4 s0 q3 t8 h hE
    rw [fX8_swap_45] at h
    refine r_iload X dX8_swap_45 4 rfl ?_
    refine r_bipush X dX8_swap_47 (v := 6) (by decide) ?_
    refine r_icmp_ge X 167 dX8_swap_49 (by decide) (fun c37 => ?_) (fun c37 => ?_)
    · rw [if_pos c37] at h
      refine r_sub (L' := [(3, .int a3)]) [3] rfl ?_
      cases h
      exact hE
    · rw [if_neg c37] at h
      refine r_iload X dX8_swap_52 4 rfl ?_
      refine r_iconst X dX8_swap_54 (v := 1) (by decide) ?_
      refine r_iadd X dX8_swap_55 ?_
      refine r_istore (L' := [(0, .ref (ea E 0)), (1, .int a1), (2, .int a2), (3, .int a3), (4, .int a4), (5, .int (a4 + 1))]) X dX8_swap_56 [1, 2, 3, 4, 5, 0] rfl (Nat.le_of_ble_eq_true rfl) ?_
      obtain ⟨v35, v36, s34, eo, h⟩ := bd3_ok h
      refine LX8_swap_58 X FU _ _ _ _ _ _ _ eo ?_
      refine r_iinc (L' := [(0, .ref (ea E 0)), (1, .int a1), (2, .int v35), (3, .int v36), (4, .int (a4 + 1))]) (v := a4 + 1) X dX8_swap_161 4 rfl rfl [1, 2, 3, 4, 0] rfl (Nat.le_of_ble_eq_true rfl) ?_
      refine r_goto X 45 dX8_swap_164 (by decide) ?_
      exact ih _ _ _ _ _ _ h hE
set_option maxHeartbeats 4000000 in
set_option maxRecDepth 100000 in
theorem ctX8_swap {l : Launch} {E : EE} {a1 : Int32} {s0 : St} {r9 : Int32} {t9 : St}  (h : fX8_swap a1 s0 = some (r9, t9)) : Ct l E layC yX8_swap cX8_swap 6 (some .int) 6 [.ref (ea E 0), .int a1] s0 (some (.int r9)) t9 := by
  refine Ct.of (by decide) (Nat.le_of_ble_eq_true rfl) ?_
  intro p e ms m below meth c X hlk hr
  have X : Cx E layC p ms m [.ref (ea E 0), .int a1].toArray c cX8_swap RX8 6 := X
  refine r_sub (L' := [(0, .ref (ea E 0)), (1, .int a1)]) [0, 1] rfl ?_
  unfold fX8_swap at h
  refine r_iload_n X dX8_swap_0 1 rfl rfl ?_
  refine r_iconst X dX8_swap_1 (v := 0) (by decide) ?_
  refine r_bipush X dX8_swap_2 (v := 20) (by decide) ?_
  obtain ⟨u3, s1, e2, h⟩ := bd2_ok h
  refine kX8_within X (ctX8_within e2) dX8_swap_4 g_334 (Nat.le_of_ble_eq_true rfl) (Nat.le_of_ble_eq_true rfl) ?_
  refine r_if_ne X 16 dX8_swap_7 (by decide) (fun c43 => ?_) (fun c43 => ?_)
  · rw [if_neg c43] at h
    refine r_aload_n X dX8_swap_16 0 rfl rfl ?_
    obtain ⟨s4, e5, h⟩ := bd1_ok h
    refine kX8_thinkAnew X (ctX8_thinkAnew e5) dX8_swap_17 lC_0 g_559 (Nat.le_of_ble_eq_true rfl) (Nat.le_of_ble_eq_true rfl) ?_
    refine r_aload_n X dX8_swap_20 0 rfl rfl ?_
    refine r_getr X dX8_swap_21 i_X8 v_X8 lC_0 2 rfl (Nat.le_of_ble_eq_true rfl) g_295 ?_
    refine r_aload_n X dX8_swap_24 0 rfl rfl ?_
    refine r_getr X dX8_swap_25 i_X8 v_X8 lC_0 3 rfl (Nat.le_of_ble_eq_true rfl) g_296 ?_
    refine r_iload_n X dX8_swap_28 1 rfl rfl ?_
    obtain ⟨s6, e7, h⟩ := bd1_ok h
    refine kX0_spend X (ctX0_spend hH_39 e7) dX8_swap_29 lC_39 g_522 (Nat.le_of_ble_eq_true rfl) (Nat.le_of_ble_eq_true rfl) ?_
    refine r_aload_n X dX8_swap_32 0 rfl rfl ?_
    refine r_getr X dX8_swap_33 i_X8 v_X8 lC_0 2 rfl (Nat.le_of_ble_eq_true rfl) g_295 ?_
    obtain ⟨u10, s8, e9, h⟩ := bd2_ok h
    refine kX0_knownOfAll X (ctX0_knownOfAll hH_39 e9) dX8_swap_36 lC_39 g_588 (Nat.le_of_ble_eq_true rfl) (Nat.le_of_ble_eq_true rfl) ?_
    refine r_istore_n (L' := [(0, .ref (ea E 0)), (1, .int a1), (2, .int u10)]) X dX8_swap_39 [1, 2, 0] rfl rfl (Nat.le_of_ble_eq_true rfl) ?_
    refine r_iconst X dX8_swap_40 (v := (-1)) (by decide) ?_
    refine r_istore_n (L' := [(0, .ref (ea E 0)), (1, .int a1), (2, .int u10), (3, .int (-1))]) X dX8_swap_41 [1, 2, 3, 0] rfl rfl (Nat.le_of_ble_eq_true rfl) ?_
    refine r_iconst X dX8_swap_42 (v := 0) (by decide) ?_
    refine r_istore (L' := [(0, .ref (ea E 0)), (1, .int a1), (2, .int u10), (3, .int (-1)), (4, .int 0)]) X dX8_swap_43 [1, 2, 3, 4, 0] rfl (Nat.le_of_ble_eq_true rfl) ?_
    obtain ⟨v39, s38, eo, h⟩ := bd2_ok h
    refine LX8_swap_45 X FU _ _ _ _ _ _ eo ?_
    refine r_iload_n X dX8_swap_167 0 rfl rfl ?_
    exact s_iret X hlk hr dX8_swap_168 h
  · rw [if_pos c43] at h
    refine r_aload_n X dX8_swap_10 0 rfl rfl ?_
    refine r_iconst X dX8_swap_11 (v := 1) (by decide) ?_
    obtain ⟨u42, s40, e41, h⟩ := bd2_ok h
    refine kX8_error X (ctX8_error e41) dX8_swap_12 lC_0 g_337 (Nat.le_of_ble_eq_true rfl) (Nat.le_of_ble_eq_true rfl) ?_
    exact s_iret X hlk hr dX8_swap_15 h
/-! X8_isSheet -/
theorem nX8_isSheet : yX8_isSheet.cls ≠ "java/lang/invoke/MethodHandle" ∧ yX8_isSheet.cls ≠ "java/lang/invoke/VarHandle" ∧ (parseMethodDescriptor yX8_isSheet.desc).map (fun d => d.parameters.length) = some 1 := by decide +kernel
theorem kX8_isSheet {l : Launch} {E : EE} {p : Program} {e : Env} {ms : State} {m : MethodId} {args : Array Value} {below : List Frame} {meth : Method} {c : Code} {cc : ByteArray} {own : String} {nL pc idx d D : Nat} {Q : State → Prop} {L : List (Nat × Value)} {rest : List Value} {σ τ : St} {a0 : Int32} {r : Int32} (X : Cx E layC p ms m args c cc own nL) (hM : Ct l E layC yX8_isSheet cX8_isSheet 1 (some .boolean) d [.int a0] σ (some (.int r)) τ) (hd : decode cc pc = .ok (.invokestatic idx, 3)) (w1 : Cond.methodLink own idx yX8_isSheet ∈ gw) (hR : d + 1 ≤ D) (hrs : (rest.map fun v => v.category).sum ≤ 8) (k : AW E layC p l e (rmD D) ms m args below meth c nL 0 0 Q (pc + 3) L (.int r :: rest) τ) : AW E layC p l e (rmD D) ms m args below meth c nL 0 0 Q pc L (.int a0 :: rest) σ :=
  s_callS X [.int a0] rest hM hd w1 g_601 g_67 g_602 nX8_isSheet rfl rfl hrs (Nat.le_of_ble_eq_true rfl) hR k
def fX8_isSheet (a0 : Int32) (s0 : St) : Option (Int32 × St) :=
    bd2 (fX8_within a0 0 3 s0) fun u3 s1 =>
    gb u3 <| some (u3, s1)
set_option maxHeartbeats 4000000 in
set_option maxRecDepth 100000 in
theorem ctX8_isSheet {l : Launch} {E : EE} {a0 : Int32} {s0 : St} {r9 : Int32} {t9 : St}  (h : fX8_isSheet a0 s0 = some (r9, t9)) : Ct l E layC yX8_isSheet cX8_isSheet 1 (some .boolean) 1 [.int a0] s0 (some (.int r9)) t9 := by
  refine Ct.of (by decide) (Nat.le_of_ble_eq_true rfl) ?_
  intro p e ms m below meth c X hlk hr
  have X : Cx E layC p ms m [.int a0].toArray c cX8_isSheet RX8 1 := X
  refine r_sub (L' := [(0, .int a0)]) [0] rfl ?_
  unfold fX8_isSheet at h
  refine r_iload_n X dX8_isSheet_0 0 rfl rfl ?_
  refine r_iconst X dX8_isSheet_1 (v := 0) (by decide) ?_
  refine r_iconst X dX8_isSheet_2 (v := 3) (by decide) ?_
  obtain ⟨u3, s1, e2, h⟩ := bd2_ok h
  refine kX8_within X (ctX8_within e2) dX8_isSheet_3 g_334 (Nat.le_of_ble_eq_true rfl) (Nat.le_of_ble_eq_true rfl) ?_
  obtain ⟨g4, h⟩ := gb_ok h
  exact s_zret X hlk hr g4.1 dX8_isSheet_6 h
/-! X8_fitsLeavings -/
theorem nX8_fitsLeavings : yX8_fitsLeavings.cls ≠ "java/lang/invoke/MethodHandle" ∧ yX8_fitsLeavings.cls ≠ "java/lang/invoke/VarHandle" ∧ (parseMethodDescriptor yX8_fitsLeavings.desc).map (fun d => d.parameters.length) = some 4 := by decide +kernel
theorem kX8_fitsLeavings {l : Launch} {E : EE} {p : Program} {e : Env} {ms : State} {m : MethodId} {args : Array Value} {below : List Frame} {meth : Method} {c : Code} {cc : ByteArray} {own : String} {nL pc idx d D : Nat} {Q : State → Prop} {L : List (Nat × Value)} {rest : List Value} {σ τ : St} {b1 : Nat} {a2 : Int32} {a3 : Int32} {a4 : Int32} {r : Int32} {fl : List (Option Nat)} (X : Cx E layC p ms m args c cc own nL) (hM : Ct l E layC yX8_fitsLeavings cX8_fitsLeavings 6 (some .boolean) d [.ref (ea E 0), .ref (ea E b1), .int a2, .int a3, .int a4] σ (some (.int r)) τ) (hd : decode cc pc = .ok (.invokevirtual idx, 3)) (hlay : layC[0]? = some (.inl (7, fl))) (w1 : Cond.methodLink own idx yX8_fitsLeavings ∈ gw) (hR : d + 1 ≤ D) (hrs : (rest.map fun v => v.category).sum ≤ 8) (k : AW E layC p l e (rmD D) ms m args below meth c nL 0 0 Q (pc + 3) L (.int r :: rest) τ) : AW E layC p l e (rmD D) ms m args below meth c nL 0 0 Q pc L (.int a4 :: .int a3 :: .int a2 :: .ref (ea E b1) :: .ref (ea E 0) :: rest) σ :=
  s_callV X [.ref (ea E b1), .int a2, .int a3, .int a4] rest hM hd v_X8 hlay w1 g_605 g_13 g_67 g_606 nX8_fitsLeavings rfl rfl hrs (Nat.le_of_ble_eq_true rfl) hR k
def fX8_fitsLeavings_35 (b1 : Nat) (a2 : Int32) : Nat → Int32 → St → Option ((Int32 × St) ⊕ (St))
  | 0, _, _ => none
  | n + 1, a5, s0 =>
    if (s0 b1 1) ≤ a5 then
    some (.inr s0)
    else
    bd2 (fX0_leftOf 39 a5 a2 s0) fun u7 s5 =>
    bd1 (ald s5 (b1 + 1) 40 a5) fun v9 =>
    if u7 = v9 then
    fX8_fitsLeavings_35 b1 a2 n (a5 + 1) s5
    else
    some (.inl (0, s5))
def fX8_fitsLeavings (b1 : Nat) (a2 : Int32) (a3 : Int32) (a4 : Int32) (s0 : St) : Option (Int32 × St) :=
    if (s0 b1 1) ≤ 6 then
    bd1 (ast s0 43 8 a2 a3) fun s2 =>
    bd1 (ast s2 45 8 a2 a4) fun s4 =>
    bS1 (fX8_fitsLeavings_35 b1 a2 FU 0 s4) (fun u13 => some u13) fun s12 =>
    some (1, s12)
    else
    some (0, s0)
set_option maxHeartbeats 4000000 in
set_option maxRecDepth 100000 in
theorem LX8_fitsLeavings_35 {l : Launch} {E : EE} {p : Program} {e : Env} {ms : State} {m : MethodId} {args : Array Value} {below : List Frame} {meth : Method} {c : Code} {b1 : Nat} {a2 : Int32} {r9 : Int32} {t9 : St} (X : Cx E layC p ms m args c cX8_fitsLeavings RX8 6) (hb1 : isS b1) (hlk : meth.locks = false) (hr : meth.sig.returnType = (some .boolean)) : ∀ (n : Nat) (a5 : Int32) (s0 : St) (o : (Int32 × St) ⊕ (St)), fX8_fitsLeavings_35 b1 a2 n a5 s0 = some o → (∀ r, o = .inl r → r = (r9, t9)) → (∀  (t8 : St), o = .inr t8 → AW E layC p l e (rmD 4) ms m args below meth c 6 0 0 (MQc E layC below args ms (some (.int r9)) t9) 76 [] [] t8) → AW E layC p l e (rmD 4) ms m args below meth c 6 0 0 (MQc E layC below args ms (some (.int r9)) t9) 35 [(0, .ref (ea E 0)), (1, .ref (ea E b1)), (2, .int a2), (5, .int a5)] [] s0 := by
  intro n
  induction n with
  | zero =>
    intro a5 s0 o h hR hE
    cases h
  | succ n ih =>
    intro a5 s0 o h hR hE
    rw [fX8_fitsLeavings_35] at h
    refine r_iload X dX8_fitsLeavings_35 3 rfl ?_
    refine r_aload_n X dX8_fitsLeavings_37 1 rfl rfl ?_
    refine r_geti X dX8_fitsLeavings_38 i_X5 v_X5 (lS0 hb1) 1 rfl (Nat.le_of_ble_eq_true rfl) g_283 ?_
    refine r_icmp_ge X 76 dX8_fitsLeavings_41 (by decide) (fun c11 => ?_) (fun c11 => ?_)
    · rw [if_pos c11] at h
      refine r_sub (L' := []) [] rfl ?_
      cases h
      exact hE _ rfl
    · rw [if_neg c11] at h
      refine r_aload_n X dX8_fitsLeavings_44 0 rfl rfl ?_
      refine r_getr X dX8_fitsLeavings_45 i_X8 v_X8 lC_0 2 rfl (Nat.le_of_ble_eq_true rfl) g_295 ?_
      refine r_aload_n X dX8_fitsLeavings_48 0 rfl rfl ?_
      refine r_getr X dX8_fitsLeavings_49 i_X8 v_X8 lC_0 3 rfl (Nat.le_of_ble_eq_true rfl) g_296 ?_
      refine r_iload X dX8_fitsLeavings_52 3 rfl ?_
      refine r_iload_n X dX8_fitsLeavings_54 2 rfl rfl ?_
      obtain ⟨u7, s5, e6, h⟩ := bd2_ok h
      refine kX0_leftOf X (ctX0_leftOf hH_39 e6) dX8_fitsLeavings_55 lC_39 g_391 (Nat.le_of_ble_eq_true rfl) (Nat.le_of_ble_eq_true rfl) ?_
      refine r_aload_n X dX8_fitsLeavings_58 1 rfl rfl ?_
      refine r_getr X dX8_fitsLeavings_59 i_X5 v_X5 (lS0 hb1) 0 rfl (Nat.le_of_ble_eq_true rfl) g_281 ?_
      refine r_iload X dX8_fitsLeavings_62 3 rfl ?_
      obtain ⟨g8, v9, ev9, h⟩ := ld_ok h
      refine s_iald X dX8_fitsLeavings_64 (lS1 hb1) g8 ev9 ?_
      refine r_icmp_eq X 70 dX8_fitsLeavings_65 (by decide) (fun c10 => ?_) (fun c10 => ?_)
      · rw [if_pos c10] at h
        refine r_iinc (L' := [(0, .ref (ea E 0)), (1, .ref (ea E b1)), (2, .int a2), (5, .int (a5 + 1))]) (v := a5 + 1) X dX8_fitsLeavings_70 3 rfl rfl [1, 2, 3, 0] rfl (Nat.le_of_ble_eq_true rfl) ?_
        refine r_goto X 35 dX8_fitsLeavings_73 (by decide) ?_
        exact ih _ _ _ h hR hE
      · rw [if_neg c10] at h
        refine r_iconst X dX8_fitsLeavings_68 (v := 0) (by decide) ?_
        exact s_zret X hlk hr (by decide) dX8_fitsLeavings_69 (inl_ok h hR)
set_option maxHeartbeats 4000000 in
set_option maxRecDepth 100000 in
theorem LX8_fitsLeavings_35_x {l : Launch} {E : EE} {p : Program} {e : Env} {ms : State} {m : MethodId} {args : Array Value} {below : List Frame} {meth : Method} {c : Code} {b1 : Nat} {a2 : Int32} {r9 : Int32} {t9 : St} (X : Cx E layC p ms m args c cX8_fitsLeavings RX8 6) (hb1 : isS b1) (hlk : meth.locks = false) (hr : meth.sig.returnType = (some .boolean)) (n : Nat) (a5 : Int32) (s0 : St)  (t8 : St) (h : fX8_fitsLeavings_35 b1 a2 n a5 s0 = some (.inr t8)) (hE : AW E layC p l e (rmD 4) ms m args below meth c 6 0 0 (MQc E layC below args ms (some (.int r9)) t9) 76 [] [] t8) : AW E layC p l e (rmD 4) ms m args below meth c 6 0 0 (MQc E layC below args ms (some (.int r9)) t9) 35 [(0, .ref (ea E 0)), (1, .ref (ea E b1)), (2, .int a2), (5, .int a5)] [] s0 :=
  LX8_fitsLeavings_35 X hb1 hlk hr n a5 s0 _ h (fun r he => by cases he) (fun _ he => by cases he; exact hE)
set_option maxHeartbeats 4000000 in
set_option maxRecDepth 100000 in
theorem LX8_fitsLeavings_35_r {l : Launch} {E : EE} {p : Program} {e : Env} {ms : State} {m : MethodId} {args : Array Value} {below : List Frame} {meth : Method} {c : Code} {b1 : Nat} {a2 : Int32} {r9 : Int32} {t9 : St} (X : Cx E layC p ms m args c cX8_fitsLeavings RX8 6) (hb1 : isS b1) (hlk : meth.locks = false) (hr : meth.sig.returnType = (some .boolean)) (n : Nat) (a5 : Int32) (s0 : St) {r8 : Int32 × St} (h : fX8_fitsLeavings_35 b1 a2 n a5 s0 = some (.inl r8)) (hR : ∀ r, (.inl r8 : (Int32 × St) ⊕ (St)) = .inl r → r = (r9, t9)) : AW E layC p l e (rmD 4) ms m args below meth c 6 0 0 (MQc E layC below args ms (some (.int r9)) t9) 35 [(0, .ref (ea E 0)), (1, .ref (ea E b1)), (2, .int a2), (5, .int a5)] [] s0 :=
  LX8_fitsLeavings_35 X hb1 hlk hr n a5 s0 _ h hR (fun _ he => by cases he)
set_option maxHeartbeats 4000000 in
set_option maxRecDepth 100000 in
theorem ctX8_fitsLeavings {l : Launch} {E : EE} {b1 : Nat} {a2 : Int32} {a3 : Int32} {a4 : Int32} {s0 : St} {r9 : Int32} {t9 : St} (hb1 : isS b1) (h : fX8_fitsLeavings b1 a2 a3 a4 s0 = some (r9, t9)) : Ct l E layC yX8_fitsLeavings cX8_fitsLeavings 6 (some .boolean) 4 [.ref (ea E 0), .ref (ea E b1), .int a2, .int a3, .int a4] s0 (some (.int r9)) t9 := by
  refine Ct.of (by decide) (Nat.le_of_ble_eq_true rfl) ?_
  intro p e ms m below meth c X hlk hr
  have X : Cx E layC p ms m [.ref (ea E 0), .ref (ea E b1), .int a2, .int a3, .int a4].toArray c cX8_fitsLeavings RX8 6 := X
  refine r_sub (L' := [(0, .ref (ea E 0)), (1, .ref (ea E b1)), (2, .int a2), (3, .int a3), (4, .int a4)]) [0, 1, 2, 3, 4] rfl ?_
  unfold fX8_fitsLeavings at h
  refine r_aload_n X dX8_fitsLeavings_0 1 rfl rfl ?_
  refine r_geti X dX8_fitsLeavings_1 i_X5 v_X5 (lS0 hb1) 1 rfl (Nat.le_of_ble_eq_true rfl) g_283 ?_
  refine r_bipush X dX8_fitsLeavings_4 (v := 6) (by decide) ?_
  refine r_icmp_le X 11 dX8_fitsLeavings_6 (by decide) (fun c15 => ?_) (fun c15 => ?_)
  · rw [if_pos c15] at h
    refine r_aload_n X dX8_fitsLeavings_11 0 rfl rfl ?_
    refine r_getr X dX8_fitsLeavings_12 i_X8 v_X8 lC_0 2 rfl (Nat.le_of_ble_eq_true rfl) g_295 ?_
    refine r_getr X dX8_fitsLeavings_15 i_X0 v_X0 lC_39 3 rfl (Nat.le_of_ble_eq_true rfl) g_107 ?_
    refine r_iload_n X dX8_fitsLeavings_18 2 rfl rfl ?_
    refine r_iload_n X dX8_fitsLeavings_19 3 rfl rfl ?_
    obtain ⟨g1, s2, es2, h⟩ := as_ok h
    refine s_iast X dX8_fitsLeavings_20 lC_43 g1 es2 ?_
    refine r_aload_n X dX8_fitsLeavings_21 0 rfl rfl ?_
    refine r_getr X dX8_fitsLeavings_22 i_X8 v_X8 lC_0 2 rfl (Nat.le_of_ble_eq_true rfl) g_295 ?_
    refine r_getr X dX8_fitsLeavings_25 i_X0 v_X0 lC_39 5 rfl (Nat.le_of_ble_eq_true rfl) g_111 ?_
    refine r_iload_n X dX8_fitsLeavings_28 2 rfl rfl ?_
    refine r_iload X dX8_fitsLeavings_29 4 rfl ?_
    obtain ⟨g3, s4, es4, h⟩ := as_ok h
    refine s_iast X dX8_fitsLeavings_31 lC_45 g3 es4 ?_
    refine r_iconst X dX8_fitsLeavings_32 (v := 0) (by decide) ?_
    refine r_istore (L' := [(0, .ref (ea E 0)), (1, .ref (ea E b1)), (2, .int a2), (5, .int 0)]) X dX8_fitsLeavings_33 [1, 2, 3, 0] rfl (Nat.le_of_ble_eq_true rfl) ?_
    obtain ⟨o14, eo, ho⟩ := bS1_ok h
    rcases ho with ⟨u13, rfl, h⟩ | ⟨s12, rfl, h⟩
    · exact LX8_fitsLeavings_35_r X hb1 hlk hr FU _ _ eo (fun r hr1 => by cases hr1; exact Option.some.inj h)
    · refine LX8_fitsLeavings_35_x X hb1 hlk hr FU _ _ _ eo ?_
      refine r_iconst X dX8_fitsLeavings_76 (v := 1) (by decide) ?_
      exact s_zret X hlk hr (by decide) dX8_fitsLeavings_77 h
  · rw [if_neg c15] at h
    refine r_iconst X dX8_fitsLeavings_9 (v := 0) (by decide) ?_
    exact s_zret X hlk hr (by decide) dX8_fitsLeavings_10 h
/-! X8_whose -/
theorem nX8_whose : yX8_whose.cls ≠ "java/lang/invoke/MethodHandle" ∧ yX8_whose.cls ≠ "java/lang/invoke/VarHandle" ∧ (parseMethodDescriptor yX8_whose.desc).map (fun d => d.parameters.length) = some 3 := by decide +kernel
theorem kX8_whose {l : Launch} {E : EE} {p : Program} {e : Env} {ms : State} {m : MethodId} {args : Array Value} {below : List Frame} {meth : Method} {c : Code} {cc : ByteArray} {own : String} {nL pc idx d D : Nat} {Q : State → Prop} {L : List (Nat × Value)} {rest : List Value} {σ τ : St} {a1 : Int32} {a2 : Int32} {a3 : Int32} {r : Int32} {fl : List (Option Nat)} (X : Cx E layC p ms m args c cc own nL) (hM : Ct l E layC yX8_whose cX8_whose 7 (some .int) d [.ref (ea E 0), .int a1, .int a2, .int a3] σ (some (.int r)) τ) (hd : decode cc pc = .ok (.invokevirtual idx, 3)) (hlay : layC[0]? = some (.inl (7, fl))) (w1 : Cond.methodLink own idx yX8_whose ∈ gw) (hR : d + 1 ≤ D) (hrs : (rest.map fun v => v.category).sum ≤ 8) (k : AW E layC p l e (rmD D) ms m args below meth c nL 0 0 Q (pc + 3) L (.int r :: rest) τ) : AW E layC p l e (rmD D) ms m args below meth c nL 0 0 Q pc L (.int a3 :: .int a2 :: .int a1 :: .ref (ea E 0) :: rest) σ :=
  s_callV X [.int a1, .int a2, .int a3] rest hM hd v_X8 hlay w1 g_597 g_598 g_67 g_599 nX8_whose rfl rfl hrs (Nat.le_of_ble_eq_true rfl) hR k
def fX8_whose_68 (a1 : Int32) (a2 : Int32) (a3 : Int32) (a5 : Int32) : Nat → Int32 → Int32 → St → Option ((Int32 × St) ⊕ (Int32 × St))
  | 0, _, _, _ => none
  | n + 1, a4, a6, s0 =>
    if 9 < a6 then
    some (.inr (a4, s0))
    else
    bd1 (rld 59 4 a1) fun v19 =>
    bd2 (fX8_fitsLeavings v19 a2 a5 a6 s0) fun u22 s20 =>
    jn (fun (w23 : Int32) =>
    fX8_whose_68 a1 a2 a3 a5 n w23 (a6 + 1) s20) fun j110 =>
    if u22 = 0 then
    j110 a4
    else
    if a3 = 1 then
    some (.inl ((10 * a5) + a6, s20))
    else
    j110 (a4 + 1)
def fX8_whose_58 (a1 : Int32) (a2 : Int32) (a3 : Int32) : Nat → Int32 → Int32 → St → Option ((Int32 × St) ⊕ (Int32 × St))
  | 0, _, _, _ => none
  | n + 1, a4, a5, s0 =>
    if 6 < a5 then
    some (.inr (a4, s0))
    else
    bS2 (fX8_whose_68 a1 a2 a3 a5 FU a4 0 s0) (fun u29 => some (.inl u29)) fun v28 s27 =>
    fX8_whose_58 a1 a2 a3 n v28 (a5 + 1) s27
def fX8_whose (a1 : Int32) (a2 : Int32) (a3 : Int32) (s0 : St) : Option (Int32 × St) :=
    bd2 (fX8_isSheet a1 s0) fun u3 s1 =>
    jn (fun (s4 : St) =>
    bd2 (fX8_error 1 s4) fun u7 s5 =>
    some (u7, s5)) fun j24 =>
    if u3 = 0 then
    j24 s1
    else
    bd2 (fX8_isDiner a2 s1) fun u10 s8 =>
    if u10 = 0 then
    j24 s8
    else
    bd2 (fX8_within a3 0 1 s8) fun u13 s11 =>
    if u13 = 0 then
    j24 s11
    else
    bd1 (rld 59 4 a1) fun v15 =>
    if (s11 v15 2) = 0 then
    bd2 (fX8_error 2 s11) fun u42 s40 =>
    some (u42, s40)
    else
    bd1 (fX8_thinkAnew  s11) fun s16 =>
    bS2 (fX8_whose_58 a1 a2 a3 FU 0 0 s16) (fun u38 => some u38) fun v33 s32 =>
    if a3 = 0 then
    some (v33, s32)
    else
    bd2 (fX8_error 2 s32) fun u36 s34 =>
    some (u36, s34)
set_option maxHeartbeats 4000000 in
set_option maxRecDepth 100000 in
theorem LX8_whose_68 {l : Launch} {E : EE} {p : Program} {e : Env} {ms : State} {m : MethodId} {args : Array Value} {below : List Frame} {meth : Method} {c : Code} {a1 : Int32} {a2 : Int32} {a3 : Int32} {a5 : Int32} {r9 : Int32} {t9 : St} (X : Cx E layC p ms m args c cX8_whose RX8 7) (hlk : meth.locks = false) (hr : meth.sig.returnType = (some .int)) : ∀ (n : Nat) (a4 : Int32) (a6 : Int32) (s0 : St) (o : (Int32 × St) ⊕ (Int32 × St)), fX8_whose_68 a1 a2 a3 a5 n a4 a6 s0 = some o → (∀ r, o = .inl r → r = (r9, t9)) → (∀ (q4 : Int32) (t8 : St), o = .inr (q4, t8) → AW E layC p l e (rmD 5) ms m args below meth c 7 0 0 (MQc E layC below args ms (some (.int r9)) t9) 116 [(0, .ref (ea E 0)), (1, .int a1), (2, .int a2), (3, .int a3), (4, .int q4), (5, .int a5)] [] t8) → AW E layC p l e (rmD 5) ms m args below meth c 7 0 0 (MQc E layC below args ms (some (.int r9)) t9) 68 [(0, .ref (ea E 0)), (1, .int a1), (2, .int a2), (3, .int a3), (4, .int a4), (5, .int a5), (6, .int a6)] [] s0 := by
  intro n
  induction n with
  | zero =>
    intro a4 a6 s0 o h hR hE
    cases h
  | succ n ih =>
    intro a4 a6 s0 o h hR hE
    rw [fX8_whose_68] at h
    refine r_iload X dX8_whose_68 6 rfl ?_
    refine r_bipush X dX8_whose_70 (v := 9) (by decide) ?_
    refine r_icmp_gt X 116 dX8_whose_72 (by decide) (fun c26 => ?_) (fun c26 => ?_)
    · rw [if_pos c26] at h
      refine r_sub (L' := [(0, .ref (ea E 0)), (1, .int a1), (2, .int a2), (3, .int a3), (4, .int a4), (5, .int a5)]) [0, 1, 2, 3, 4, 5] rfl ?_
      cases h
      exact hE _ _ rfl
    · rw [if_neg c26] at h
      refine r_aload_n X dX8_whose_75 0 rfl rfl ?_
      refine r_aload_n X dX8_whose_76 0 rfl rfl ?_
      refine r_getr X dX8_whose_77 i_X8 v_X8 lC_0 6 rfl (Nat.le_of_ble_eq_true rfl) g_299 ?_
      refine r_iload_n X dX8_whose_80 1 rfl rfl ?_
      obtain ⟨g18, v19, ev19, h⟩ := rl_ok h
      refine s_aald X dX8_whose_81 lC_58 g18 ev19 ?_
      refine r_iload_n X dX8_whose_82 2 rfl rfl ?_
      refine r_iload X dX8_whose_83 5 rfl ?_
      refine r_iload X dX8_whose_85 6 rfl ?_
      obtain ⟨u22, s20, e21, h⟩ := bd2_ok h
      refine kX8_fitsLeavings X (ctX8_fitsLeavings (hS_of2 g18 ev19) e21) dX8_whose_87 lC_0 g_603 (Nat.le_of_ble_eq_true rfl) (Nat.le_of_ble_eq_true rfl) ?_
      obtain ⟨j110, ej110, h⟩ := jn1_ok h
      have hj110 : ∀ (w23 : Int32), j110 w23 = some o → AW E layC p l e (rmD 5) ms m args below meth c 7 0 0 (MQc E layC below args ms (some (.int r9)) t9) 110 [(0, .ref (ea E 0)), (1, .int a1), (2, .int a2), (3, .int a3), (4, .int w23), (5, .int a5), (6, .int a6)] [] s20 := by
        intro w23 h
        rw [ej110] at h
        refine r_iinc (L' := [(0, .ref (ea E 0)), (1, .int a1), (2, .int a2), (3, .int a3), (4, .int w23), (5, .int a5), (6, .int (a6 + 1))]) (v := a6 + 1) X dX8_whose_110 6 rfl rfl [1, 2, 3, 4, 5, 6, 0] rfl (Nat.le_of_ble_eq_true rfl) ?_
        refine r_goto X 68 dX8_whose_113 (by decide) ?_
        exact ih _ _ _ _ h hR hE
      refine r_if_eq X 110 dX8_whose_90 (by decide) (fun c25 => ?_) (fun c25 => ?_)
      · rw [if_pos c25] at h
        exact hj110 _ h
      · rw [if_neg c25] at h
        refine r_iload_n X dX8_whose_93 3 rfl rfl ?_
        refine r_iconst X dX8_whose_94 (v := 1) (by decide) ?_
        refine r_icmp_ne X 107 dX8_whose_95 (by decide) (fun c24 => ?_) (fun c24 => ?_)
        · rw [if_neg c24] at h
          refine r_iinc (L' := [(0, .ref (ea E 0)), (1, .int a1), (2, .int a2), (3, .int a3), (4, .int (a4 + 1)), (5, .int a5), (6, .int a6)]) (v := a4 + 1) X dX8_whose_107 4 rfl rfl [1, 2, 3, 4, 0, 5, 6] rfl (Nat.le_of_ble_eq_true rfl) ?_
          exact hj110 _ h
        · rw [if_pos c24] at h
          refine r_bipush X dX8_whose_98 (v := 10) (by decide) ?_
          refine r_iload X dX8_whose_100 5 rfl ?_
          refine r_imul X dX8_whose_102 ?_
          refine r_iload X dX8_whose_103 6 rfl ?_
          refine r_iadd X dX8_whose_105 ?_
          exact s_iret X hlk hr dX8_whose_106 (inl_ok h hR)
set_option maxHeartbeats 4000000 in
set_option maxRecDepth 100000 in
theorem LX8_whose_68_x {l : Launch} {E : EE} {p : Program} {e : Env} {ms : State} {m : MethodId} {args : Array Value} {below : List Frame} {meth : Method} {c : Code} {a1 : Int32} {a2 : Int32} {a3 : Int32} {a5 : Int32} {r9 : Int32} {t9 : St} (X : Cx E layC p ms m args c cX8_whose RX8 7) (hlk : meth.locks = false) (hr : meth.sig.returnType = (some .int)) (n : Nat) (a4 : Int32) (a6 : Int32) (s0 : St) (q4 : Int32) (t8 : St) (h : fX8_whose_68 a1 a2 a3 a5 n a4 a6 s0 = some (.inr (q4, t8))) (hE : AW E layC p l e (rmD 5) ms m args below meth c 7 0 0 (MQc E layC below args ms (some (.int r9)) t9) 116 [(0, .ref (ea E 0)), (1, .int a1), (2, .int a2), (3, .int a3), (4, .int q4), (5, .int a5)] [] t8) : AW E layC p l e (rmD 5) ms m args below meth c 7 0 0 (MQc E layC below args ms (some (.int r9)) t9) 68 [(0, .ref (ea E 0)), (1, .int a1), (2, .int a2), (3, .int a3), (4, .int a4), (5, .int a5), (6, .int a6)] [] s0 :=
  LX8_whose_68 X hlk hr n a4 a6 s0 _ h (fun r he => by cases he) (fun _ _ he => by cases he; exact hE)
set_option maxHeartbeats 4000000 in
set_option maxRecDepth 100000 in
theorem LX8_whose_68_r {l : Launch} {E : EE} {p : Program} {e : Env} {ms : State} {m : MethodId} {args : Array Value} {below : List Frame} {meth : Method} {c : Code} {a1 : Int32} {a2 : Int32} {a3 : Int32} {a5 : Int32} {r9 : Int32} {t9 : St} (X : Cx E layC p ms m args c cX8_whose RX8 7) (hlk : meth.locks = false) (hr : meth.sig.returnType = (some .int)) (n : Nat) (a4 : Int32) (a6 : Int32) (s0 : St) {r8 : Int32 × St} (h : fX8_whose_68 a1 a2 a3 a5 n a4 a6 s0 = some (.inl r8)) (hR : ∀ r, (.inl r8 : (Int32 × St) ⊕ (Int32 × St)) = .inl r → r = (r9, t9)) : AW E layC p l e (rmD 5) ms m args below meth c 7 0 0 (MQc E layC below args ms (some (.int r9)) t9) 68 [(0, .ref (ea E 0)), (1, .int a1), (2, .int a2), (3, .int a3), (4, .int a4), (5, .int a5), (6, .int a6)] [] s0 :=
  LX8_whose_68 X hlk hr n a4 a6 s0 _ h hR (fun _ _ he => by cases he)
set_option maxHeartbeats 4000000 in
set_option maxRecDepth 100000 in
theorem LX8_whose_58 {l : Launch} {E : EE} {p : Program} {e : Env} {ms : State} {m : MethodId} {args : Array Value} {below : List Frame} {meth : Method} {c : Code} {a1 : Int32} {a2 : Int32} {a3 : Int32} {r9 : Int32} {t9 : St} (X : Cx E layC p ms m args c cX8_whose RX8 7) (hlk : meth.locks = false) (hr : meth.sig.returnType = (some .int)) : ∀ (n : Nat) (a4 : Int32) (a5 : Int32) (s0 : St) (o : (Int32 × St) ⊕ (Int32 × St)), fX8_whose_58 a1 a2 a3 n a4 a5 s0 = some o → (∀ r, o = .inl r → r = (r9, t9)) → (∀ (q4 : Int32) (t8 : St), o = .inr (q4, t8) → AW E layC p l e (rmD 5) ms m args below meth c 7 0 0 (MQc E layC below args ms (some (.int r9)) t9) 122 [(0, .ref (ea E 0)), (3, .int a3), (4, .int q4)] [] t8) → AW E layC p l e (rmD 5) ms m args below meth c 7 0 0 (MQc E layC below args ms (some (.int r9)) t9) 58 [(0, .ref (ea E 0)), (1, .int a1), (2, .int a2), (3, .int a3), (4, .int a4), (5, .int a5)] [] s0 := by
  intro n
  induction n with
  | zero =>
    intro a4 a5 s0 o h hR hE
    cases h
  | succ n ih =>
    intro a4 a5 s0 o h hR hE
    rw [fX8_whose_58] at h
    refine r_iload X dX8_whose_58 5 rfl ?_
    refine r_bipush X dX8_whose_60 (v := 6) (by decide) ?_
    refine r_icmp_gt X 122 dX8_whose_62 (by decide) (fun c31 => ?_) (fun c31 => ?_)
    · rw [if_pos c31] at h
      refine r_sub (L' := [(0, .ref (ea E 0)), (3, .int a3), (4, .int a4)]) [0, 3, 4] rfl ?_
      cases h
      exact hE _ _ rfl
    · rw [if_neg c31] at h
      refine r_iconst X dX8_whose_65 (v := 0) (by decide) ?_
      refine r_istore (L' := [(0, .ref (ea E 0)), (1, .int a1), (2, .int a2), (3, .int a3), (4, .int a4), (5, .int a5), (6, .int 0)]) X dX8_whose_66 [1, 2, 3, 4, 5, 6, 0] rfl (Nat.le_of_ble_eq_true rfl) ?_
      obtain ⟨o30, eo, ho⟩ := bS2_ok h
      rcases ho with ⟨u29, rfl, h⟩ | ⟨v28, s27, rfl, h⟩
      · exact LX8_whose_68_r X hlk hr FU _ _ _ eo (inl_c h hR)
      · refine LX8_whose_68_x X hlk hr FU _ _ _ _ _ eo ?_
        refine r_iinc (L' := [(0, .ref (ea E 0)), (1, .int a1), (2, .int a2), (3, .int a3), (4, .int v28), (5, .int (a5 + 1))]) (v := a5 + 1) X dX8_whose_116 5 rfl rfl [1, 2, 3, 4, 5, 0] rfl (Nat.le_of_ble_eq_true rfl) ?_
        refine r_goto X 58 dX8_whose_119 (by decide) ?_
        exact ih _ _ _ _ h hR hE
set_option maxHeartbeats 4000000 in
set_option maxRecDepth 100000 in
theorem LX8_whose_58_x {l : Launch} {E : EE} {p : Program} {e : Env} {ms : State} {m : MethodId} {args : Array Value} {below : List Frame} {meth : Method} {c : Code} {a1 : Int32} {a2 : Int32} {a3 : Int32} {r9 : Int32} {t9 : St} (X : Cx E layC p ms m args c cX8_whose RX8 7) (hlk : meth.locks = false) (hr : meth.sig.returnType = (some .int)) (n : Nat) (a4 : Int32) (a5 : Int32) (s0 : St) (q4 : Int32) (t8 : St) (h : fX8_whose_58 a1 a2 a3 n a4 a5 s0 = some (.inr (q4, t8))) (hE : AW E layC p l e (rmD 5) ms m args below meth c 7 0 0 (MQc E layC below args ms (some (.int r9)) t9) 122 [(0, .ref (ea E 0)), (3, .int a3), (4, .int q4)] [] t8) : AW E layC p l e (rmD 5) ms m args below meth c 7 0 0 (MQc E layC below args ms (some (.int r9)) t9) 58 [(0, .ref (ea E 0)), (1, .int a1), (2, .int a2), (3, .int a3), (4, .int a4), (5, .int a5)] [] s0 :=
  LX8_whose_58 X hlk hr n a4 a5 s0 _ h (fun r he => by cases he) (fun _ _ he => by cases he; exact hE)
set_option maxHeartbeats 4000000 in
set_option maxRecDepth 100000 in
theorem LX8_whose_58_r {l : Launch} {E : EE} {p : Program} {e : Env} {ms : State} {m : MethodId} {args : Array Value} {below : List Frame} {meth : Method} {c : Code} {a1 : Int32} {a2 : Int32} {a3 : Int32} {r9 : Int32} {t9 : St} (X : Cx E layC p ms m args c cX8_whose RX8 7) (hlk : meth.locks = false) (hr : meth.sig.returnType = (some .int)) (n : Nat) (a4 : Int32) (a5 : Int32) (s0 : St) {r8 : Int32 × St} (h : fX8_whose_58 a1 a2 a3 n a4 a5 s0 = some (.inl r8)) (hR : ∀ r, (.inl r8 : (Int32 × St) ⊕ (Int32 × St)) = .inl r → r = (r9, t9)) : AW E layC p l e (rmD 5) ms m args below meth c 7 0 0 (MQc E layC below args ms (some (.int r9)) t9) 58 [(0, .ref (ea E 0)), (1, .int a1), (2, .int a2), (3, .int a3), (4, .int a4), (5, .int a5)] [] s0 :=
  LX8_whose_58 X hlk hr n a4 a5 s0 _ h hR (fun _ _ he => by cases he)
set_option maxHeartbeats 4000000 in
set_option maxRecDepth 100000 in
theorem ctX8_whose {l : Launch} {E : EE} {a1 : Int32} {a2 : Int32} {a3 : Int32} {s0 : St} {r9 : Int32} {t9 : St}  (h : fX8_whose a1 a2 a3 s0 = some (r9, t9)) : Ct l E layC yX8_whose cX8_whose 7 (some .int) 5 [.ref (ea E 0), .int a1, .int a2, .int a3] s0 (some (.int r9)) t9 := by
  refine Ct.of (by decide) (Nat.le_of_ble_eq_true rfl) ?_
  intro p e ms m below meth c X hlk hr
  have X : Cx E layC p ms m [.ref (ea E 0), .int a1, .int a2, .int a3].toArray c cX8_whose RX8 7 := X
  refine r_sub (L' := [(0, .ref (ea E 0)), (1, .int a1), (2, .int a2), (3, .int a3)]) [0, 1, 2, 3] rfl ?_
  unfold fX8_whose at h
  refine r_iload_n X dX8_whose_0 1 rfl rfl ?_
  obtain ⟨u3, s1, e2, h⟩ := bd2_ok h
  refine kX8_isSheet X (ctX8_isSheet e2) dX8_whose_1 g_600 (Nat.le_of_ble_eq_true rfl) (Nat.le_of_ble_eq_true rfl) ?_
  obtain ⟨j24, ej24, h⟩ := jn1_ok h
  have hj24 : ∀ (s4 : St), j24 s4 = some (r9, t9) → AW E layC p l e (rmD 5) ms m [.ref (ea E 0), .int a1, .int a2, .int a3].toArray below meth c 7 0 0 (MQc E layC below [.ref (ea E 0), .int a1, .int a2, .int a3].toArray ms (some (.int r9)) t9) 24 [(0, .ref (ea E 0))] [] s4 := by
    intro s4 h
    rw [ej24] at h
    refine r_aload_n X dX8_whose_24 0 rfl rfl ?_
    refine r_iconst X dX8_whose_25 (v := 1) (by decide) ?_
    obtain ⟨u7, s5, e6, h⟩ := bd2_ok h
    refine kX8_error X (ctX8_error e6) dX8_whose_26 lC_0 g_337 (Nat.le_of_ble_eq_true rfl) (Nat.le_of_ble_eq_true rfl) ?_
    exact s_iret X hlk hr dX8_whose_29 h
  refine r_if_eq X 24 dX8_whose_4 (by decide) (fun c46 => ?_) (fun c46 => ?_)
  · rw [if_pos c46] at h
    refine r_sub (L' := [(0, .ref (ea E 0))]) [0] rfl ?_
    exact hj24 _ h
  · rw [if_neg c46] at h
    refine r_aload_n X dX8_whose_7 0 rfl rfl ?_
    refine r_iload_n X dX8_whose_8 2 rfl rfl ?_
    obtain ⟨u10, s8, e9, h⟩ := bd2_ok h
    refine kX8_isDiner X (ctX8_isDiner e9) dX8_whose_9 lC_0 g_380 (Nat.le_of_ble_eq_true rfl) (Nat.le_of_ble_eq_true rfl) ?_
    refine r_if_eq X 24 dX8_whose_12 (by decide) (fun c45 => ?_) (fun c45 => ?_)
    · rw [if_pos c45] at h
      refine r_sub (L' := [(0, .ref (ea E 0))]) [0] rfl ?_
      exact hj24 _ h
    · rw [if_neg c45] at h
      refine r_iload_n X dX8_whose_15 3 rfl rfl ?_
      refine r_iconst X dX8_whose_16 (v := 0) (by decide) ?_
      refine r_iconst X dX8_whose_17 (v := 1) (by decide) ?_
      obtain ⟨u13, s11, e12, h⟩ := bd2_ok h
      refine kX8_within X (ctX8_within e12) dX8_whose_18 g_334 (Nat.le_of_ble_eq_true rfl) (Nat.le_of_ble_eq_true rfl) ?_
      refine r_if_ne X 30 dX8_whose_21 (by decide) (fun c44 => ?_) (fun c44 => ?_)
      · rw [if_neg c44] at h
        refine r_aload_n X dX8_whose_30 0 rfl rfl ?_
        refine r_getr X dX8_whose_31 i_X8 v_X8 lC_0 6 rfl (Nat.le_of_ble_eq_true rfl) g_299 ?_
        refine r_iload_n X dX8_whose_34 1 rfl rfl ?_
        obtain ⟨g14, v15, ev15, h⟩ := rl_ok h
        refine s_aald X dX8_whose_35 lC_58 g14 ev15 ?_
        refine r_geti X dX8_whose_36 i_X5 v_X5 (lS0 (hS_of2 g14 ev15)) 2 rfl (Nat.le_of_ble_eq_true rfl) g_285 ?_
        refine r_if_ne X 48 dX8_whose_39 (by decide) (fun c43 => ?_) (fun c43 => ?_)
        · rw [if_neg c43] at h
          refine r_aload_n X dX8_whose_48 0 rfl rfl ?_
          obtain ⟨s16, e17, h⟩ := bd1_ok h
          refine kX8_thinkAnew X (ctX8_thinkAnew e17) dX8_whose_49 lC_0 g_559 (Nat.le_of_ble_eq_true rfl) (Nat.le_of_ble_eq_true rfl) ?_
          refine r_iconst X dX8_whose_52 (v := 0) (by decide) ?_
          refine r_istore (L' := [(0, .ref (ea E 0)), (1, .int a1), (2, .int a2), (3, .int a3), (4, .int 0)]) X dX8_whose_53 [1, 2, 3, 4, 0] rfl (Nat.le_of_ble_eq_true rfl) ?_
          refine r_iconst X dX8_whose_55 (v := 0) (by decide) ?_
          refine r_istore (L' := [(0, .ref (ea E 0)), (1, .int a1), (2, .int a2), (3, .int a3), (4, .int 0), (5, .int 0)]) X dX8_whose_56 [1, 2, 3, 4, 5, 0] rfl (Nat.le_of_ble_eq_true rfl) ?_
          obtain ⟨o39, eo, ho⟩ := bS2_ok h
          rcases ho with ⟨u38, rfl, h⟩ | ⟨v33, s32, rfl, h⟩
          · exact LX8_whose_58_r X hlk hr FU _ _ _ eo (fun r hr1 => by cases hr1; exact Option.some.inj h)
          · refine LX8_whose_58_x X hlk hr FU _ _ _ _ _ eo ?_
            refine r_iload_n X dX8_whose_122 1 rfl rfl ?_
            refine r_if_ne X 131 dX8_whose_123 (by decide) (fun c37 => ?_) (fun c37 => ?_)
            · rw [if_neg c37] at h
              refine r_aload_n X dX8_whose_131 0 rfl rfl ?_
              refine r_iconst X dX8_whose_132 (v := 2) (by decide) ?_
              obtain ⟨u36, s34, e35, h⟩ := bd2_ok h
              refine kX8_error X (ctX8_error e35) dX8_whose_133 lC_0 g_337 (Nat.le_of_ble_eq_true rfl) (Nat.le_of_ble_eq_true rfl) ?_
              exact s_iret X hlk hr dX8_whose_136 h
            · rw [if_pos c37] at h
              refine r_iload X dX8_whose_126 2 rfl ?_
              refine r_goto X 136 dX8_whose_128 (by decide) ?_
              exact s_iret X hlk hr dX8_whose_136 h
        · rw [if_pos c43] at h
          refine r_aload_n X dX8_whose_42 0 rfl rfl ?_
          refine r_iconst X dX8_whose_43 (v := 2) (by decide) ?_
          obtain ⟨u42, s40, e41, h⟩ := bd2_ok h
          refine kX8_error X (ctX8_error e41) dX8_whose_44 lC_0 g_337 (Nat.le_of_ble_eq_true rfl) (Nat.le_of_ble_eq_true rfl) ?_
          exact s_iret X hlk hr dX8_whose_47 h
      · rw [if_pos c44] at h
        refine r_sub (L' := [(0, .ref (ea E 0))]) [0] rfl ?_
        exact hj24 _ h
