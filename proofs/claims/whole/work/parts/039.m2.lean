/-! X9_change -/
theorem nX9_change : yX9_change.cls ≠ "java/lang/invoke/MethodHandle" ∧ yX9_change.cls ≠ "java/lang/invoke/VarHandle" ∧ (parseMethodDescriptor yX9_change.desc).map (fun d => d.parameters.length) = some 3 := by decide +kernel
theorem kX9_change {l : Launch} {E : EE} {p : Program} {e : Env} {ms : State} {m : MethodId} {args : Array Value} {below : List Frame} {meth : Method} {c : Code} {cc : ByteArray} {own : String} {nL pc idx d D : Nat} {Q : State → Prop} {L : List (Nat × Value)} {rest : List Value} {σ τ : St} {a1 : Int32} {a2 : Int32} {a3 : Int32} {r : Int32} {fl : List (Option Nat)} (X : Cx E layM p ms m args c cc own nL) (hM : Ct l E layM yX9_change cX9_change 5 (some .int) d [.ref (ea E 0), .int a1, .int a2, .int a3] σ (some (.int r)) τ) (hd : decode cc pc = .ok (.invokevirtual idx, 3)) (hlay : layM[0]? = some (.inl (8, fl))) (w1 : Cond.methodLink own idx yX9_change ∈ gw) (hR : d + 1 ≤ D) (hrs : (rest.map fun v => v.category).sum ≤ 8) (k : AW E layM p l e (rmD D) ms m args below meth c nL 0 0 Q (pc + 3) L (.int r :: rest) τ) : AW E layM p l e (rmD D) ms m args below meth c nL 0 0 Q pc L (.int a3 :: .int a2 :: .int a1 :: .ref (ea E 0) :: rest) σ :=
  s_callV X [.int a1, .int a2, .int a3] rest hM hd v_X9 hlay w1 g_999 g_1000 g_77 g_1001 nX9_change rfl rfl hrs (Nat.le_of_ble_eq_true rfl) hR k
def fX9_change (a1 : Int32) (a2 : Int32) (a3 : Int32) (s0 : St) : Option (Int32 × St) :=
    jn (fun (w1 : Int32) (s2 : St) =>
    bd2 (fX9_isDiner a1 s2) fun u5 s3 =>
    jn (fun (_ : Unit) =>
    bd2 (fX9_errs (-1000000001) s3) fun u8 s6 =>
    some (u8, s6)) fun j82 =>
    if u5 = 0 then
    j82 ()
    else
    if w1 = 0 then
    j82 ()
    else
    bd2 (fX9_becomes (((47 + (5 * a1)) + 2) + a2) a3 s3) fun u11 s9 =>
    some (u11, s9)) fun j49 =>
    if a2 = 0 then
    bd2 (fX9_in a3 0 9 s0) fun u26 s24 =>
    j49 u26 s24
    else
    if a2 = 1 then
    bd2 (fX9_in a3 0 7 s0) fun u22 s20 =>
    j49 u22 s20
    else
    jn (fun (s14 : St) =>
    j49 0 s14) fun j48 =>
    if a2 = 2 then
    bd2 (fX9_in a3 0 99 s0) fun u17 s15 =>
    if u17 = 0 then
    j48 s15
    else
    j49 1 s15
    else
    j48 s0
set_option maxHeartbeats 4000000 in
set_option maxRecDepth 100000 in
theorem ctX9_change {l : Launch} {E : EE} {a1 : Int32} {a2 : Int32} {a3 : Int32} {s0 : St} {r9 : Int32} {t9 : St}  (h : fX9_change a1 a2 a3 s0 = some (r9, t9)) : Ct l E layM yX9_change cX9_change 5 (some .int) 2 [.ref (ea E 0), .int a1, .int a2, .int a3] s0 (some (.int r9)) t9 := by
  refine Ct.of (by decide) (Nat.le_of_ble_eq_true rfl) ?_
  intro p e ms m below meth c X hlk hr
  have X : Cx E layM p ms m [.ref (ea E 0), .int a1, .int a2, .int a3].toArray c cX9_change RX9 5 := X
  refine r_sub (L' := [(0, .ref (ea E 0)), (1, .int a1), (2, .int a2), (3, .int a3)]) [0, 1, 2, 3] rfl ?_
  unfold fX9_change at h
  refine r_iload_n X dX9_change_0 2 rfl rfl ?_
  obtain ⟨j49, ej49, h⟩ := jn2_ok h
  have hj49 : ∀ (w1 : Int32) (s2 : St), j49 w1 s2 = some (r9, t9) → AW E layM p l e (rmD 2) ms m [.ref (ea E 0), .int a1, .int a2, .int a3].toArray below meth c 5 0 0 (MQc E layM below [.ref (ea E 0), .int a1, .int a2, .int a3].toArray ms (some (.int r9)) t9) 49 [(0, .ref (ea E 0)), (1, .int a1), (2, .int a2), (3, .int a3)] [.int w1] s2 := by
    intro w1 s2 h
    rw [ej49] at h
    refine r_istore (L' := [(0, .ref (ea E 0)), (1, .int a1), (2, .int a2), (3, .int a3), (4, .int w1)]) X dX9_change_49 [1, 2, 3, 4, 0] rfl (Nat.le_of_ble_eq_true rfl) ?_
    refine r_aload_n X dX9_change_51 0 rfl rfl ?_
    refine r_iload_n X dX9_change_52 1 rfl rfl ?_
    obtain ⟨u5, s3, e4, h⟩ := bd2_ok h
    refine kX9_isDiner X (ctX9_isDiner e4) dX9_change_53 lM_0 g_912 (Nat.le_of_ble_eq_true rfl) (Nat.le_of_ble_eq_true rfl) ?_
    obtain ⟨j82, ej82, h⟩ := jn1_ok h
    have hj82 : ∀ (u : Unit), j82 u = some (r9, t9) → AW E layM p l e (rmD 2) ms m [.ref (ea E 0), .int a1, .int a2, .int a3].toArray below meth c 5 0 0 (MQc E layM below [.ref (ea E 0), .int a1, .int a2, .int a3].toArray ms (some (.int r9)) t9) 82 [(0, .ref (ea E 0))] [] s3 := by
      intro u h
      rw [ej82] at h
      refine r_aload_n X dX9_change_82 0 rfl rfl ?_
      refine r_ldc X dX9_change_83 g_873 ?_
      obtain ⟨u8, s6, e7, h⟩ := bd2_ok h
      refine kX9_errs X (ctX9_errs e7) dX9_change_85 lM_0 g_874 (Nat.le_of_ble_eq_true rfl) (Nat.le_of_ble_eq_true rfl) ?_
      exact s_iret X hlk hr dX9_change_88 h
    refine r_if_eq X 82 dX9_change_56 (by decide) (fun c13 => ?_) (fun c13 => ?_)
    · rw [if_pos c13] at h
      refine r_sub (L' := [(0, .ref (ea E 0))]) [0] rfl ?_
      exact hj82 _ h
    · rw [if_neg c13] at h
      refine r_iload X dX9_change_59 4 rfl ?_
      refine r_if_eq X 82 dX9_change_61 (by decide) (fun c12 => ?_) (fun c12 => ?_)
      · rw [if_pos c12] at h
        refine r_sub (L' := [(0, .ref (ea E 0))]) [0] rfl ?_
        exact hj82 _ h
      · rw [if_neg c12] at h
        refine r_aload_n X dX9_change_64 0 rfl rfl ?_
        refine r_bipush X dX9_change_65 (v := 47) (by decide) ?_
        refine r_iconst X dX9_change_67 (v := 5) (by decide) ?_
        refine r_iload_n X dX9_change_68 1 rfl rfl ?_
        refine r_imul X dX9_change_69 ?_
        refine r_iadd X dX9_change_70 ?_
        refine r_iconst X dX9_change_71 (v := 2) (by decide) ?_
        refine r_iadd X dX9_change_72 ?_
        refine r_iload_n X dX9_change_73 2 rfl rfl ?_
        refine r_iadd X dX9_change_74 ?_
        refine r_iload_n X dX9_change_75 3 rfl rfl ?_
        obtain ⟨u11, s9, e10, h⟩ := bd2_ok h
        refine kX9_becomes X (ctX9_becomes e10) dX9_change_76 lM_0 g_869 (Nat.le_of_ble_eq_true rfl) (Nat.le_of_ble_eq_true rfl) ?_
        refine r_goto X 88 dX9_change_79 (by decide) ?_
        exact s_iret X hlk hr dX9_change_88 h
  refine r_if_ne X 14 dX9_change_1 (by decide) (fun c27 => ?_) (fun c27 => ?_)
  · rw [if_neg c27] at h
    refine r_iload_n X dX9_change_14 2 rfl rfl ?_
    refine r_iconst X dX9_change_15 (v := 1) (by decide) ?_
    refine r_icmp_ne X 29 dX9_change_16 (by decide) (fun c23 => ?_) (fun c23 => ?_)
    · rw [if_neg c23] at h
      refine r_iload_n X dX9_change_29 2 rfl rfl ?_
      refine r_iconst X dX9_change_30 (v := 2) (by decide) ?_
      obtain ⟨j48, ej48, h⟩ := jn1_ok h
      have hj48 : ∀ (s14 : St), j48 s14 = some (r9, t9) → AW E layM p l e (rmD 2) ms m [.ref (ea E 0), .int a1, .int a2, .int a3].toArray below meth c 5 0 0 (MQc E layM below [.ref (ea E 0), .int a1, .int a2, .int a3].toArray ms (some (.int r9)) t9) 48 [(0, .ref (ea E 0)), (1, .int a1), (2, .int a2), (3, .int a3)] [] s14 := by
        intro s14 h
        rw [ej48] at h
        refine r_iconst X dX9_change_48 (v := 0) (by decide) ?_
        exact hj49 _ _ h
      refine r_icmp_ne X 48 dX9_change_31 (by decide) (fun c19 => ?_) (fun c19 => ?_)
      · rw [if_neg c19] at h
        exact hj48 _ h
      · rw [if_pos c19] at h
        refine r_iload_n X dX9_change_34 3 rfl rfl ?_
        refine r_iconst X dX9_change_35 (v := 0) (by decide) ?_
        refine r_bipush X dX9_change_36 (v := 99) (by decide) ?_
        obtain ⟨u17, s15, e16, h⟩ := bd2_ok h
        refine kX9_in X (ctX9_in e16) dX9_change_38 g_866 (Nat.le_of_ble_eq_true rfl) (Nat.le_of_ble_eq_true rfl) ?_
        refine r_if_eq X 48 dX9_change_41 (by decide) (fun c18 => ?_) (fun c18 => ?_)
        · rw [if_pos c18] at h
          exact hj48 _ h
        · rw [if_neg c18] at h
          refine r_iconst X dX9_change_44 (v := 1) (by decide) ?_
          refine r_goto X 49 dX9_change_45 (by decide) ?_
          exact hj49 _ _ h
    · rw [if_pos c23] at h
      refine r_iload_n X dX9_change_19 3 rfl rfl ?_
      refine r_iconst X dX9_change_20 (v := 0) (by decide) ?_
      refine r_bipush X dX9_change_21 (v := 7) (by decide) ?_
      obtain ⟨u22, s20, e21, h⟩ := bd2_ok h
      refine kX9_in X (ctX9_in e21) dX9_change_23 g_866 (Nat.le_of_ble_eq_true rfl) (Nat.le_of_ble_eq_true rfl) ?_
      refine r_goto X 49 dX9_change_26 (by decide) ?_
      exact hj49 _ _ h
  · rw [if_pos c27] at h
    refine r_iload_n X dX9_change_4 3 rfl rfl ?_
    refine r_iconst X dX9_change_5 (v := 0) (by decide) ?_
    refine r_bipush X dX9_change_6 (v := 9) (by decide) ?_
    obtain ⟨u26, s24, e25, h⟩ := bd2_ok h
    refine kX9_in X (ctX9_in e25) dX9_change_8 g_866 (Nat.le_of_ble_eq_true rfl) (Nat.le_of_ble_eq_true rfl) ?_
    refine r_goto X 49 dX9_change_11 (by decide) ?_
    exact hj49 _ _ h
/-! X9_become -/
theorem nX9_become : yX9_become.cls ≠ "java/lang/invoke/MethodHandle" ∧ yX9_become.cls ≠ "java/lang/invoke/VarHandle" ∧ (parseMethodDescriptor yX9_become.desc).map (fun d => d.parameters.length) = some 2 := by decide +kernel
theorem kX9_become {l : Launch} {E : EE} {p : Program} {e : Env} {ms : State} {m : MethodId} {args : Array Value} {below : List Frame} {meth : Method} {c : Code} {cc : ByteArray} {own : String} {nL pc idx d D : Nat} {Q : State → Prop} {L : List (Nat × Value)} {rest : List Value} {σ τ : St} {a1 : Int32} {a2 : Int32} {r : Int32} {fl : List (Option Nat)} (X : Cx E layM p ms m args c cc own nL) (hM : Ct l E layM yX9_become cX9_become 3 (some .int) d [.ref (ea E 0), .int a1, .int a2] σ (some (.int r)) τ) (hd : decode cc pc = .ok (.invokevirtual idx, 3)) (hlay : layM[0]? = some (.inl (8, fl))) (w1 : Cond.methodLink own idx yX9_become ∈ gw) (hR : d + 1 ≤ D) (hrs : (rest.map fun v => v.category).sum ≤ 8) (k : AW E layM p l e (rmD D) ms m args below meth c nL 0 0 Q (pc + 3) L (.int r :: rest) τ) : AW E layM p l e (rmD D) ms m args below meth c nL 0 0 Q pc L (.int a2 :: .int a1 :: .ref (ea E 0) :: rest) σ :=
  s_callV X [.int a1, .int a2] rest hM hd v_X9 hlay w1 g_1003 g_1004 g_77 g_1005 nX9_become rfl rfl hrs (Nat.le_of_ble_eq_true rfl) hR k
def fX9_become (a1 : Int32) (a2 : Int32) (s0 : St) : Option (Int32 × St) :=
    bd2 (fX9_isDiner a1 s0) fun u3 s1 =>
    jn (fun (s4 : St) =>
    bd2 (fX9_errs (-1000000001) s4) fun u7 s5 =>
    some (u7, s5)) fun j18 =>
    if u3 = 0 then
    j18 s1
    else
    bd2 (fX9_in a2 0 69 s1) fun u10 s8 =>
    if u10 = 0 then
    j18 s8
    else
    bd1 (fX9_puts a1 1 (irm a2 10) s8) fun s11 =>
    bd2 (fX9_becomes (47 + (5 * a1)) (a2 / 10) s11) fun u15 s13 =>
    some (u15, s13)
set_option maxHeartbeats 4000000 in
set_option maxRecDepth 100000 in
theorem ctX9_become {l : Launch} {E : EE} {a1 : Int32} {a2 : Int32} {s0 : St} {r9 : Int32} {t9 : St}  (h : fX9_become a1 a2 s0 = some (r9, t9)) : Ct l E layM yX9_become cX9_become 3 (some .int) 2 [.ref (ea E 0), .int a1, .int a2] s0 (some (.int r9)) t9 := by
  refine Ct.of (by decide) (Nat.le_of_ble_eq_true rfl) ?_
  intro p e ms m below meth c X hlk hr
  have X : Cx E layM p ms m [.ref (ea E 0), .int a1, .int a2].toArray c cX9_become RX9 3 := X
  refine r_sub (L' := [(0, .ref (ea E 0)), (1, .int a1), (2, .int a2)]) [0, 1, 2] rfl ?_
  unfold fX9_become at h
  refine r_aload_n X dX9_become_0 0 rfl rfl ?_
  refine r_iload_n X dX9_become_1 1 rfl rfl ?_
  obtain ⟨u3, s1, e2, h⟩ := bd2_ok h
  refine kX9_isDiner X (ctX9_isDiner e2) dX9_become_2 lM_0 g_912 (Nat.le_of_ble_eq_true rfl) (Nat.le_of_ble_eq_true rfl) ?_
  obtain ⟨j18, ej18, h⟩ := jn1_ok h
  have hj18 : ∀ (s4 : St), j18 s4 = some (r9, t9) → AW E layM p l e (rmD 2) ms m [.ref (ea E 0), .int a1, .int a2].toArray below meth c 3 0 0 (MQc E layM below [.ref (ea E 0), .int a1, .int a2].toArray ms (some (.int r9)) t9) 18 [(0, .ref (ea E 0))] [] s4 := by
    intro s4 h
    rw [ej18] at h
    refine r_aload_n X dX9_become_18 0 rfl rfl ?_
    refine r_ldc X dX9_become_19 g_873 ?_
    obtain ⟨u7, s5, e6, h⟩ := bd2_ok h
    refine kX9_errs X (ctX9_errs e6) dX9_become_21 lM_0 g_874 (Nat.le_of_ble_eq_true rfl) (Nat.le_of_ble_eq_true rfl) ?_
    exact s_iret X hlk hr dX9_become_24 h
  refine r_if_eq X 18 dX9_become_5 (by decide) (fun c17 => ?_) (fun c17 => ?_)
  · rw [if_pos c17] at h
    refine r_sub (L' := [(0, .ref (ea E 0))]) [0] rfl ?_
    exact hj18 _ h
  · rw [if_neg c17] at h
    refine r_iload_n X dX9_become_8 2 rfl rfl ?_
    refine r_iconst X dX9_become_9 (v := 0) (by decide) ?_
    refine r_bipush X dX9_become_10 (v := 69) (by decide) ?_
    obtain ⟨u10, s8, e9, h⟩ := bd2_ok h
    refine kX9_in X (ctX9_in e9) dX9_become_12 g_866 (Nat.le_of_ble_eq_true rfl) (Nat.le_of_ble_eq_true rfl) ?_
    refine r_if_ne X 25 dX9_become_15 (by decide) (fun c16 => ?_) (fun c16 => ?_)
    · rw [if_neg c16] at h
      refine r_aload_n X dX9_become_25 0 rfl rfl ?_
      refine r_iload_n X dX9_become_26 1 rfl rfl ?_
      refine r_iconst X dX9_become_27 (v := 1) (by decide) ?_
      refine r_iload_n X dX9_become_28 2 rfl rfl ?_
      refine r_bipush X dX9_become_29 (v := 10) (by decide) ?_
      refine s_irem X dX9_become_31 (by decide) ?_
      obtain ⟨s11, e12, h⟩ := bd1_ok h
      refine kX9_puts X (ctX9_puts e12) dX9_become_32 lM_0 g_904 (Nat.le_of_ble_eq_true rfl) (Nat.le_of_ble_eq_true rfl) ?_
      refine r_aload_n X dX9_become_35 0 rfl rfl ?_
      refine r_bipush X dX9_become_36 (v := 47) (by decide) ?_
      refine r_iconst X dX9_become_38 (v := 5) (by decide) ?_
      refine r_iload_n X dX9_become_39 1 rfl rfl ?_
      refine r_imul X dX9_become_40 ?_
      refine r_iadd X dX9_become_41 ?_
      refine r_iload_n X dX9_become_42 2 rfl rfl ?_
      refine r_bipush X dX9_become_43 (v := 10) (by decide) ?_
      refine r_idiv X dX9_become_45 (by decide) ?_
      obtain ⟨u15, s13, e14, h⟩ := bd2_ok h
      refine kX9_becomes X (ctX9_becomes e14) dX9_become_46 lM_0 g_869 (Nat.le_of_ble_eq_true rfl) (Nat.le_of_ble_eq_true rfl) ?_
      exact s_iret X hlk hr dX9_become_49 h
    · rw [if_pos c16] at h
      refine r_sub (L' := [(0, .ref (ea E 0))]) [0] rfl ?_
      exact hj18 _ h
/-! X9_above -/
theorem nX9_above : yX9_above.cls ≠ "java/lang/invoke/MethodHandle" ∧ yX9_above.cls ≠ "java/lang/invoke/VarHandle" ∧ (parseMethodDescriptor yX9_above.desc).map (fun d => d.parameters.length) = some 1 := by decide +kernel
theorem kX9_above {l : Launch} {E : EE} {p : Program} {e : Env} {ms : State} {m : MethodId} {args : Array Value} {below : List Frame} {meth : Method} {c : Code} {cc : ByteArray} {own : String} {nL pc idx d D : Nat} {Q : State → Prop} {L : List (Nat × Value)} {rest : List Value} {σ τ : St} {a0 : Int32} {r : Int32} (X : Cx E layM p ms m args c cc own nL) (hM : Ct l E layM yX9_above cX9_above 1 (some .int) d [.int a0] σ (some (.int r)) τ) (hd : decode cc pc = .ok (.invokestatic idx, 3)) (w1 : Cond.methodLink own idx yX9_above ∈ gw) (hR : d + 1 ≤ D) (hrs : (rest.map fun v => v.category).sum ≤ 8) (k : AW E layM p l e (rmD D) ms m args below meth c nL 0 0 Q (pc + 3) L (.int r :: rest) τ) : AW E layM p l e (rmD D) ms m args below meth c nL 0 0 Q pc L (.int a0 :: rest) σ :=
  s_callS X [.int a0] rest hM hd w1 g_1011 g_77 g_1012 nX9_above rfl rfl hrs (Nat.le_of_ble_eq_true rfl) hR k
def fX9_above (a0 : Int32) (s0 : St) : Option (Int32 × St) :=
    if a0 = 0 then
    some ((-1), s0)
    else
    if a0 ≤ 3 then
    some (0, s0)
    else
    some (a0 - 3, s0)
set_option maxHeartbeats 4000000 in
set_option maxRecDepth 100000 in
theorem ctX9_above {l : Launch} {E : EE} {a0 : Int32} {s0 : St} {r9 : Int32} {t9 : St}  (h : fX9_above a0 s0 = some (r9, t9)) : Ct l E layM yX9_above cX9_above 1 (some .int) 0 [.int a0] s0 (some (.int r9)) t9 := by
  refine Ct.of (by decide) (Nat.le_of_ble_eq_true rfl) ?_
  intro p e ms m below meth c X hlk hr
  have X : Cx E layM p ms m [.int a0].toArray c cX9_above RX9 1 := X
  refine r_sub (L' := [(0, .int a0)]) [0] rfl ?_
  unfold fX9_above at h
  refine r_iload_n X dX9_above_0 0 rfl rfl ?_
  refine r_if_ne X 8 dX9_above_1 (by decide) (fun c2 => ?_) (fun c2 => ?_)
  · rw [if_neg c2] at h
    refine r_iload_n X dX9_above_8 0 rfl rfl ?_
    refine r_iconst X dX9_above_9 (v := 3) (by decide) ?_
    refine r_icmp_le X 19 dX9_above_10 (by decide) (fun c1 => ?_) (fun c1 => ?_)
    · rw [if_pos c1] at h
      refine r_iconst X dX9_above_19 (v := 0) (by decide) ?_
      exact s_iret X hlk hr dX9_above_20 h
    · rw [if_neg c1] at h
      refine r_iload_n X dX9_above_13 0 rfl rfl ?_
      refine r_iconst X dX9_above_14 (v := 3) (by decide) ?_
      refine r_isub X dX9_above_15 ?_
      refine r_goto X 20 dX9_above_16 (by decide) ?_
      exact s_iret X hlk hr dX9_above_20 h
  · rw [if_pos c2] at h
    refine r_iconst X dX9_above_4 (v := (-1)) (by decide) ?_
    refine r_goto X 20 dX9_above_5 (by decide) ?_
    exact s_iret X hlk hr dX9_above_20 h
/-! X9_as -/
theorem nX9_as : yX9_as.cls ≠ "java/lang/invoke/MethodHandle" ∧ yX9_as.cls ≠ "java/lang/invoke/VarHandle" ∧ (parseMethodDescriptor yX9_as.desc).map (fun d => d.parameters.length) = some 2 := by decide +kernel
theorem kX9_as {l : Launch} {E : EE} {p : Program} {e : Env} {ms : State} {m : MethodId} {args : Array Value} {below : List Frame} {meth : Method} {c : Code} {cc : ByteArray} {own : String} {nL pc idx d D : Nat} {Q : State → Prop} {L : List (Nat × Value)} {rest : List Value} {σ τ : St} {a1 : Int32} {a2 : Int32} {r : Int32} {fl : List (Option Nat)} (X : Cx E layM p ms m args c cc own nL) (hM : Ct l E layM yX9_as cX9_as 4 (some .int) d [.ref (ea E 0), .int a1, .int a2] σ (some (.int r)) τ) (hd : decode cc pc = .ok (.invokevirtual idx, 3)) (hlay : layM[0]? = some (.inl (8, fl))) (w1 : Cond.methodLink own idx yX9_as ∈ gw) (hR : d + 1 ≤ D) (hrs : (rest.map fun v => v.category).sum ≤ 8) (k : AW E layM p l e (rmD D) ms m args below meth c nL 0 0 Q (pc + 3) L (.int r :: rest) τ) : AW E layM p l e (rmD D) ms m args below meth c nL 0 0 Q pc L (.int a2 :: .int a1 :: .ref (ea E 0) :: rest) σ :=
  s_callV X [.int a1, .int a2] rest hM hd v_X9 hlay w1 g_1007 g_1008 g_77 g_1009 nX9_as rfl rfl hrs (Nat.le_of_ble_eq_true rfl) hR k
def fX9_as_32 (a1 : Int32) (a2 : Int32) : Nat → Int32 → St → Option (Int32 × St)
  | 0, _, _ => none
  | n + 1, a3, s0 =>
    if a3 < 0 then
    some (a3, s0)
    else
    if a3 = a2 then
    some (a3, s0)
    else
    bd2 (fX9_above a3 s0) fun u16 s14 =>
    fX9_as_32 a1 a2 n u16 s14
def fX9_as (a1 : Int32) (a2 : Int32) (s0 : St) : Option (Int32 × St) :=
    bd2 (fX9_isDiner a1 s0) fun u3 s1 =>
    jn (fun (s4 : St) =>
    bd2 (fX9_errs (-1000000001) s4) fun u7 s5 =>
    some (u7, s5)) fun j18 =>
    if u3 = 0 then
    j18 s1
    else
    bd2 (fX9_in a2 0 6 s1) fun u10 s8 =>
    if u10 = 0 then
    j18 s8
    else
    bd2 (fX9_its a1 0 s8) fun u13 s11 =>
    bd2 (fX9_as_32 a1 a2 FU u13 s11) fun v20 s19 =>
    if 0 ≤ v20 then
    bd2 (fX9_its a1 1 s19) fun u23 s21 =>
    some (u23, s21)
    else
    bd2 (fX9_errs (-1000000005) s19) fun u26 s24 =>
    some (u26, s24)
set_option maxHeartbeats 4000000 in
set_option maxRecDepth 100000 in
theorem LX9_as_32 {l : Launch} {E : EE} {p : Program} {e : Env} {ms : State} {m : MethodId} {args : Array Value} {below : List Frame} {meth : Method} {c : Code} {a1 : Int32} {a2 : Int32} {Q : State → Prop} (X : Cx E layM p ms m args c cX9_as RX9 4) : ∀ (n : Nat) (a3 : Int32) (s0 : St) (q3 : Int32) (t8 : St), fX9_as_32 a1 a2 n a3 s0 = some (q3, t8) → AW E layM p l e (rmD 2) ms m args below meth c 4 0 0 Q 49 [(0, .ref (ea E 0)), (1, .int a1), (3, .int q3)] [] t8 → AW E layM p l e (rmD 2) ms m args below meth c 4 0 0 Q 32 [(0, .ref (ea E 0)), (1, .int a1), (2, .int a2), (3, .int a3)] [] s0 := by
  intro n
  induction n with
  | zero =>
    intro a3 s0 q3 t8 h hE
    cases h
  | succ n ih =>
    intro a3 s0 q3 t8 h hE
    rw [fX9_as_32] at h
    refine r_iload_n X dX9_as_32 3 rfl rfl ?_
    refine r_if_lt X 49 dX9_as_33 (by decide) (fun c18 => ?_) (fun c18 => ?_)
    · rw [if_pos c18] at h
      refine r_sub (L' := [(0, .ref (ea E 0)), (1, .int a1), (3, .int a3)]) [0, 1, 3] rfl ?_
      cases h
      exact hE
    · rw [if_neg c18] at h
      refine r_iload_n X dX9_as_36 3 rfl rfl ?_
      refine r_iload_n X dX9_as_37 2 rfl rfl ?_
      refine r_icmp_eq X 49 dX9_as_38 (by decide) (fun c17 => ?_) (fun c17 => ?_)
      · rw [if_pos c17] at h
        refine r_sub (L' := [(0, .ref (ea E 0)), (1, .int a1), (3, .int a3)]) [0, 1, 3] rfl ?_
        cases h
        exact hE
      · rw [if_neg c17] at h
        refine r_iload_n X dX9_as_41 3 rfl rfl ?_
        obtain ⟨u16, s14, e15, h⟩ := bd2_ok h
        refine kX9_above X (ctX9_above e15) dX9_as_42 g_1010 (Nat.le_of_ble_eq_true rfl) (Nat.le_of_ble_eq_true rfl) ?_
        refine r_istore_n (L' := [(0, .ref (ea E 0)), (1, .int a1), (2, .int a2), (3, .int u16)]) X dX9_as_45 [1, 2, 3, 0] rfl rfl (Nat.le_of_ble_eq_true rfl) ?_
        refine r_goto X 32 dX9_as_46 (by decide) ?_
        exact ih _ _ _ _ h hE
set_option maxHeartbeats 4000000 in
set_option maxRecDepth 100000 in
theorem ctX9_as {l : Launch} {E : EE} {a1 : Int32} {a2 : Int32} {s0 : St} {r9 : Int32} {t9 : St}  (h : fX9_as a1 a2 s0 = some (r9, t9)) : Ct l E layM yX9_as cX9_as 4 (some .int) 2 [.ref (ea E 0), .int a1, .int a2] s0 (some (.int r9)) t9 := by
  refine Ct.of (by decide) (Nat.le_of_ble_eq_true rfl) ?_
  intro p e ms m below meth c X hlk hr
  have X : Cx E layM p ms m [.ref (ea E 0), .int a1, .int a2].toArray c cX9_as RX9 4 := X
  refine r_sub (L' := [(0, .ref (ea E 0)), (1, .int a1), (2, .int a2)]) [0, 1, 2] rfl ?_
  unfold fX9_as at h
  refine r_aload_n X dX9_as_0 0 rfl rfl ?_
  refine r_iload_n X dX9_as_1 1 rfl rfl ?_
  obtain ⟨u3, s1, e2, h⟩ := bd2_ok h
  refine kX9_isDiner X (ctX9_isDiner e2) dX9_as_2 lM_0 g_912 (Nat.le_of_ble_eq_true rfl) (Nat.le_of_ble_eq_true rfl) ?_
  obtain ⟨j18, ej18, h⟩ := jn1_ok h
  have hj18 : ∀ (s4 : St), j18 s4 = some (r9, t9) → AW E layM p l e (rmD 2) ms m [.ref (ea E 0), .int a1, .int a2].toArray below meth c 4 0 0 (MQc E layM below [.ref (ea E 0), .int a1, .int a2].toArray ms (some (.int r9)) t9) 18 [(0, .ref (ea E 0))] [] s4 := by
    intro s4 h
    rw [ej18] at h
    refine r_aload_n X dX9_as_18 0 rfl rfl ?_
    refine r_ldc X dX9_as_19 g_873 ?_
    obtain ⟨u7, s5, e6, h⟩ := bd2_ok h
    refine kX9_errs X (ctX9_errs e6) dX9_as_21 lM_0 g_874 (Nat.le_of_ble_eq_true rfl) (Nat.le_of_ble_eq_true rfl) ?_
    exact s_iret X hlk hr dX9_as_24 h
  refine r_if_eq X 18 dX9_as_5 (by decide) (fun c29 => ?_) (fun c29 => ?_)
  · rw [if_pos c29] at h
    refine r_sub (L' := [(0, .ref (ea E 0))]) [0] rfl ?_
    exact hj18 _ h
  · rw [if_neg c29] at h
    refine r_iload_n X dX9_as_8 2 rfl rfl ?_
    refine r_iconst X dX9_as_9 (v := 0) (by decide) ?_
    refine r_bipush X dX9_as_10 (v := 6) (by decide) ?_
    obtain ⟨u10, s8, e9, h⟩ := bd2_ok h
    refine kX9_in X (ctX9_in e9) dX9_as_12 g_866 (Nat.le_of_ble_eq_true rfl) (Nat.le_of_ble_eq_true rfl) ?_
    refine r_if_ne X 25 dX9_as_15 (by decide) (fun c28 => ?_) (fun c28 => ?_)
    · rw [if_neg c28] at h
      refine r_aload_n X dX9_as_25 0 rfl rfl ?_
      refine r_iload_n X dX9_as_26 1 rfl rfl ?_
      refine r_iconst X dX9_as_27 (v := 0) (by decide) ?_
      obtain ⟨u13, s11, e12, h⟩ := bd2_ok h
      refine kX9_its X (ctX9_its e12) dX9_as_28 lM_0 g_916 (Nat.le_of_ble_eq_true rfl) (Nat.le_of_ble_eq_true rfl) ?_
      refine r_istore_n (L' := [(0, .ref (ea E 0)), (1, .int a1), (2, .int a2), (3, .int u13)]) X dX9_as_31 [1, 2, 3, 0] rfl rfl (Nat.le_of_ble_eq_true rfl) ?_
      obtain ⟨v20, s19, eo, h⟩ := bd2_ok h
      refine LX9_as_32 X FU _ _ _ _ eo ?_
      refine r_iload_n X dX9_as_49 2 rfl rfl ?_
      refine r_if_ge X 62 dX9_as_50 (by decide) (fun c27 => ?_) (fun c27 => ?_)
      · rw [if_pos c27] at h
        refine r_aload_n X dX9_as_62 0 rfl rfl ?_
        refine r_iload_n X dX9_as_63 1 rfl rfl ?_
        refine r_iconst X dX9_as_64 (v := 1) (by decide) ?_
        obtain ⟨u23, s21, e22, h⟩ := bd2_ok h
        refine kX9_its X (ctX9_its e22) dX9_as_65 lM_0 g_916 (Nat.le_of_ble_eq_true rfl) (Nat.le_of_ble_eq_true rfl) ?_
        exact s_iret X hlk hr dX9_as_68 h
      · rw [if_neg c27] at h
        refine r_aload_n X dX9_as_53 0 rfl rfl ?_
        refine r_ldc X dX9_as_54 g_1013 ?_
        obtain ⟨u26, s24, e25, h⟩ := bd2_ok h
        refine kX9_errs X (ctX9_errs e25) dX9_as_56 lM_0 g_874 (Nat.le_of_ble_eq_true rfl) (Nat.le_of_ble_eq_true rfl) ?_
        refine r_goto X 68 dX9_as_59 (by decide) ?_
        exact s_iret X hlk hr dX9_as_68 h
    · rw [if_pos c28] at h
      refine r_sub (L' := [(0, .ref (ea E 0))]) [0] rfl ?_
      exact hj18 _ h
/-! X9_forgets -/
theorem nX9_forgets : yX9_forgets.cls ≠ "java/lang/invoke/MethodHandle" ∧ yX9_forgets.cls ≠ "java/lang/invoke/VarHandle" ∧ (parseMethodDescriptor yX9_forgets.desc).map (fun d => d.parameters.length) = some 0 := by decide +kernel
theorem kX9_forgets {l : Launch} {E : EE} {p : Program} {e : Env} {ms : State} {m : MethodId} {args : Array Value} {below : List Frame} {meth : Method} {c : Code} {cc : ByteArray} {own : String} {nL pc idx d D : Nat} {Q : State → Prop} {L : List (Nat × Value)} {rest : List Value} {σ τ : St}   {fl : List (Option Nat)} (X : Cx E layM p ms m args c cc own nL) (hM : Ct l E layM yX9_forgets cX9_forgets 2 none d [.ref (ea E 0)] σ none τ) (hd : decode cc pc = .ok (.invokevirtual idx, 3)) (hlay : layM[0]? = some (.inl (8, fl))) (w1 : Cond.methodLink own idx yX9_forgets ∈ gw) (hR : d + 1 ≤ D) (hrs : (rest.map fun v => v.category).sum ≤ 8) (k : AW E layM p l e (rmD D) ms m args below meth c nL 0 0 Q (pc + 3) L rest τ) : AW E layM p l e (rmD D) ms m args below meth c nL 0 0 Q pc L (.ref (ea E 0) :: rest) σ :=
  s_callV X [] rest hM hd v_X9 hlay w1 g_772 g_20 g_77 g_773 nX9_forgets rfl rfl hrs (Nat.le_of_ble_eq_true rfl) hR k
def fX9_forgets_2  : Nat → Int32 → St → Option (St)
  | 0, _, _ => none
  | n + 1, a1, s0 =>
    if 2000 ≤ a1 then
    some s0
    else
    bd1 (ast s0 6 2000 a1 (-1)) fun s2 =>
    fX9_forgets_2 n (a1 + 1) s2
def fX9_forgets  (s0 : St) : Option (St) :=
    bd1 (fX9_forgets_2 FU 0 s0) fun s4 =>
    some s4
set_option maxHeartbeats 4000000 in
set_option maxRecDepth 100000 in
theorem LX9_forgets_2 {l : Launch} {E : EE} {p : Program} {e : Env} {ms : State} {m : MethodId} {args : Array Value} {below : List Frame} {meth : Method} {c : Code}  {Q : State → Prop} (X : Cx E layM p ms m args c cX9_forgets RX9 2) : ∀ (n : Nat) (a1 : Int32) (s0 : St)  (t8 : St), fX9_forgets_2 n a1 s0 = some t8 → AW E layM p l e (rmD 0) ms m args below meth c 2 0 0 Q 22 [] [] t8 → AW E layM p l e (rmD 0) ms m args below meth c 2 0 0 Q 2 [(0, .ref (ea E 0)), (1, .int a1)] [] s0 := by
  intro n
  induction n with
  | zero =>
    intro a1 s0 t8 h hE
    cases h
  | succ n ih =>
    intro a1 s0 t8 h hE
    rw [fX9_forgets_2] at h
    refine r_iload_n X dX9_forgets_2 1 rfl rfl ?_
    refine r_sipush X dX9_forgets_3 (v := 2000) (by decide) ?_
    refine r_icmp_ge X 22 dX9_forgets_6 (by decide) (fun c3 => ?_) (fun c3 => ?_)
    · rw [if_pos c3] at h
      refine r_sub (L' := []) [] rfl ?_
      cases h
      exact hE
    · rw [if_neg c3] at h
      refine r_aload_n X dX9_forgets_9 0 rfl rfl ?_
      refine r_getr X dX9_forgets_10 i_X9 v_X9 lM_0 15 rfl (Nat.le_of_ble_eq_true rfl) g_789 ?_
      refine r_iload_n X dX9_forgets_13 1 rfl rfl ?_
      refine r_iconst X dX9_forgets_14 (v := (-1)) (by decide) ?_
      obtain ⟨g1, s2, es2, h⟩ := as_ok h
      refine s_iast X dX9_forgets_15 lM_6 g1 es2 ?_
      refine r_iinc (L' := [(0, .ref (ea E 0)), (1, .int (a1 + 1))]) (v := a1 + 1) X dX9_forgets_16 1 rfl rfl [1, 0] rfl (Nat.le_of_ble_eq_true rfl) ?_
      refine r_goto X 2 dX9_forgets_19 (by decide) ?_
      exact ih _ _ _ h hE
set_option maxHeartbeats 4000000 in
set_option maxRecDepth 100000 in
theorem ctX9_forgets {l : Launch} {E : EE}  {s0 : St} {t9 : St}  (h : fX9_forgets  s0 = some t9) : Ct l E layM yX9_forgets cX9_forgets 2 none 0 [.ref (ea E 0)] s0 none t9 := by
  refine Ct.of (by decide) (Nat.le_of_ble_eq_true rfl) ?_
  intro p e ms m below meth c X hlk hr
  have X : Cx E layM p ms m [.ref (ea E 0)].toArray c cX9_forgets RX9 2 := X
  refine r_sub (L' := [(0, .ref (ea E 0))]) [0] rfl ?_
  unfold fX9_forgets at h
  refine r_iconst X dX9_forgets_0 (v := 0) (by decide) ?_
  refine r_istore_n (L' := [(0, .ref (ea E 0)), (1, .int 0)]) X dX9_forgets_1 [1, 0] rfl rfl (Nat.le_of_ble_eq_true rfl) ?_
  obtain ⟨s4, eo, h⟩ := bd1_ok h
  refine LX9_forgets_2 X FU _ _ _ eo ?_
  exact s_vret X hlk hr dX9_forgets_22 h
/-! X9_law -/
theorem nX9_law : yX9_law.cls ≠ "java/lang/invoke/MethodHandle" ∧ yX9_law.cls ≠ "java/lang/invoke/VarHandle" ∧ (parseMethodDescriptor yX9_law.desc).map (fun d => d.parameters.length) = some 4 := by decide +kernel
theorem kX9_law {l : Launch} {E : EE} {p : Program} {e : Env} {ms : State} {m : MethodId} {args : Array Value} {below : List Frame} {meth : Method} {c : Code} {cc : ByteArray} {own : String} {nL pc idx d D : Nat} {Q : State → Prop} {L : List (Nat × Value)} {rest : List Value} {σ τ : St} {a1 : Int32} {a2 : Int32} {a3 : Int32} {a4 : Int32} {r : Int32} {fl : List (Option Nat)} (X : Cx E layM p ms m args c cc own nL) (hM : Ct l E layM yX9_law cX9_law 5 (some .int) d [.ref (ea E 0), .int a1, .int a2, .int a3, .int a4] σ (some (.int r)) τ) (hd : decode cc pc = .ok (.invokevirtual idx, 3)) (hlay : layM[0]? = some (.inl (8, fl))) (w1 : Cond.methodLink own idx yX9_law ∈ gw) (hR : d + 1 ≤ D) (hrs : (rest.map fun v => v.category).sum ≤ 8) (k : AW E layM p l e (rmD D) ms m args below meth c nL 0 0 Q (pc + 3) L (.int r :: rest) τ) : AW E layM p l e (rmD D) ms m args below meth c nL 0 0 Q pc L (.int a4 :: .int a3 :: .int a2 :: .int a1 :: .ref (ea E 0) :: rest) σ :=
  s_callV X [.int a1, .int a2, .int a3, .int a4] rest hM hd v_X9 hlay w1 g_1015 g_1016 g_77 g_1017 nX9_law rfl rfl hrs (Nat.le_of_ble_eq_true rfl) hR k
def fX9_law (a1 : Int32) (a2 : Int32) (a3 : Int32) (a4 : Int32) (s0 : St) : Option (Int32 × St) :=
    bd2 (fX9_in a1 0 1 s0) fun u3 s1 =>
    if u3 = 0 then
    bd2 (fX9_errs (-1000000001) s1) fun u6 s4 =>
    some (u6, s4)
    else
    bd2 (fX9_lawOf a1 a2 a3 a4 s1) fun u9 s7 =>
    some (u9, s7)
set_option maxHeartbeats 4000000 in
set_option maxRecDepth 100000 in
theorem ctX9_law {l : Launch} {E : EE} {a1 : Int32} {a2 : Int32} {a3 : Int32} {a4 : Int32} {s0 : St} {r9 : Int32} {t9 : St}  (h : fX9_law a1 a2 a3 a4 s0 = some (r9, t9)) : Ct l E layM yX9_law cX9_law 5 (some .int) 107 [.ref (ea E 0), .int a1, .int a2, .int a3, .int a4] s0 (some (.int r9)) t9 := by
  refine Ct.of (by decide) (Nat.le_of_ble_eq_true rfl) ?_
  intro p e ms m below meth c X hlk hr
  have X : Cx E layM p ms m [.ref (ea E 0), .int a1, .int a2, .int a3, .int a4].toArray c cX9_law RX9 5 := X
  refine r_sub (L' := [(0, .ref (ea E 0)), (1, .int a1), (2, .int a2), (3, .int a3), (4, .int a4)]) [0, 1, 2, 3, 4] rfl ?_
  unfold fX9_law at h
  refine r_iload_n X dX9_law_0 1 rfl rfl ?_
  refine r_iconst X dX9_law_1 (v := 0) (by decide) ?_
  refine r_iconst X dX9_law_2 (v := 1) (by decide) ?_
  obtain ⟨u3, s1, e2, h⟩ := bd2_ok h
  refine kX9_in X (ctX9_in e2) dX9_law_3 g_866 (Nat.le_of_ble_eq_true rfl) (Nat.le_of_ble_eq_true rfl) ?_
  refine r_if_eq X 21 dX9_law_6 (by decide) (fun c10 => ?_) (fun c10 => ?_)
  · rw [if_pos c10] at h
    refine r_aload_n X dX9_law_21 0 rfl rfl ?_
    refine r_ldc X dX9_law_22 g_873 ?_
    obtain ⟨u6, s4, e5, h⟩ := bd2_ok h
    refine kX9_errs X (ctX9_errs e5) dX9_law_24 lM_0 g_874 (Nat.le_of_ble_eq_true rfl) (Nat.le_of_ble_eq_true rfl) ?_
    exact s_iret X hlk hr dX9_law_27 h
  · rw [if_neg c10] at h
    refine r_aload_n X dX9_law_9 0 rfl rfl ?_
    refine r_iload_n X dX9_law_10 1 rfl rfl ?_
    refine r_iload_n X dX9_law_11 2 rfl rfl ?_
    refine r_iload_n X dX9_law_12 3 rfl rfl ?_
    refine r_iload X dX9_law_13 4 rfl ?_
    obtain ⟨u9, s7, e8, h⟩ := bd2_ok h
    refine kX9_lawOf X (ctX9_lawOf e8) dX9_law_15 lM_0 g_940 (Nat.le_of_ble_eq_true rfl) (Nat.le_of_ble_eq_true rfl) ?_
    refine r_goto X 27 dX9_law_18 (by decide) ?_
    exact s_iret X hlk hr dX9_law_27 h
/-! X9_feed -/
theorem nX9_feed : yX9_feed.cls ≠ "java/lang/invoke/MethodHandle" ∧ yX9_feed.cls ≠ "java/lang/invoke/VarHandle" ∧ (parseMethodDescriptor yX9_feed.desc).map (fun d => d.parameters.length) = some 2 := by decide +kernel
theorem kX9_feed {l : Launch} {E : EE} {p : Program} {e : Env} {ms : State} {m : MethodId} {args : Array Value} {below : List Frame} {meth : Method} {c : Code} {cc : ByteArray} {own : String} {nL pc idx d D : Nat} {Q : State → Prop} {L : List (Nat × Value)} {rest : List Value} {σ τ : St} {a1 : Int64} {a3 : Int32} {r : Int32} {fl : List (Option Nat)} (X : Cx E layM p ms m args c cc own nL) (hM : Ct l E layM yX9_feed cX9_feed 5 (some .int) d [.ref (ea E 0), .long a1, .int a3] σ (some (.int r)) τ) (hd : decode cc pc = .ok (.invokevirtual idx, 3)) (hlay : layM[0]? = some (.inl (8, fl))) (w1 : Cond.methodLink own idx yX9_feed ∈ gw) (hR : d + 1 ≤ D) (hrs : (rest.map fun v => v.category).sum ≤ 8) (k : AW E layM p l e (rmD D) ms m args below meth c nL 0 0 Q (pc + 3) L (.int r :: rest) τ) : AW E layM p l e (rmD D) ms m args below meth c nL 0 0 Q pc L (.int a3 :: .long a1 :: .ref (ea E 0) :: rest) σ :=
  s_callV X [.long a1, .int a3] rest hM hd v_X9 hlay w1 g_1019 g_1020 g_77 g_1021 nX9_feed rfl rfl hrs (Nat.le_of_ble_eq_true rfl) hR k
def fX9_feed_40 (a1 : Int64) (a3 : Int32) : Nat → Int32 → St → Option (St)
  | 0, _, _ => none
  | n + 1, a4, s0 =>
    if a3 ≤ a4 then
    some s0
    else
    bd1 (ald s0 1 257 5) fun v7 =>
    bd1 (ast s0 1 257 (87 + v7) (((lsr a1 (8 * a4)) &&& 255).toInt32)) fun s9 =>
    bd1 (ald s9 1 257 5) fun v11 =>
    bd1 (ast s9 1 257 5 (v11 + 1)) fun s13 =>
    fX9_feed_40 a1 a3 n (a4 + 1) s13
def fX9_feed (a1 : Int64) (a3 : Int32) (s0 : St) : Option (Int32 × St) :=
    bd2 (fX9_in a3 1 8 s0) fun u3 s1 =>
    if u3 = 0 then
    bd2 (fX9_errs (-1000000001) s1) fun u24 s22 =>
    some (u24, s22)
    else
    bd1 (ald s1 1 257 5) fun v5 =>
    if (v5 + a3) ≤ 50 then
    bd1 (fX9_feed_40 a1 a3 FU 0 s1) fun s15 =>
    bd1 (ald s15 1 257 5) fun v17 =>
    some (v17, s15)
    else
    bd2 (fX9_errs (-1000000004) s1) fun u20 s18 =>
    some (u20, s18)
set_option maxHeartbeats 4000000 in
set_option maxRecDepth 100000 in
theorem LX9_feed_40 {l : Launch} {E : EE} {p : Program} {e : Env} {ms : State} {m : MethodId} {args : Array Value} {below : List Frame} {meth : Method} {c : Code} {a1 : Int64} {a3 : Int32} {Q : State → Prop} (X : Cx E layM p ms m args c cX9_feed RX9 5) : ∀ (n : Nat) (a4 : Int32) (s0 : St)  (t8 : St), fX9_feed_40 a1 a3 n a4 s0 = some t8 → AW E layM p l e (rmD 1) ms m args below meth c 5 0 0 Q 88 [(0, .ref (ea E 0))] [] t8 → AW E layM p l e (rmD 1) ms m args below meth c 5 0 0 Q 40 [(0, .ref (ea E 0)), (1, .long a1), (3, .int a3), (4, .int a4)] [] s0 := by
  intro n
  induction n with
  | zero =>
    intro a4 s0 t8 h hE
    cases h
  | succ n ih =>
    intro a4 s0 t8 h hE
    rw [fX9_feed_40] at h
    refine r_iload X dX9_feed_40 3 rfl ?_
    refine r_iload_n X dX9_feed_42 2 rfl rfl ?_
    refine r_icmp_ge X 88 dX9_feed_43 (by decide) (fun c14 => ?_) (fun c14 => ?_)
    · rw [if_pos c14] at h
      refine r_sub (L' := [(0, .ref (ea E 0))]) [0] rfl ?_
      cases h
      exact hE
    · rw [if_neg c14] at h
      refine r_aload_n X dX9_feed_46 0 rfl rfl ?_
      refine r_getr X dX9_feed_47 i_X9 v_X9 lM_0 0 rfl (Nat.le_of_ble_eq_true rfl) g_774 ?_
      refine r_bipush X dX9_feed_50 (v := 87) (by decide) ?_
      refine r_aload_n X dX9_feed_52 0 rfl rfl ?_
      refine r_getr X dX9_feed_53 i_X9 v_X9 lM_0 0 rfl (Nat.le_of_ble_eq_true rfl) g_774 ?_
      refine r_iconst X dX9_feed_56 (v := 5) (by decide) ?_
      obtain ⟨g6, v7, ev7, h⟩ := ld_ok h
      refine s_iald X dX9_feed_57 lM_1 g6 ev7 ?_
      refine r_iadd X dX9_feed_58 ?_
      refine r_lload_n X dX9_feed_59 1 rfl rfl ?_
      refine r_bipush X dX9_feed_60 (v := 8) (by decide) ?_
      refine r_iload X dX9_feed_62 3 rfl ?_
      refine r_imul X dX9_feed_64 ?_
      refine s_lshr X dX9_feed_65 ?_
      refine r_ldc2 X dX9_feed_66 g_1022 ?_
      refine r_land X dX9_feed_69 ?_
      refine r_l2i X dX9_feed_70 ?_
      obtain ⟨g8, s9, es9, h⟩ := as_ok h
      refine s_iast X dX9_feed_71 lM_1 g8 es9 ?_
      refine r_aload_n X dX9_feed_72 0 rfl rfl ?_
      refine r_getr X dX9_feed_73 i_X9 v_X9 lM_0 0 rfl (Nat.le_of_ble_eq_true rfl) g_774 ?_
      refine r_iconst X dX9_feed_76 (v := 5) (by decide) ?_
      refine r_dup2 X dX9_feed_77 rfl rfl ?_
      obtain ⟨g10, v11, ev11, h⟩ := ld_ok h
      refine s_iald X dX9_feed_78 lM_1 g10 ev11 ?_
      refine r_iconst X dX9_feed_79 (v := 1) (by decide) ?_
      refine r_iadd X dX9_feed_80 ?_
      obtain ⟨g12, s13, es13, h⟩ := as_ok h
      refine s_iast X dX9_feed_81 lM_1 g12 es13 ?_
      refine r_iinc (L' := [(0, .ref (ea E 0)), (1, .long a1), (3, .int a3), (4, .int (a4 + 1))]) (v := a4 + 1) X dX9_feed_82 3 rfl rfl [1, 2, 3, 0] rfl (Nat.le_of_ble_eq_true rfl) ?_
      refine r_goto X 40 dX9_feed_85 (by decide) ?_
      exact ih _ _ _ h hE
set_option maxHeartbeats 4000000 in
set_option maxRecDepth 100000 in
theorem ctX9_feed {l : Launch} {E : EE} {a1 : Int64} {a3 : Int32} {s0 : St} {r9 : Int32} {t9 : St}  (h : fX9_feed a1 a3 s0 = some (r9, t9)) : Ct l E layM yX9_feed cX9_feed 5 (some .int) 1 [.ref (ea E 0), .long a1, .int a3] s0 (some (.int r9)) t9 := by
  refine Ct.of (by decide) (Nat.le_of_ble_eq_true rfl) ?_
  intro p e ms m below meth c X hlk hr
  have X : Cx E layM p ms m [.ref (ea E 0), .long a1, .int a3].toArray c cX9_feed RX9 5 := X
  refine r_sub (L' := [(0, .ref (ea E 0)), (1, .long a1), (3, .int a3)]) [0, 1, 2] rfl ?_
  unfold fX9_feed at h
  refine r_iload_n X dX9_feed_0 2 rfl rfl ?_
  refine r_iconst X dX9_feed_1 (v := 1) (by decide) ?_
  refine r_bipush X dX9_feed_2 (v := 8) (by decide) ?_
  obtain ⟨u3, s1, e2, h⟩ := bd2_ok h
  refine kX9_in X (ctX9_in e2) dX9_feed_4 g_866 (Nat.le_of_ble_eq_true rfl) (Nat.le_of_ble_eq_true rfl) ?_
  refine r_if_ne X 17 dX9_feed_7 (by decide) (fun c25 => ?_) (fun c25 => ?_)
  · rw [if_neg c25] at h
    refine r_aload_n X dX9_feed_17 0 rfl rfl ?_
    refine r_getr X dX9_feed_18 i_X9 v_X9 lM_0 0 rfl (Nat.le_of_ble_eq_true rfl) g_774 ?_
    refine r_iconst X dX9_feed_21 (v := 5) (by decide) ?_
    obtain ⟨g4, v5, ev5, h⟩ := ld_ok h
    refine s_iald X dX9_feed_22 lM_1 g4 ev5 ?_
    refine r_iload_n X dX9_feed_23 2 rfl rfl ?_
    refine r_iadd X dX9_feed_24 ?_
    refine r_bipush X dX9_feed_25 (v := 50) (by decide) ?_
    refine r_icmp_le X 37 dX9_feed_27 (by decide) (fun c21 => ?_) (fun c21 => ?_)
    · rw [if_pos c21] at h
      refine r_iconst X dX9_feed_37 (v := 0) (by decide) ?_
      refine r_istore (L' := [(0, .ref (ea E 0)), (1, .long a1), (3, .int a3), (4, .int 0)]) X dX9_feed_38 [1, 2, 3, 0] rfl (Nat.le_of_ble_eq_true rfl) ?_
      obtain ⟨s15, eo, h⟩ := bd1_ok h
      refine LX9_feed_40 X FU _ _ _ eo ?_
      refine r_aload_n X dX9_feed_88 0 rfl rfl ?_
      refine r_getr X dX9_feed_89 i_X9 v_X9 lM_0 0 rfl (Nat.le_of_ble_eq_true rfl) g_774 ?_
      refine r_iconst X dX9_feed_92 (v := 5) (by decide) ?_
      obtain ⟨g16, v17, ev17, h⟩ := ld_ok h
      refine s_iald X dX9_feed_93 lM_1 g16 ev17 ?_
      exact s_iret X hlk hr dX9_feed_94 h
    · rw [if_neg c21] at h
      refine r_aload_n X dX9_feed_30 0 rfl rfl ?_
      refine r_ldc X dX9_feed_31 g_903 ?_
      obtain ⟨u20, s18, e19, h⟩ := bd2_ok h
      refine kX9_errs X (ctX9_errs e19) dX9_feed_33 lM_0 g_874 (Nat.le_of_ble_eq_true rfl) (Nat.le_of_ble_eq_true rfl) ?_
      exact s_iret X hlk hr dX9_feed_36 h
  · rw [if_pos c25] at h
    refine r_aload_n X dX9_feed_10 0 rfl rfl ?_
    refine r_ldc X dX9_feed_11 g_873 ?_
    obtain ⟨u24, s22, e23, h⟩ := bd2_ok h
    refine kX9_errs X (ctX9_errs e23) dX9_feed_13 lM_0 g_874 (Nat.le_of_ble_eq_true rfl) (Nat.le_of_ble_eq_true rfl) ?_
    exact s_iret X hlk hr dX9_feed_16 h
/-! X9_text -/
theorem nX9_text : yX9_text.cls ≠ "java/lang/invoke/MethodHandle" ∧ yX9_text.cls ≠ "java/lang/invoke/VarHandle" ∧ (parseMethodDescriptor yX9_text.desc).map (fun d => d.parameters.length) = some 1 := by decide +kernel
theorem kX9_text {l : Launch} {E : EE} {p : Program} {e : Env} {ms : State} {m : MethodId} {args : Array Value} {below : List Frame} {meth : Method} {c : Code} {cc : ByteArray} {own : String} {nL pc idx d D : Nat} {Q : State → Prop} {L : List (Nat × Value)} {rest : List Value} {σ τ : St} {a1 : Int32} {r : Int32} {fl : List (Option Nat)} (X : Cx E layM p ms m args c cc own nL) (hM : Ct l E layM yX9_text cX9_text 5 (some .int) d [.ref (ea E 0), .int a1] σ (some (.int r)) τ) (hd : decode cc pc = .ok (.invokevirtual idx, 3)) (hlay : layM[0]? = some (.inl (8, fl))) (w1 : Cond.methodLink own idx yX9_text ∈ gw) (hR : d + 1 ≤ D) (hrs : (rest.map fun v => v.category).sum ≤ 8) (k : AW E layM p l e (rmD D) ms m args below meth c nL 0 0 Q (pc + 3) L (.int r :: rest) τ) : AW E layM p l e (rmD D) ms m args below meth c nL 0 0 Q pc L (.int a1 :: .ref (ea E 0) :: rest) σ :=
  s_callV X [.int a1] rest hM hd v_X9 hlay w1 g_1024 g_1025 g_77 g_1026 nX9_text rfl rfl hrs (Nat.le_of_ble_eq_true rfl) hR k
def fX9_text_30 (a1 : Int32) : Nat → Int32 → St → Option (St)
  | 0, _, _ => none
  | n + 1, a2, s0 =>
    if 50 ≤ a2 then
    some s0
    else
    bd1 (ald s0 1 257 (87 + a2)) fun v7 =>
    bd1 (ast s0 1 257 ((157 + (50 * a1)) + a2) v7) fun s9 =>
    fX9_text_30 a1 n (a2 + 1) s9
def fX9_text (a1 : Int32) (s0 : St) : Option (Int32 × St) :=
    bd2 (fX9_in a1 0 1 s0) fun u3 s1 =>
    if u3 = 0 then
    bd2 (fX9_errs (-1000000001) s1) fun u33 s31 =>
    some (u33, s31)
    else
    bd1 (fX9_moveAll 1 257 4 257 s1) fun s4 =>
    bd1 (fX9_text_30 a1 FU 0 s4) fun s11 =>
    bd1 (ald s11 1 257 5) fun v13 =>
    bd1 (ast s11 1 257 (7 + a1) v13) fun s15 =>
    bd2 (fX9_walks a1 1 1 1 s15) fun u18 s16 =>
    jn (fun (w19 : Int32) =>
    jn (fun (s20 : St) =>
    bd1 (ast s20 1 257 5 0) fun s22 =>
    bd1 (fX9_forgets  s22) fun s23 =>
    if w19 = 0 then
    some ((-10) - (s16 0 8), s23)
    else
    some (1, s23)) fun j130 =>
    if w19 = 0 then
    bd1 (fX9_moveAll 4 257 1 257 s16) fun s26 =>
    j130 s26
    else
    j130 s16) fun j107 =>
    jn (fun (_ : Unit) =>
    j107 0) fun j106 =>
    if (s16 0 14) = 0 then
    j106 ()
    else
    if u18 = u18 then
    j107 1
    else
    j106 ()
set_option maxHeartbeats 4000000 in
set_option maxRecDepth 100000 in
theorem LX9_text_30 {l : Launch} {E : EE} {p : Program} {e : Env} {ms : State} {m : MethodId} {args : Array Value} {below : List Frame} {meth : Method} {c : Code} {a1 : Int32} {Q : State → Prop} (X : Cx E layM p ms m args c cX9_text RX9 5) : ∀ (n : Nat) (a2 : Int32) (s0 : St)  (t8 : St), fX9_text_30 a1 n a2 s0 = some t8 → AW E layM p l e (rmD 105) ms m args below meth c 5 0 0 Q 66 [(0, .ref (ea E 0)), (1, .int a1)] [] t8 → AW E layM p l e (rmD 105) ms m args below meth c 5 0 0 Q 30 [(0, .ref (ea E 0)), (1, .int a1), (2, .int a2)] [] s0 := by
  intro n
  induction n with
  | zero =>
    intro a2 s0 t8 h hE
    cases h
  | succ n ih =>
    intro a2 s0 t8 h hE
    rw [fX9_text_30] at h
    refine r_iload_n X dX9_text_30 2 rfl rfl ?_
    refine r_bipush X dX9_text_31 (v := 50) (by decide) ?_
    refine r_icmp_ge X 66 dX9_text_33 (by decide) (fun c10 => ?_) (fun c10 => ?_)
    · rw [if_pos c10] at h
      refine r_sub (L' := [(0, .ref (ea E 0)), (1, .int a1)]) [0, 1] rfl ?_
      cases h
      exact hE
    · rw [if_neg c10] at h
      refine r_aload_n X dX9_text_36 0 rfl rfl ?_
      refine r_getr X dX9_text_37 i_X9 v_X9 lM_0 0 rfl (Nat.le_of_ble_eq_true rfl) g_774 ?_
      refine r_sipush X dX9_text_40 (v := 157) (by decide) ?_
      refine r_bipush X dX9_text_43 (v := 50) (by decide) ?_
      refine r_iload_n X dX9_text_45 1 rfl rfl ?_
      refine r_imul X dX9_text_46 ?_
      refine r_iadd X dX9_text_47 ?_
      refine r_iload_n X dX9_text_48 2 rfl rfl ?_
      refine r_iadd X dX9_text_49 ?_
      refine r_aload_n X dX9_text_50 0 rfl rfl ?_
      refine r_getr X dX9_text_51 i_X9 v_X9 lM_0 0 rfl (Nat.le_of_ble_eq_true rfl) g_774 ?_
      refine r_bipush X dX9_text_54 (v := 87) (by decide) ?_
      refine r_iload_n X dX9_text_56 2 rfl rfl ?_
      refine r_iadd X dX9_text_57 ?_
      obtain ⟨g6, v7, ev7, h⟩ := ld_ok h
      refine s_iald X dX9_text_58 lM_1 g6 ev7 ?_
      obtain ⟨g8, s9, es9, h⟩ := as_ok h
      refine s_iast X dX9_text_59 lM_1 g8 es9 ?_
      refine r_iinc (L' := [(0, .ref (ea E 0)), (1, .int a1), (2, .int (a2 + 1))]) (v := a2 + 1) X dX9_text_60 2 rfl rfl [1, 2, 0] rfl (Nat.le_of_ble_eq_true rfl) ?_
      refine r_goto X 30 dX9_text_63 (by decide) ?_
      exact ih _ _ _ h hE
set_option maxHeartbeats 4000000 in
set_option maxRecDepth 100000 in
theorem ctX9_text {l : Launch} {E : EE} {a1 : Int32} {s0 : St} {r9 : Int32} {t9 : St}  (h : fX9_text a1 s0 = some (r9, t9)) : Ct l E layM yX9_text cX9_text 5 (some .int) 105 [.ref (ea E 0), .int a1] s0 (some (.int r9)) t9 := by
  refine Ct.of (by decide) (Nat.le_of_ble_eq_true rfl) ?_
  intro p e ms m below meth c X hlk hr
  have X : Cx E layM p ms m [.ref (ea E 0), .int a1].toArray c cX9_text RX9 5 := X
  refine r_sub (L' := [(0, .ref (ea E 0)), (1, .int a1)]) [0, 1] rfl ?_
  unfold fX9_text at h
  refine r_iload_n X dX9_text_0 1 rfl rfl ?_
  refine r_iconst X dX9_text_1 (v := 0) (by decide) ?_
  refine r_iconst X dX9_text_2 (v := 1) (by decide) ?_
  obtain ⟨u3, s1, e2, h⟩ := bd2_ok h
  refine kX9_in X (ctX9_in e2) dX9_text_3 g_866 (Nat.le_of_ble_eq_true rfl) (Nat.le_of_ble_eq_true rfl) ?_
  refine r_if_ne X 16 dX9_text_6 (by decide) (fun c34 => ?_) (fun c34 => ?_)
  · rw [if_neg c34] at h
    refine r_aload_n X dX9_text_16 0 rfl rfl ?_
    refine r_aload_n X dX9_text_17 0 rfl rfl ?_
    refine r_getr X dX9_text_18 i_X9 v_X9 lM_0 0 rfl (Nat.le_of_ble_eq_true rfl) g_774 ?_
    refine r_aload_n X dX9_text_21 0 rfl rfl ?_
    refine r_getr X dX9_text_22 i_X9 v_X9 lM_0 3 rfl (Nat.le_of_ble_eq_true rfl) g_777 ?_
    obtain ⟨s4, e5, h⟩ := bd1_ok h
    refine kX9_moveAll X (ctX9_moveAll lM_1 lM_4 e5) dX9_text_25 lM_0 g_1027 (Nat.le_of_ble_eq_true rfl) (Nat.le_of_ble_eq_true rfl) ?_
    refine r_iconst X dX9_text_28 (v := 0) (by decide) ?_
    refine r_istore_n (L' := [(0, .ref (ea E 0)), (1, .int a1), (2, .int 0)]) X dX9_text_29 [1, 2, 0] rfl rfl (Nat.le_of_ble_eq_true rfl) ?_
    obtain ⟨s11, eo, h⟩ := bd1_ok h
    refine LX9_text_30 X FU _ _ _ eo ?_
    refine r_aload_n X dX9_text_66 0 rfl rfl ?_
    refine r_getr X dX9_text_67 i_X9 v_X9 lM_0 0 rfl (Nat.le_of_ble_eq_true rfl) g_774 ?_
    refine r_bipush X dX9_text_70 (v := 7) (by decide) ?_
    refine r_iload_n X dX9_text_72 1 rfl rfl ?_
    refine r_iadd X dX9_text_73 ?_
    refine r_aload_n X dX9_text_74 0 rfl rfl ?_
    refine r_getr X dX9_text_75 i_X9 v_X9 lM_0 0 rfl (Nat.le_of_ble_eq_true rfl) g_774 ?_
    refine r_iconst X dX9_text_78 (v := 5) (by decide) ?_
    obtain ⟨g12, v13, ev13, h⟩ := ld_ok h
    refine s_iald X dX9_text_79 lM_1 g12 ev13 ?_
    obtain ⟨g14, s15, es15, h⟩ := as_ok h
    refine s_iast X dX9_text_80 lM_1 g14 es15 ?_
    refine r_aload_n X dX9_text_81 0 rfl rfl ?_
    refine r_iload_n X dX9_text_82 1 rfl rfl ?_
    refine r_iconst X dX9_text_83 (v := 1) (by decide) ?_
    refine r_iconst X dX9_text_84 (v := 1) (by decide) ?_
    refine r_iconst X dX9_text_85 (v := 1) (by decide) ?_
    obtain ⟨u18, s16, e17, h⟩ := bd2_ok h
    refine kX9_walks X (ctX9_walks e17) dX9_text_86 lM_0 g_948 (Nat.le_of_ble_eq_true rfl) (Nat.le_of_ble_eq_true rfl) ?_
    refine r_istore_n (L' := [(0, .ref (ea E 0)), (2, .int u18)]) X dX9_text_89 [1, 0] rfl rfl (Nat.le_of_ble_eq_true rfl) ?_
    refine r_aload_n X dX9_text_90 0 rfl rfl ?_
    refine r_geti X dX9_text_91 i_X9 v_X9 lM_0 14 rfl (Nat.le_of_ble_eq_true rfl) g_788 ?_
    obtain ⟨j107, ej107, h⟩ := jn1_ok h
    have hj107 : ∀ (w19 : Int32), j107 w19 = some (r9, t9) → AW E layM p l e (rmD 105) ms m [.ref (ea E 0), .int a1].toArray below meth c 5 0 0 (MQc E layM below [.ref (ea E 0), .int a1].toArray ms (some (.int r9)) t9) 107 [(0, .ref (ea E 0))] [.int w19] s16 := by
      intro w19 h
      rw [ej107] at h
      refine r_istore_n (L' := [(0, .ref (ea E 0)), (3, .int w19)]) X dX9_text_107 [1, 0] rfl rfl (Nat.le_of_ble_eq_true rfl) ?_
      refine r_aload_n X dX9_text_108 0 rfl rfl ?_
      refine r_geti X dX9_text_109 i_X9 v_X9 lM_0 8 rfl (Nat.le_of_ble_eq_true rfl) g_782 ?_
      refine r_istore (L' := [(0, .ref (ea E 0)), (3, .int w19), (4, .int (s16 0 8))]) X dX9_text_112 [1, 2, 0] rfl (Nat.le_of_ble_eq_true rfl) ?_
      refine r_iload_n X dX9_text_114 1 rfl rfl ?_
      obtain ⟨j130, ej130, h⟩ := jn1_ok h
      have hj130 : ∀ (s20 : St), j130 s20 = some (r9, t9) → AW E layM p l e (rmD 105) ms m [.ref (ea E 0), .int a1].toArray below meth c 5 0 0 (MQc E layM below [.ref (ea E 0), .int a1].toArray ms (some (.int r9)) t9) 130 [(0, .ref (ea E 0)), (3, .int w19), (4, .int (s16 0 8))] [] s20 := by
        intro s20 h
        rw [ej130] at h
        refine r_aload_n X dX9_text_130 0 rfl rfl ?_
        refine r_getr X dX9_text_131 i_X9 v_X9 lM_0 0 rfl (Nat.le_of_ble_eq_true rfl) g_774 ?_
        refine r_iconst X dX9_text_134 (v := 5) (by decide) ?_
        refine r_iconst X dX9_text_135 (v := 0) (by decide) ?_
        obtain ⟨g21, s22, es22, h⟩ := as_ok h
        refine s_iast X dX9_text_136 lM_1 g21 es22 ?_
        refine r_aload_n X dX9_text_137 0 rfl rfl ?_
        obtain ⟨s23, e24, h⟩ := bd1_ok h
        refine kX9_forgets X (ctX9_forgets e24) dX9_text_138 lM_0 g_770 (Nat.le_of_ble_eq_true rfl) (Nat.le_of_ble_eq_true rfl) ?_
        refine r_iload_n X dX9_text_141 1 rfl rfl ?_
        refine r_if_eq X 149 dX9_text_142 (by decide) (fun c25 => ?_) (fun c25 => ?_)
        · rw [if_pos c25] at h
          refine r_bipush X dX9_text_149 (v := (-10)) (by decide) ?_
          refine r_iload X dX9_text_151 2 rfl ?_
          refine r_isub X dX9_text_153 ?_
          exact s_iret X hlk hr dX9_text_154 h
        · rw [if_neg c25] at h
          refine r_iconst X dX9_text_145 (v := 1) (by decide) ?_
          refine r_goto X 154 dX9_text_146 (by decide) ?_
          exact s_iret X hlk hr dX9_text_154 h
      refine r_if_ne X 130 dX9_text_115 (by decide) (fun c28 => ?_) (fun c28 => ?_)
      · rw [if_neg c28] at h
        exact hj130 _ h
      · rw [if_pos c28] at h
        refine r_aload_n X dX9_text_118 0 rfl rfl ?_
        refine r_aload_n X dX9_text_119 0 rfl rfl ?_
        refine r_getr X dX9_text_120 i_X9 v_X9 lM_0 3 rfl (Nat.le_of_ble_eq_true rfl) g_777 ?_
        refine r_aload_n X dX9_text_123 0 rfl rfl ?_
        refine r_getr X dX9_text_124 i_X9 v_X9 lM_0 0 rfl (Nat.le_of_ble_eq_true rfl) g_774 ?_
        obtain ⟨s26, e27, h⟩ := bd1_ok h
        refine kX9_moveAll X (ctX9_moveAll lM_4 lM_1 e27) dX9_text_127 lM_0 g_1027 (Nat.le_of_ble_eq_true rfl) (Nat.le_of_ble_eq_true rfl) ?_
        exact hj130 _ h
    obtain ⟨j106, ej106, h⟩ := jn1_ok h
    have hj106 : ∀ (u : Unit), j106 u = some (r9, t9) → AW E layM p l e (rmD 105) ms m [.ref (ea E 0), .int a1].toArray below meth c 5 0 0 (MQc E layM below [.ref (ea E 0), .int a1].toArray ms (some (.int r9)) t9) 106 [(0, .ref (ea E 0))] [] s16 := by
      intro u h
      rw [ej106] at h
      refine r_iconst X dX9_text_106 (v := 0) (by decide) ?_
      exact hj107 _ h
    refine r_if_eq X 106 dX9_text_94 (by decide) (fun c30 => ?_) (fun c30 => ?_)
    · rw [if_pos c30] at h
      refine r_sub (L' := [(0, .ref (ea E 0))]) [0] rfl ?_
      exact hj106 _ h
    · rw [if_neg c30] at h
      refine r_iload_n X dX9_text_97 1 rfl rfl ?_
      refine r_iload_n X dX9_text_98 1 rfl rfl ?_
      refine r_icmp_ne X 106 dX9_text_99 (by decide) (fun c29 => ?_) (fun c29 => ?_)
      · rw [if_neg c29] at h
        refine r_sub (L' := [(0, .ref (ea E 0))]) [0] rfl ?_
        exact hj106 _ h
      · rw [if_pos c29] at h
        refine r_iconst X dX9_text_102 (v := 1) (by decide) ?_
        refine r_goto X 107 dX9_text_103 (by decide) ?_
        refine r_sub (L' := [(0, .ref (ea E 0))]) [0] rfl ?_
        exact hj107 _ h
  · rw [if_pos c34] at h
    refine r_aload_n X dX9_text_9 0 rfl rfl ?_
    refine r_ldc X dX9_text_10 g_873 ?_
    obtain ⟨u33, s31, e32, h⟩ := bd2_ok h
    refine kX9_errs X (ctX9_errs e32) dX9_text_12 lM_0 g_874 (Nat.le_of_ble_eq_true rfl) (Nat.le_of_ble_eq_true rfl) ?_
    exact s_iret X hlk hr dX9_text_15 h
/-! X9_taste -/
theorem nX9_taste : yX9_taste.cls ≠ "java/lang/invoke/MethodHandle" ∧ yX9_taste.cls ≠ "java/lang/invoke/VarHandle" ∧ (parseMethodDescriptor yX9_taste.desc).map (fun d => d.parameters.length) = some 3 := by decide +kernel
theorem kX9_taste {l : Launch} {E : EE} {p : Program} {e : Env} {ms : State} {m : MethodId} {args : Array Value} {below : List Frame} {meth : Method} {c : Code} {cc : ByteArray} {own : String} {nL pc idx d D : Nat} {Q : State → Prop} {L : List (Nat × Value)} {rest : List Value} {σ τ : St} {a1 : Int32} {a2 : Int32} {a3 : Int32} {r : Int32} {fl : List (Option Nat)} (X : Cx E layM p ms m args c cc own nL) (hM : Ct l E layM yX9_taste cX9_taste 4 (some .int) d [.ref (ea E 0), .int a1, .int a2, .int a3] σ (some (.int r)) τ) (hd : decode cc pc = .ok (.invokevirtual idx, 3)) (hlay : layM[0]? = some (.inl (8, fl))) (w1 : Cond.methodLink own idx yX9_taste ∈ gw) (hR : d + 1 ≤ D) (hrs : (rest.map fun v => v.category).sum ≤ 8) (k : AW E layM p l e (rmD D) ms m args below meth c nL 0 0 Q (pc + 3) L (.int r :: rest) τ) : AW E layM p l e (rmD D) ms m args below meth c nL 0 0 Q pc L (.int a3 :: .int a2 :: .int a1 :: .ref (ea E 0) :: rest) σ :=
  s_callV X [.int a1, .int a2, .int a3] rest hM hd v_X9 hlay w1 g_1050 g_49 g_77 g_1051 nX9_taste rfl rfl hrs (Nat.le_of_ble_eq_true rfl) hR k
def fX9_taste (a1 : Int32) (a2 : Int32) (a3 : Int32) (s0 : St) : Option (Int32 × St) :=
    bd2 (fX9_sweet a2 s0) fun u3 s1 =>
    bd2 (fX9_its a1 2 s1) fun u6 s4 =>
    bd2 (fX9_lawOf 1 a3 u3 u6 s4) fun u9 s7 =>
    some (u9, s7)
set_option maxHeartbeats 4000000 in
set_option maxRecDepth 100000 in
theorem ctX9_taste {l : Launch} {E : EE} {a1 : Int32} {a2 : Int32} {a3 : Int32} {s0 : St} {r9 : Int32} {t9 : St}  (h : fX9_taste a1 a2 a3 s0 = some (r9, t9)) : Ct l E layM yX9_taste cX9_taste 4 (some .int) 107 [.ref (ea E 0), .int a1, .int a2, .int a3] s0 (some (.int r9)) t9 := by
  refine Ct.of (by decide) (Nat.le_of_ble_eq_true rfl) ?_
  intro p e ms m below meth c X hlk hr
  have X : Cx E layM p ms m [.ref (ea E 0), .int a1, .int a2, .int a3].toArray c cX9_taste RX9 4 := X
  refine r_sub (L' := [(0, .ref (ea E 0)), (1, .int a1), (2, .int a2), (3, .int a3)]) [0, 1, 2, 3] rfl ?_
  unfold fX9_taste at h
  refine r_aload_n X dX9_taste_0 0 rfl rfl ?_
  refine r_iconst X dX9_taste_1 (v := 1) (by decide) ?_
  refine r_iload_n X dX9_taste_2 3 rfl rfl ?_
  refine r_aload_n X dX9_taste_3 0 rfl rfl ?_
  refine r_iload_n X dX9_taste_4 2 rfl rfl ?_
  obtain ⟨u3, s1, e2, h⟩ := bd2_ok h
  refine kX9_sweet X (ctX9_sweet e2) dX9_taste_5 lM_0 g_936 (Nat.le_of_ble_eq_true rfl) (Nat.le_of_ble_eq_true rfl) ?_
  refine r_aload_n X dX9_taste_8 0 rfl rfl ?_
  refine r_iload_n X dX9_taste_9 1 rfl rfl ?_
  refine r_iconst X dX9_taste_10 (v := 2) (by decide) ?_
  obtain ⟨u6, s4, e5, h⟩ := bd2_ok h
  refine kX9_its X (ctX9_its e5) dX9_taste_11 lM_0 g_916 (Nat.le_of_ble_eq_true rfl) (Nat.le_of_ble_eq_true rfl) ?_
  obtain ⟨u9, s7, e8, h⟩ := bd2_ok h
  refine kX9_lawOf X (ctX9_lawOf e8) dX9_taste_14 lM_0 g_940 (Nat.le_of_ble_eq_true rfl) (Nat.le_of_ble_eq_true rfl) ?_
  exact s_iret X hlk hr dX9_taste_17 h
/-! X9_findHeartless -/
theorem nX9_findHeartless : yX9_findHeartless.cls ≠ "java/lang/invoke/MethodHandle" ∧ yX9_findHeartless.cls ≠ "java/lang/invoke/VarHandle" ∧ (parseMethodDescriptor yX9_findHeartless.desc).map (fun d => d.parameters.length) = some 0 := by decide +kernel
theorem kX9_findHeartless {l : Launch} {E : EE} {p : Program} {e : Env} {ms : State} {m : MethodId} {args : Array Value} {below : List Frame} {meth : Method} {c : Code} {cc : ByteArray} {own : String} {nL pc idx d D : Nat} {Q : State → Prop} {L : List (Nat × Value)} {rest : List Value} {σ τ : St}   {fl : List (Option Nat)} (X : Cx E layM p ms m args c cc own nL) (hM : Ct l E layM yX9_findHeartless cX9_findHeartless 2 none d [.ref (ea E 0)] σ none τ) (hd : decode cc pc = .ok (.invokevirtual idx, 3)) (hlay : layM[0]? = some (.inl (8, fl))) (w1 : Cond.methodLink own idx yX9_findHeartless ∈ gw) (hR : d + 1 ≤ D) (hrs : (rest.map fun v => v.category).sum ≤ 8) (k : AW E layM p l e (rmD D) ms m args below meth c nL 0 0 Q (pc + 3) L rest τ) : AW E layM p l e (rmD D) ms m args below meth c nL 0 0 Q pc L (.ref (ea E 0) :: rest) σ :=
  s_callV X [] rest hM hd v_X9 hlay w1 g_1054 g_50 g_77 g_1055 nX9_findHeartless rfl rfl hrs (Nat.le_of_ble_eq_true rfl) hR k
def fX9_findHeartless_7  : Nat → Int32 → St → Option (St)
  | 0, _, _ => none
  | n + 1, a1, s0 =>
    bd1 (ald s0 1 257 2) fun v3 =>
    if v3 ≤ a1 then
    some s0
    else
    bd2 (fX9_left a1 5 s0) fun u6 s4 =>
    jn (fun (w7 : Int32) =>
    bd1 (ptf s4 0 16 ((s0 0 16) ||| w7)) fun s8 =>
    fX9_findHeartless_7 n (a1 + 1) s8) fun j39 =>
    if u6 = 4 then
    j39 (shl 1 a1)
    else
    j39 0
def fX9_findHeartless  (s0 : St) : Option (St) :=
    bd1 (ptf s0 0 16 0) fun s1 =>
    bd1 (fX9_findHeartless_7 FU 0 s1) fun s11 =>
    some s11
set_option maxHeartbeats 4000000 in
set_option maxRecDepth 100000 in
theorem LX9_findHeartless_7 {l : Launch} {E : EE} {p : Program} {e : Env} {ms : State} {m : MethodId} {args : Array Value} {below : List Frame} {meth : Method} {c : Code}  {Q : State → Prop} (X : Cx E layM p ms m args c cX9_findHeartless RX9 2) : ∀ (n : Nat) (a1 : Int32) (s0 : St)  (t8 : St), fX9_findHeartless_7 n a1 s0 = some t8 → AW E layM p l e (rmD 108) ms m args below meth c 2 0 0 Q 49 [] [] t8 → AW E layM p l e (rmD 108) ms m args below meth c 2 0 0 Q 7 [(0, .ref (ea E 0)), (1, .int a1)] [] s0 := by
  intro n
  induction n with
  | zero =>
    intro a1 s0 t8 h hE
    cases h
  | succ n ih =>
    intro a1 s0 t8 h hE
    rw [fX9_findHeartless_7] at h
    refine r_iload_n X dX9_findHeartless_7 1 rfl rfl ?_
    refine r_aload_n X dX9_findHeartless_8 0 rfl rfl ?_
    refine r_getr X dX9_findHeartless_9 i_X9 v_X9 lM_0 0 rfl (Nat.le_of_ble_eq_true rfl) g_774 ?_
    refine r_iconst X dX9_findHeartless_12 (v := 2) (by decide) ?_
    obtain ⟨g2, v3, ev3, h⟩ := ld_ok h
    refine s_iald X dX9_findHeartless_13 lM_1 g2 ev3 ?_
    refine r_icmp_ge X 49 dX9_findHeartless_14 (by decide) (fun c10 => ?_) (fun c10 => ?_)
    · rw [if_pos c10] at h
      refine r_sub (L' := []) [] rfl ?_
      cases h
      exact hE
    · rw [if_neg c10] at h
      refine r_aload_n X dX9_findHeartless_17 0 rfl rfl ?_
      refine r_dup X dX9_findHeartless_18 rfl ?_
      refine r_geti X dX9_findHeartless_19 i_X9 v_X9 lM_0 16 rfl (Nat.le_of_ble_eq_true rfl) g_790 ?_
      refine r_aload_n X dX9_findHeartless_22 0 rfl rfl ?_
      refine r_iload_n X dX9_findHeartless_23 1 rfl rfl ?_
      refine r_iconst X dX9_findHeartless_24 (v := 5) (by decide) ?_
      obtain ⟨u6, s4, e5, h⟩ := bd2_ok h
      refine kX9_left X (ctX9_left e5) dX9_findHeartless_25 lM_0 g_924 (Nat.le_of_ble_eq_true rfl) (Nat.le_of_ble_eq_true rfl) ?_
      refine r_iconst X dX9_findHeartless_28 (v := 4) (by decide) ?_
      obtain ⟨j39, ej39, h⟩ := jn1_ok h
      have hj39 : ∀ (w7 : Int32), j39 w7 = some t8 → AW E layM p l e (rmD 108) ms m args below meth c 2 0 0 Q 39 [(0, .ref (ea E 0)), (1, .int a1)] [.int w7, .int (s0 0 16), .ref (ea E 0)] s4 := by
        intro w7 h
        rw [ej39] at h
        refine r_ior X dX9_findHeartless_39 ?_
        obtain ⟨s8, es8, h⟩ := pt_ok h
        refine s_puti X dX9_findHeartless_40 i_X9 tyX9_ok nmX9 v_X9 lM_0 16 rfl (Nat.le_of_ble_eq_true rfl) g_790 rfl rfl ⟨rfl, rfl⟩ es8 ?_
        refine r_iinc (L' := [(0, .ref (ea E 0)), (1, .int (a1 + 1))]) (v := a1 + 1) X dX9_findHeartless_43 1 rfl rfl [1, 0] rfl (Nat.le_of_ble_eq_true rfl) ?_
        refine r_goto X 7 dX9_findHeartless_46 (by decide) ?_
        exact ih _ _ _ h hE
      refine r_icmp_ne X 38 dX9_findHeartless_29 (by decide) (fun c9 => ?_) (fun c9 => ?_)
      · rw [if_neg c9] at h
        refine r_iconst X dX9_findHeartless_38 (v := 0) (by decide) ?_
        exact hj39 _ h
      · rw [if_pos c9] at h
        refine r_iconst X dX9_findHeartless_32 (v := 1) (by decide) ?_
        refine r_iload_n X dX9_findHeartless_33 1 rfl rfl ?_
        refine s_ishl X dX9_findHeartless_34 ?_
        refine r_goto X 39 dX9_findHeartless_35 (by decide) ?_
        exact hj39 _ h
set_option maxHeartbeats 4000000 in
set_option maxRecDepth 100000 in
theorem ctX9_findHeartless {l : Launch} {E : EE}  {s0 : St} {t9 : St}  (h : fX9_findHeartless  s0 = some t9) : Ct l E layM yX9_findHeartless cX9_findHeartless 2 none 108 [.ref (ea E 0)] s0 none t9 := by
  refine Ct.of (by decide) (Nat.le_of_ble_eq_true rfl) ?_
  intro p e ms m below meth c X hlk hr
  have X : Cx E layM p ms m [.ref (ea E 0)].toArray c cX9_findHeartless RX9 2 := X
  refine r_sub (L' := [(0, .ref (ea E 0))]) [0] rfl ?_
  unfold fX9_findHeartless at h
  refine r_aload_n X dX9_findHeartless_0 0 rfl rfl ?_
  refine r_iconst X dX9_findHeartless_1 (v := 0) (by decide) ?_
  obtain ⟨s1, es1, h⟩ := pt_ok h
  refine s_puti X dX9_findHeartless_2 i_X9 tyX9_ok nmX9 v_X9 lM_0 16 rfl (Nat.le_of_ble_eq_true rfl) g_790 rfl rfl ⟨rfl, rfl⟩ es1 ?_
  refine r_iconst X dX9_findHeartless_5 (v := 0) (by decide) ?_
  refine r_istore_n (L' := [(0, .ref (ea E 0)), (1, .int 0)]) X dX9_findHeartless_6 [1, 0] rfl rfl (Nat.le_of_ble_eq_true rfl) ?_
  obtain ⟨s11, eo, h⟩ := bd1_ok h
  refine LX9_findHeartless_7 X FU _ _ _ eo ?_
  exact s_vret X hlk hr dX9_findHeartless_49 h
/-! X9_eats -/
theorem nX9_eats : yX9_eats.cls ≠ "java/lang/invoke/MethodHandle" ∧ yX9_eats.cls ≠ "java/lang/invoke/VarHandle" ∧ (parseMethodDescriptor yX9_eats.desc).map (fun d => d.parameters.length) = some 0 := by decide +kernel
theorem kX9_eats {l : Launch} {E : EE} {p : Program} {e : Env} {ms : State} {m : MethodId} {args : Array Value} {below : List Frame} {meth : Method} {c : Code} {cc : ByteArray} {own : String} {nL pc idx d D : Nat} {Q : State → Prop} {L : List (Nat × Value)} {rest : List Value} {σ τ : St}   {fl : List (Option Nat)} (X : Cx E layM p ms m args c cc own nL) (hM : Ct l E layM yX9_eats cX9_eats 6 none d [.ref (ea E 0)] σ none τ) (hd : decode cc pc = .ok (.invokevirtual idx, 3)) (hlay : layM[0]? = some (.inl (8, fl))) (w1 : Cond.methodLink own idx yX9_eats ∈ gw) (hR : d + 1 ≤ D) (hrs : (rest.map fun v => v.category).sum ≤ 8) (k : AW E layM p l e (rmD D) ms m args below meth c nL 0 0 Q (pc + 3) L rest τ) : AW E layM p l e (rmD D) ms m args below meth c nL 0 0 Q pc L (.ref (ea E 0) :: rest) σ :=
  s_callV X [] rest hM hd v_X9 hlay w1 g_1046 g_48 g_77 g_1047 nX9_eats rfl rfl hrs (Nat.le_of_ble_eq_true rfl) hR k
def fX9_eats_17 (a2 : Int32) : Nat → Int32 → Int32 → St → Option (Int32 × St)
  | 0, _, _, _ => none
  | n + 1, a1, a3, s0 =>
    bd1 (ald s0 1 257 2) fun v4 =>
    if v4 ≤ a3 then
    some (a1, s0)
    else
    bd2 (fX9_left a3 a2 s0) fun u7 s5 =>
    jn (fun (w8 : Int32) =>
    jn (fun (s9 : St) =>
    bd1 (ald s9 1 257 4) fun v11 =>
    bd2 (fX9_held ((v11 + u7) - w8) 0 99999 s9) fun u14 s12 =>
    bd1 (ast s12 1 257 4 u14) fun s16 =>
    fX9_eats_17 a2 n (a1 - w8) (a3 + 1) s16) fun j86 =>
    if w8 ≤ 0 then
    j86 s5
    else
    bd2 (fX9_its a3 4 s5) fun u19 s17 =>
    bd2 (fX9_taste a3 a2 w8 s17) fun u22 s20 =>
    bd2 (fX9_held (u19 + u22) 0 99 s20) fun u25 s23 =>
    bd1 (fX9_puts a3 4 u25 s23) fun s26 =>
    j86 s26) fun j47 =>
    if a1 ≤ u7 then
    j47 a1
    else
    j47 u7
def fX9_eats_9  : Nat → Int32 → Int32 → St → Option (St)
  | 0, _, _, _ => none
  | n + 1, a1, a2, s0 =>
    if 6 ≤ a2 then
    some s0
    else
    bd2 (fX9_eats_17 a2 FU a1 0 s0) fun v32 s31 =>
    fX9_eats_9 n v32 (a2 + 1) s31
def fX9_eats  (s0 : St) : Option (St) :=
    bd1 (ald s0 1 257 3) fun v2 =>
    bd1 (fX9_eats_9 FU v2 0 s0) fun s34 =>
    some s34
set_option maxHeartbeats 4000000 in
set_option maxRecDepth 100000 in
theorem LX9_eats_17 {l : Launch} {E : EE} {p : Program} {e : Env} {ms : State} {m : MethodId} {args : Array Value} {below : List Frame} {meth : Method} {c : Code} {a2 : Int32} {Q : State → Prop} (X : Cx E layM p ms m args c cX9_eats RX9 6) : ∀ (n : Nat) (a1 : Int32) (a3 : Int32) (s0 : St) (q1 : Int32) (t8 : St), fX9_eats_17 a2 n a1 a3 s0 = some (q1, t8) → AW E layM p l e (rmD 108) ms m args below meth c 6 0 0 Q 116 [(0, .ref (ea E 0)), (1, .int q1), (2, .int a2)] [] t8 → AW E layM p l e (rmD 108) ms m args below meth c 6 0 0 Q 17 [(0, .ref (ea E 0)), (1, .int a1), (2, .int a2), (3, .int a3)] [] s0 := by
  intro n
  induction n with
  | zero =>
    intro a1 a3 s0 q1 t8 h hE
    cases h
  | succ n ih =>
    intro a1 a3 s0 q1 t8 h hE
    rw [fX9_eats_17] at h
    refine r_iload_n X dX9_eats_17 3 rfl rfl ?_
    refine r_aload_n X dX9_eats_18 0 rfl rfl ?_
    refine r_getr X dX9_eats_19 i_X9 v_X9 lM_0 0 rfl (Nat.le_of_ble_eq_true rfl) g_774 ?_
    refine r_iconst X dX9_eats_22 (v := 2) (by decide) ?_
    obtain ⟨g3, v4, ev4, h⟩ := ld_ok h
    refine s_iald X dX9_eats_23 lM_1 g3 ev4 ?_
    refine r_icmp_ge X 116 dX9_eats_24 (by decide) (fun c30 => ?_) (fun c30 => ?_)
    · rw [if_pos c30] at h
      refine r_sub (L' := [(0, .ref (ea E 0)), (1, .int a1), (2, .int a2)]) [0, 1, 2] rfl ?_
      cases h
      exact hE
    · rw [if_neg c30] at h
      refine r_aload_n X dX9_eats_27 0 rfl rfl ?_
      refine r_iload_n X dX9_eats_28 3 rfl rfl ?_
      refine r_iload_n X dX9_eats_29 2 rfl rfl ?_
      obtain ⟨u7, s5, e6, h⟩ := bd2_ok h
      refine kX9_left X (ctX9_left e6) dX9_eats_30 lM_0 g_924 (Nat.le_of_ble_eq_true rfl) (Nat.le_of_ble_eq_true rfl) ?_
      refine r_istore (L' := [(0, .ref (ea E 0)), (1, .int a1), (2, .int a2), (3, .int a3), (4, .int u7)]) X dX9_eats_33 [1, 2, 3, 4, 0] rfl (Nat.le_of_ble_eq_true rfl) ?_
      refine r_iload X dX9_eats_35 4 rfl ?_
      refine r_iload_n X dX9_eats_37 1 rfl rfl ?_
      obtain ⟨j47, ej47, h⟩ := jn1_ok h
      have hj47 : ∀ (w8 : Int32), j47 w8 = some (q1, t8) → AW E layM p l e (rmD 108) ms m args below meth c 6 0 0 Q 47 [(0, .ref (ea E 0)), (1, .int a1), (2, .int a2), (3, .int a3), (4, .int u7)] [.int w8] s5 := by
        intro w8 h
        rw [ej47] at h
        refine r_istore (L' := [(0, .ref (ea E 0)), (1, .int a1), (2, .int a2), (3, .int a3), (4, .int u7), (5, .int w8)]) X dX9_eats_47 [1, 2, 3, 4, 5, 0] rfl (Nat.le_of_ble_eq_true rfl) ?_
        refine r_iload_n X dX9_eats_49 1 rfl rfl ?_
        refine r_iload X dX9_eats_50 5 rfl ?_
        refine r_isub X dX9_eats_52 ?_
        refine r_istore_n (L' := [(0, .ref (ea E 0)), (1, .int (a1 - w8)), (2, .int a2), (3, .int a3), (4, .int u7), (5, .int w8)]) X dX9_eats_53 [1, 0, 2, 3, 4, 5] rfl rfl (Nat.le_of_ble_eq_true rfl) ?_
        refine r_iload X dX9_eats_54 5 rfl ?_
        obtain ⟨j86, ej86, h⟩ := jn1_ok h
        have hj86 : ∀ (s9 : St), j86 s9 = some (q1, t8) → AW E layM p l e (rmD 108) ms m args below meth c 6 0 0 Q 86 [(0, .ref (ea E 0)), (1, .int (a1 - w8)), (2, .int a2), (3, .int a3), (4, .int u7), (5, .int w8)] [] s9 := by
          intro s9 h
          rw [ej86] at h
          refine r_aload_n X dX9_eats_86 0 rfl rfl ?_
          refine r_getr X dX9_eats_87 i_X9 v_X9 lM_0 0 rfl (Nat.le_of_ble_eq_true rfl) g_774 ?_
          refine r_iconst X dX9_eats_90 (v := 4) (by decide) ?_
          refine r_aload_n X dX9_eats_91 0 rfl rfl ?_
          refine r_getr X dX9_eats_92 i_X9 v_X9 lM_0 0 rfl (Nat.le_of_ble_eq_true rfl) g_774 ?_
          refine r_iconst X dX9_eats_95 (v := 4) (by decide) ?_
          obtain ⟨g10, v11, ev11, h⟩ := ld_ok h
          refine s_iald X dX9_eats_96 lM_1 g10 ev11 ?_
          refine r_iload X dX9_eats_97 4 rfl ?_
          refine r_iadd X dX9_eats_99 ?_
          refine r_iload X dX9_eats_100 5 rfl ?_
          refine r_isub X dX9_eats_102 ?_
          refine r_iconst X dX9_eats_103 (v := 0) (by decide) ?_
          refine r_ldc X dX9_eats_104 g_898 ?_
          obtain ⟨u14, s12, e13, h⟩ := bd2_ok h
          refine kX9_held X (ctX9_held e13) dX9_eats_106 g_995 (Nat.le_of_ble_eq_true rfl) (Nat.le_of_ble_eq_true rfl) ?_
          obtain ⟨g15, s16, es16, h⟩ := as_ok h
          refine s_iast X dX9_eats_109 lM_1 g15 es16 ?_
          refine r_iinc (L' := [(0, .ref (ea E 0)), (1, .int (a1 - w8)), (2, .int a2), (3, .int (a3 + 1)), (4, .int u7), (5, .int w8)]) (v := a3 + 1) X dX9_eats_110 3 rfl rfl [1, 2, 3, 0, 4, 5] rfl (Nat.le_of_ble_eq_true rfl) ?_
          refine r_goto X 17 dX9_eats_113 (by decide) ?_
          refine r_sub (L' := [(0, .ref (ea E 0)), (1, .int (a1 - w8)), (2, .int a2), (3, .int (a3 + 1))]) [0, 1, 2, 3] rfl ?_
          exact ih _ _ _ _ _ h hE
        refine r_if_le X 86 dX9_eats_56 (by decide) (fun c28 => ?_) (fun c28 => ?_)
        · rw [if_pos c28] at h
          exact hj86 _ h
        · rw [if_neg c28] at h
          refine r_aload_n X dX9_eats_59 0 rfl rfl ?_
          refine r_iload_n X dX9_eats_60 3 rfl rfl ?_
          refine r_iconst X dX9_eats_61 (v := 4) (by decide) ?_
          refine r_aload_n X dX9_eats_62 0 rfl rfl ?_
          refine r_iload_n X dX9_eats_63 3 rfl rfl ?_
          refine r_iconst X dX9_eats_64 (v := 4) (by decide) ?_
          obtain ⟨u19, s17, e18, h⟩ := bd2_ok h
          refine kX9_its X (ctX9_its e18) dX9_eats_65 lM_0 g_916 (Nat.le_of_ble_eq_true rfl) (Nat.le_of_ble_eq_true rfl) ?_
          refine r_aload_n X dX9_eats_68 0 rfl rfl ?_
          refine r_iload_n X dX9_eats_69 3 rfl rfl ?_
          refine r_iload_n X dX9_eats_70 2 rfl rfl ?_
          refine r_iload X dX9_eats_71 5 rfl ?_
          obtain ⟨u22, s20, e21, h⟩ := bd2_ok h
          refine kX9_taste X (ctX9_taste e21) dX9_eats_73 lM_0 g_1048 (Nat.le_of_ble_eq_true rfl) (Nat.le_of_ble_eq_true rfl) ?_
          refine r_iadd X dX9_eats_76 ?_
          refine r_iconst X dX9_eats_77 (v := 0) (by decide) ?_
          refine r_bipush X dX9_eats_78 (v := 99) (by decide) ?_
          obtain ⟨u25, s23, e24, h⟩ := bd2_ok h
          refine kX9_held X (ctX9_held e24) dX9_eats_80 g_995 (Nat.le_of_ble_eq_true rfl) (Nat.le_of_ble_eq_true rfl) ?_
          obtain ⟨s26, e27, h⟩ := bd1_ok h
          refine kX9_puts X (ctX9_puts e27) dX9_eats_83 lM_0 g_904 (Nat.le_of_ble_eq_true rfl) (Nat.le_of_ble_eq_true rfl) ?_
          exact hj86 _ h
      refine r_icmp_ge X 46 dX9_eats_38 (by decide) (fun c29 => ?_) (fun c29 => ?_)
      · rw [if_pos c29] at h
        refine r_iload_n X dX9_eats_46 1 rfl rfl ?_
        exact hj47 _ h
      · rw [if_neg c29] at h
        refine r_iload X dX9_eats_41 4 rfl ?_
        refine r_goto X 47 dX9_eats_43 (by decide) ?_
        exact hj47 _ h
set_option maxHeartbeats 4000000 in
set_option maxRecDepth 100000 in
theorem LX9_eats_9 {l : Launch} {E : EE} {p : Program} {e : Env} {ms : State} {m : MethodId} {args : Array Value} {below : List Frame} {meth : Method} {c : Code}  {Q : State → Prop} (X : Cx E layM p ms m args c cX9_eats RX9 6) : ∀ (n : Nat) (a1 : Int32) (a2 : Int32) (s0 : St)  (t8 : St), fX9_eats_9 n a1 a2 s0 = some t8 → AW E layM p l e (rmD 108) ms m args below meth c 6 0 0 Q 122 [] [] t8 → AW E layM p l e (rmD 108) ms m args below meth c 6 0 0 Q 9 [(0, .ref (ea E 0)), (1, .int a1), (2, .int a2)] [] s0 := by
  intro n
  induction n with
  | zero =>
    intro a1 a2 s0 t8 h hE
    cases h
  | succ n ih =>
    intro a1 a2 s0 t8 h hE
    rw [fX9_eats_9] at h
    refine r_iload_n X dX9_eats_9 2 rfl rfl ?_
    refine r_bipush X dX9_eats_10 (v := 6) (by decide) ?_
    refine r_icmp_ge X 122 dX9_eats_12 (by decide) (fun c33 => ?_) (fun c33 => ?_)
    · rw [if_pos c33] at h
      refine r_sub (L' := []) [] rfl ?_
      cases h
      exact hE
    · rw [if_neg c33] at h
      refine r_iconst X dX9_eats_15 (v := 0) (by decide) ?_
      refine r_istore_n (L' := [(0, .ref (ea E 0)), (1, .int a1), (2, .int a2), (3, .int 0)]) X dX9_eats_16 [1, 2, 3, 0] rfl rfl (Nat.le_of_ble_eq_true rfl) ?_
      obtain ⟨v32, s31, eo, h⟩ := bd2_ok h
      refine LX9_eats_17 X FU _ _ _ _ _ eo ?_
      refine r_iinc (L' := [(0, .ref (ea E 0)), (1, .int v32), (2, .int (a2 + 1))]) (v := a2 + 1) X dX9_eats_116 2 rfl rfl [1, 2, 0] rfl (Nat.le_of_ble_eq_true rfl) ?_
      refine r_goto X 9 dX9_eats_119 (by decide) ?_
      exact ih _ _ _ _ h hE
set_option maxHeartbeats 4000000 in
set_option maxRecDepth 100000 in
theorem ctX9_eats {l : Launch} {E : EE}  {s0 : St} {t9 : St}  (h : fX9_eats  s0 = some t9) : Ct l E layM yX9_eats cX9_eats 6 none 108 [.ref (ea E 0)] s0 none t9 := by
  refine Ct.of (by decide) (Nat.le_of_ble_eq_true rfl) ?_
  intro p e ms m below meth c X hlk hr
  have X : Cx E layM p ms m [.ref (ea E 0)].toArray c cX9_eats RX9 6 := X
  refine r_sub (L' := [(0, .ref (ea E 0))]) [0] rfl ?_
  unfold fX9_eats at h
  refine r_aload_n X dX9_eats_0 0 rfl rfl ?_
  refine r_getr X dX9_eats_1 i_X9 v_X9 lM_0 0 rfl (Nat.le_of_ble_eq_true rfl) g_774 ?_
  refine r_iconst X dX9_eats_4 (v := 3) (by decide) ?_
  obtain ⟨g1, v2, ev2, h⟩ := ld_ok h
  refine s_iald X dX9_eats_5 lM_1 g1 ev2 ?_
  refine r_istore_n (L' := [(0, .ref (ea E 0)), (1, .int v2)]) X dX9_eats_6 [1, 0] rfl rfl (Nat.le_of_ble_eq_true rfl) ?_
  refine r_iconst X dX9_eats_7 (v := 0) (by decide) ?_
  refine r_istore_n (L' := [(0, .ref (ea E 0)), (1, .int v2), (2, .int 0)]) X dX9_eats_8 [1, 2, 0] rfl rfl (Nat.le_of_ble_eq_true rfl) ?_
  obtain ⟨s34, eo, h⟩ := bd1_ok h
  refine LX9_eats_9 X FU _ _ _ _ eo ?_
  exact s_vret X hlk hr dX9_eats_122 h
/-! X9_isSlighted -/
theorem nX9_isSlighted : yX9_isSlighted.cls ≠ "java/lang/invoke/MethodHandle" ∧ yX9_isSlighted.cls ≠ "java/lang/invoke/VarHandle" ∧ (parseMethodDescriptor yX9_isSlighted.desc).map (fun d => d.parameters.length) = some 1 := by decide +kernel
theorem kX9_isSlighted {l : Launch} {E : EE} {p : Program} {e : Env} {ms : State} {m : MethodId} {args : Array Value} {below : List Frame} {meth : Method} {c : Code} {cc : ByteArray} {own : String} {nL pc idx d D : Nat} {Q : State → Prop} {L : List (Nat × Value)} {rest : List Value} {σ τ : St} {a1 : Int32} {r : Int32} {fl : List (Option Nat)} (X : Cx E layM p ms m args c cc own nL) (hM : Ct l E layM yX9_isSlighted cX9_isSlighted 3 (some .boolean) d [.ref (ea E 0), .int a1] σ (some (.int r)) τ) (hd : decode cc pc = .ok (.invokevirtual idx, 3)) (hlay : layM[0]? = some (.inl (8, fl))) (w1 : Cond.methodLink own idx yX9_isSlighted ∈ gw) (hR : d + 1 ≤ D) (hrs : (rest.map fun v => v.category).sum ≤ 8) (k : AW E layM p l e (rmD D) ms m args below meth c nL 0 0 Q (pc + 3) L (.int r :: rest) τ) : AW E layM p l e (rmD D) ms m args below meth c nL 0 0 Q pc L (.int a1 :: .ref (ea E 0) :: rest) σ :=
  s_callV X [.int a1] rest hM hd v_X9 hlay w1 g_1058 g_51 g_77 g_1059 nX9_isSlighted rfl rfl hrs (Nat.le_of_ble_eq_true rfl) hR k
def fX9_isSlighted (a1 : Int32) (s0 : St) : Option (Int32 × St) :=
    bd2 (fX9_its a1 3 s0) fun u3 s1 =>
    jn (fun (_ : Unit) =>
    some (0, s1)) fun j28 =>
    if u3 = a1 then
    j28 ()
    else
    if ((shr (s1 0 16) u3) &&& 1) = 1 then
    some (1, s1)
    else
    j28 ()
set_option maxHeartbeats 4000000 in
set_option maxRecDepth 100000 in
theorem ctX9_isSlighted {l : Launch} {E : EE} {a1 : Int32} {s0 : St} {r9 : Int32} {t9 : St}  (h : fX9_isSlighted a1 s0 = some (r9, t9)) : Ct l E layM yX9_isSlighted cX9_isSlighted 3 (some .boolean) 1 [.ref (ea E 0), .int a1] s0 (some (.int r9)) t9 := by
  refine Ct.of (by decide) (Nat.le_of_ble_eq_true rfl) ?_
  intro p e ms m below meth c X hlk hr
  have X : Cx E layM p ms m [.ref (ea E 0), .int a1].toArray c cX9_isSlighted RX9 3 := X
  refine r_sub (L' := [(0, .ref (ea E 0)), (1, .int a1)]) [0, 1] rfl ?_
  unfold fX9_isSlighted at h
  refine r_aload_n X dX9_isSlighted_0 0 rfl rfl ?_
  refine r_iload_n X dX9_isSlighted_1 1 rfl rfl ?_
  refine r_iconst X dX9_isSlighted_2 (v := 3) (by decide) ?_
  obtain ⟨u3, s1, e2, h⟩ := bd2_ok h
  refine kX9_its X (ctX9_its e2) dX9_isSlighted_3 lM_0 g_916 (Nat.le_of_ble_eq_true rfl) (Nat.le_of_ble_eq_true rfl) ?_
  refine r_istore_n (L' := [(0, .ref (ea E 0)), (1, .int a1), (2, .int u3)]) X dX9_isSlighted_6 [1, 2, 0] rfl rfl (Nat.le_of_ble_eq_true rfl) ?_
  refine r_iload_n X dX9_isSlighted_7 2 rfl rfl ?_
  refine r_iload_n X dX9_isSlighted_8 1 rfl rfl ?_
  obtain ⟨j28, ej28, h⟩ := jn1_ok h
  have hj28 : ∀ (u : Unit), j28 u = some (r9, t9) → AW E layM p l e (rmD 1) ms m [.ref (ea E 0), .int a1].toArray below meth c 3 0 0 (MQc E layM below [.ref (ea E 0), .int a1].toArray ms (some (.int r9)) t9) 28 [] [] s1 := by
    intro u h
    rw [ej28] at h
    refine r_iconst X dX9_isSlighted_28 (v := 0) (by decide) ?_
    exact s_zret X hlk hr (by decide) dX9_isSlighted_29 h
  refine r_icmp_eq X 28 dX9_isSlighted_9 (by decide) (fun c5 => ?_) (fun c5 => ?_)
  · rw [if_pos c5] at h
    refine r_sub (L' := []) [] rfl ?_
    exact hj28 _ h
  · rw [if_neg c5] at h
    refine r_aload_n X dX9_isSlighted_12 0 rfl rfl ?_
    refine r_geti X dX9_isSlighted_13 i_X9 v_X9 lM_0 16 rfl (Nat.le_of_ble_eq_true rfl) g_790 ?_
    refine r_iload_n X dX9_isSlighted_16 2 rfl rfl ?_
    refine s_ishr X dX9_isSlighted_17 ?_
    refine r_iconst X dX9_isSlighted_18 (v := 1) (by decide) ?_
    refine r_iand X dX9_isSlighted_19 ?_
    refine r_iconst X dX9_isSlighted_20 (v := 1) (by decide) ?_
    refine r_icmp_ne X 28 dX9_isSlighted_21 (by decide) (fun c4 => ?_) (fun c4 => ?_)
    · rw [if_neg c4] at h
      refine r_sub (L' := []) [] rfl ?_
      exact hj28 _ h
    · rw [if_pos c4] at h
      refine r_iconst X dX9_isSlighted_24 (v := 1) (by decide) ?_
      refine r_goto X 29 dX9_isSlighted_25 (by decide) ?_
      exact s_zret X hlk hr (by decide) dX9_isSlighted_29 h
/-! X9_oneDay -/
theorem nX9_oneDay : yX9_oneDay.cls ≠ "java/lang/invoke/MethodHandle" ∧ yX9_oneDay.cls ≠ "java/lang/invoke/VarHandle" ∧ (parseMethodDescriptor yX9_oneDay.desc).map (fun d => d.parameters.length) = some 0 := by decide +kernel
theorem kX9_oneDay {l : Launch} {E : EE} {p : Program} {e : Env} {ms : State} {m : MethodId} {args : Array Value} {below : List Frame} {meth : Method} {c : Code} {cc : ByteArray} {own : String} {nL pc idx d D : Nat} {Q : State → Prop} {L : List (Nat × Value)} {rest : List Value} {σ τ : St}   {fl : List (Option Nat)} (X : Cx E layM p ms m args c cc own nL) (hM : Ct l E layM yX9_oneDay cX9_oneDay 2 none d [.ref (ea E 0)] σ none τ) (hd : decode cc pc = .ok (.invokevirtual idx, 3)) (hlay : layM[0]? = some (.inl (8, fl))) (w1 : Cond.methodLink own idx yX9_oneDay ∈ gw) (hR : d + 1 ≤ D) (hrs : (rest.map fun v => v.category).sum ≤ 8) (k : AW E layM p l e (rmD D) ms m args below meth c nL 0 0 Q (pc + 3) L rest τ) : AW E layM p l e (rmD D) ms m args below meth c nL 0 0 Q pc L (.ref (ea E 0) :: rest) σ :=
  s_callV X [] rest hM hd v_X9 hlay w1 g_1042 g_47 g_77 g_1043 nX9_oneDay rfl rfl hrs (Nat.le_of_ble_eq_true rfl) hR k
def fX9_oneDay_10  : Nat → Int32 → St → Option (St)
  | 0, _, _ => none
  | n + 1, a1, s0 =>
    bd1 (ald s0 1 257 2) fun v6 =>
    if v6 ≤ a1 then
    some s0
    else
    bd2 (fX9_isSlighted a1 s0) fun u9 s7 =>
    jn (fun (w10 : Int32) (s11 : St) =>
    bd2 (fX9_held w10 0 9 s11) fun u14 s12 =>
    bd1 (fX9_puts a1 2 u14 s12) fun s15 =>
    fX9_oneDay_10 n (a1 + 1) s15) fun j54 =>
    if u9 = 0 then
    bd2 (fX9_its a1 2 s7) fun u19 s17 =>
    bd2 (fX9_mending a1 s17) fun u22 s20 =>
    j54 (u19 - u22) s20
    else
    bd2 (fX9_its a1 2 s7) fun u25 s23 =>
    j54 (u25 + 1) s23
def fX9_oneDay  (s0 : St) : Option (St) :=
    bd1 (fX9_eats  s0) fun s1 =>
    bd1 (fX9_findHeartless  s1) fun s3 =>
    bd1 (fX9_oneDay_10 FU 0 s3) fun s28 =>
    bd1 (ald s28 1 257 0) fun v30 =>
    bd1 (ast s28 1 257 0 (v30 + 1)) fun s32 =>
    some s32
set_option maxHeartbeats 4000000 in
set_option maxRecDepth 100000 in
theorem LX9_oneDay_10 {l : Launch} {E : EE} {p : Program} {e : Env} {ms : State} {m : MethodId} {args : Array Value} {below : List Frame} {meth : Method} {c : Code}  {Q : State → Prop} (X : Cx E layM p ms m args c cX9_oneDay RX9 2) : ∀ (n : Nat) (a1 : Int32) (s0 : St)  (t8 : St), fX9_oneDay_10 n a1 s0 = some t8 → AW E layM p l e (rmD 109) ms m args below meth c 2 0 0 Q 69 [(0, .ref (ea E 0))] [] t8 → AW E layM p l e (rmD 109) ms m args below meth c 2 0 0 Q 10 [(0, .ref (ea E 0)), (1, .int a1)] [] s0 := by
  intro n
  induction n with
  | zero =>
    intro a1 s0 t8 h hE
    cases h
  | succ n ih =>
    intro a1 s0 t8 h hE
    rw [fX9_oneDay_10] at h
    refine r_iload_n X dX9_oneDay_10 1 rfl rfl ?_
    refine r_aload_n X dX9_oneDay_11 0 rfl rfl ?_
    refine r_getr X dX9_oneDay_12 i_X9 v_X9 lM_0 0 rfl (Nat.le_of_ble_eq_true rfl) g_774 ?_
    refine r_iconst X dX9_oneDay_15 (v := 2) (by decide) ?_
    obtain ⟨g5, v6, ev6, h⟩ := ld_ok h
    refine s_iald X dX9_oneDay_16 lM_1 g5 ev6 ?_
    refine r_icmp_ge X 69 dX9_oneDay_17 (by decide) (fun c27 => ?_) (fun c27 => ?_)
    · rw [if_pos c27] at h
      refine r_sub (L' := [(0, .ref (ea E 0))]) [0] rfl ?_
      cases h
      exact hE
    · rw [if_neg c27] at h
      refine r_aload_n X dX9_oneDay_20 0 rfl rfl ?_
      refine r_iload_n X dX9_oneDay_21 1 rfl rfl ?_
      refine r_iconst X dX9_oneDay_22 (v := 2) (by decide) ?_
      refine r_aload_n X dX9_oneDay_23 0 rfl rfl ?_
      refine r_iload_n X dX9_oneDay_24 1 rfl rfl ?_
      obtain ⟨u9, s7, e8, h⟩ := bd2_ok h
      refine kX9_isSlighted X (ctX9_isSlighted e8) dX9_oneDay_25 lM_0 g_1056 (Nat.le_of_ble_eq_true rfl) (Nat.le_of_ble_eq_true rfl) ?_
      obtain ⟨j54, ej54, h⟩ := jn2_ok h
      have hj54 : ∀ (w10 : Int32) (s11 : St), j54 w10 s11 = some t8 → AW E layM p l e (rmD 109) ms m args below meth c 2 0 0 Q 54 [(0, .ref (ea E 0)), (1, .int a1)] [.int w10, .int 2, .int a1, .ref (ea E 0)] s11 := by
        intro w10 s11 h
        rw [ej54] at h
        refine r_iconst X dX9_oneDay_54 (v := 0) (by decide) ?_
        refine r_bipush X dX9_oneDay_55 (v := 9) (by decide) ?_
        obtain ⟨u14, s12, e13, h⟩ := bd2_ok h
        refine kX9_held X (ctX9_held e13) dX9_oneDay_57 g_995 (Nat.le_of_ble_eq_true rfl) (Nat.le_of_ble_eq_true rfl) ?_
        obtain ⟨s15, e16, h⟩ := bd1_ok h
        refine kX9_puts X (ctX9_puts e16) dX9_oneDay_60 lM_0 g_904 (Nat.le_of_ble_eq_true rfl) (Nat.le_of_ble_eq_true rfl) ?_
        refine r_iinc (L' := [(0, .ref (ea E 0)), (1, .int (a1 + 1))]) (v := a1 + 1) X dX9_oneDay_63 1 rfl rfl [1, 0] rfl (Nat.le_of_ble_eq_true rfl) ?_
        refine r_goto X 10 dX9_oneDay_66 (by decide) ?_
        exact ih _ _ _ h hE
      refine r_if_eq X 42 dX9_oneDay_28 (by decide) (fun c26 => ?_) (fun c26 => ?_)
      · rw [if_pos c26] at h
        refine r_aload_n X dX9_oneDay_42 0 rfl rfl ?_
        refine r_iload_n X dX9_oneDay_43 1 rfl rfl ?_
        refine r_iconst X dX9_oneDay_44 (v := 2) (by decide) ?_
        obtain ⟨u19, s17, e18, h⟩ := bd2_ok h
        refine kX9_its X (ctX9_its e18) dX9_oneDay_45 lM_0 g_916 (Nat.le_of_ble_eq_true rfl) (Nat.le_of_ble_eq_true rfl) ?_
        refine r_aload_n X dX9_oneDay_48 0 rfl rfl ?_
        refine r_iload_n X dX9_oneDay_49 1 rfl rfl ?_
        obtain ⟨u22, s20, e21, h⟩ := bd2_ok h
        refine kX9_mending X (ctX9_mending e21) dX9_oneDay_50 lM_0 g_920 (Nat.le_of_ble_eq_true rfl) (Nat.le_of_ble_eq_true rfl) ?_
        refine r_isub X dX9_oneDay_53 ?_
        exact hj54 _ _ h
      · rw [if_neg c26] at h
        refine r_aload_n X dX9_oneDay_31 0 rfl rfl ?_
        refine r_iload_n X dX9_oneDay_32 1 rfl rfl ?_
        refine r_iconst X dX9_oneDay_33 (v := 2) (by decide) ?_
        obtain ⟨u25, s23, e24, h⟩ := bd2_ok h
        refine kX9_its X (ctX9_its e24) dX9_oneDay_34 lM_0 g_916 (Nat.le_of_ble_eq_true rfl) (Nat.le_of_ble_eq_true rfl) ?_
        refine r_iconst X dX9_oneDay_37 (v := 1) (by decide) ?_
        refine r_iadd X dX9_oneDay_38 ?_
        refine r_goto X 54 dX9_oneDay_39 (by decide) ?_
        exact hj54 _ _ h
set_option maxHeartbeats 4000000 in
set_option maxRecDepth 100000 in
theorem ctX9_oneDay {l : Launch} {E : EE}  {s0 : St} {t9 : St}  (h : fX9_oneDay  s0 = some t9) : Ct l E layM yX9_oneDay cX9_oneDay 2 none 109 [.ref (ea E 0)] s0 none t9 := by
  refine Ct.of (by decide) (Nat.le_of_ble_eq_true rfl) ?_
  intro p e ms m below meth c X hlk hr
  have X : Cx E layM p ms m [.ref (ea E 0)].toArray c cX9_oneDay RX9 2 := X
  refine r_sub (L' := [(0, .ref (ea E 0))]) [0] rfl ?_
  unfold fX9_oneDay at h
  refine r_aload_n X dX9_oneDay_0 0 rfl rfl ?_
  obtain ⟨s1, e2, h⟩ := bd1_ok h
  refine kX9_eats X (ctX9_eats e2) dX9_oneDay_1 lM_0 g_1044 (Nat.le_of_ble_eq_true rfl) (Nat.le_of_ble_eq_true rfl) ?_
  refine r_aload_n X dX9_oneDay_4 0 rfl rfl ?_
  obtain ⟨s3, e4, h⟩ := bd1_ok h
  refine kX9_findHeartless X (ctX9_findHeartless e4) dX9_oneDay_5 lM_0 g_1052 (Nat.le_of_ble_eq_true rfl) (Nat.le_of_ble_eq_true rfl) ?_
  refine r_iconst X dX9_oneDay_8 (v := 0) (by decide) ?_
  refine r_istore_n (L' := [(0, .ref (ea E 0)), (1, .int 0)]) X dX9_oneDay_9 [1, 0] rfl rfl (Nat.le_of_ble_eq_true rfl) ?_
  obtain ⟨s28, eo, h⟩ := bd1_ok h
  refine LX9_oneDay_10 X FU _ _ _ eo ?_
  refine r_aload_n X dX9_oneDay_69 0 rfl rfl ?_
  refine r_getr X dX9_oneDay_70 i_X9 v_X9 lM_0 0 rfl (Nat.le_of_ble_eq_true rfl) g_774 ?_
  refine r_iconst X dX9_oneDay_73 (v := 0) (by decide) ?_
  refine r_dup2 X dX9_oneDay_74 rfl rfl ?_
  obtain ⟨g29, v30, ev30, h⟩ := ld_ok h
  refine s_iald X dX9_oneDay_75 lM_1 g29 ev30 ?_
  refine r_iconst X dX9_oneDay_76 (v := 1) (by decide) ?_
  refine r_iadd X dX9_oneDay_77 ?_
  obtain ⟨g31, s32, es32, h⟩ := as_ok h
  refine s_iast X dX9_oneDay_78 lM_1 g31 es32 ?_
  exact s_vret X hlk hr dX9_oneDay_79 h
/-! X9_passes -/
theorem nX9_passes : yX9_passes.cls ≠ "java/lang/invoke/MethodHandle" ∧ yX9_passes.cls ≠ "java/lang/invoke/VarHandle" ∧ (parseMethodDescriptor yX9_passes.desc).map (fun d => d.parameters.length) = some 1 := by decide +kernel
theorem kX9_passes {l : Launch} {E : EE} {p : Program} {e : Env} {ms : State} {m : MethodId} {args : Array Value} {below : List Frame} {meth : Method} {c : Code} {cc : ByteArray} {own : String} {nL pc idx d D : Nat} {Q : State → Prop} {L : List (Nat × Value)} {rest : List Value} {σ τ : St} {a1 : Int32}  {fl : List (Option Nat)} (X : Cx E layM p ms m args c cc own nL) (hM : Ct l E layM yX9_passes cX9_passes 3 none d [.ref (ea E 0), .int a1] σ none τ) (hd : decode cc pc = .ok (.invokevirtual idx, 3)) (hlay : layM[0]? = some (.inl (8, fl))) (w1 : Cond.methodLink own idx yX9_passes ∈ gw) (hR : d + 1 ≤ D) (hrs : (rest.map fun v => v.category).sum ≤ 8) (k : AW E layM p l e (rmD D) ms m args below meth c nL 0 0 Q (pc + 3) L rest τ) : AW E layM p l e (rmD D) ms m args below meth c nL 0 0 Q pc L (.int a1 :: .ref (ea E 0) :: rest) σ :=
  s_callV X [.int a1] rest hM hd v_X9 hlay w1 g_1038 g_46 g_77 g_1039 nX9_passes rfl rfl hrs (Nat.le_of_ble_eq_true rfl) hR k
def fX9_passes_2 (a1 : Int32) : Nat → Int32 → St → Option (St)
  | 0, _, _ => none
  | n + 1, a2, s0 =>
    if a1 ≤ a2 then
    some s0
    else
    bd1 (fX9_oneDay  s0) fun s1 =>
    fX9_passes_2 a1 n (a2 + 1) s1
def fX9_passes (a1 : Int32) (s0 : St) : Option (St) :=
    bd1 (fX9_passes_2 a1 FU 0 s0) fun s4 =>
    some s4
set_option maxHeartbeats 4000000 in
set_option maxRecDepth 100000 in
theorem LX9_passes_2 {l : Launch} {E : EE} {p : Program} {e : Env} {ms : State} {m : MethodId} {args : Array Value} {below : List Frame} {meth : Method} {c : Code} {a1 : Int32} {Q : State → Prop} (X : Cx E layM p ms m args c cX9_passes RX9 3) : ∀ (n : Nat) (a2 : Int32) (s0 : St)  (t8 : St), fX9_passes_2 a1 n a2 s0 = some t8 → AW E layM p l e (rmD 110) ms m args below meth c 3 0 0 Q 17 [] [] t8 → AW E layM p l e (rmD 110) ms m args below meth c 3 0 0 Q 2 [(0, .ref (ea E 0)), (1, .int a1), (2, .int a2)] [] s0 := by
  intro n
  induction n with
  | zero =>
    intro a2 s0 t8 h hE
    cases h
  | succ n ih =>
    intro a2 s0 t8 h hE
    rw [fX9_passes_2] at h
    refine r_iload_n X dX9_passes_2 2 rfl rfl ?_
    refine r_iload_n X dX9_passes_3 1 rfl rfl ?_
    refine r_icmp_ge X 17 dX9_passes_4 (by decide) (fun c3 => ?_) (fun c3 => ?_)
    · rw [if_pos c3] at h
      refine r_sub (L' := []) [] rfl ?_
      cases h
      exact hE
    · rw [if_neg c3] at h
      refine r_aload_n X dX9_passes_7 0 rfl rfl ?_
      obtain ⟨s1, e2, h⟩ := bd1_ok h
      refine kX9_oneDay X (ctX9_oneDay e2) dX9_passes_8 lM_0 g_1040 (Nat.le_of_ble_eq_true rfl) (Nat.le_of_ble_eq_true rfl) ?_
      refine r_iinc (L' := [(0, .ref (ea E 0)), (1, .int a1), (2, .int (a2 + 1))]) (v := a2 + 1) X dX9_passes_11 2 rfl rfl [1, 2, 0] rfl (Nat.le_of_ble_eq_true rfl) ?_
      refine r_goto X 2 dX9_passes_14 (by decide) ?_
      exact ih _ _ _ h hE
set_option maxHeartbeats 4000000 in
set_option maxRecDepth 100000 in
theorem ctX9_passes {l : Launch} {E : EE} {a1 : Int32} {s0 : St} {t9 : St}  (h : fX9_passes a1 s0 = some t9) : Ct l E layM yX9_passes cX9_passes 3 none 110 [.ref (ea E 0), .int a1] s0 none t9 := by
  refine Ct.of (by decide) (Nat.le_of_ble_eq_true rfl) ?_
  intro p e ms m below meth c X hlk hr
  have X : Cx E layM p ms m [.ref (ea E 0), .int a1].toArray c cX9_passes RX9 3 := X
  refine r_sub (L' := [(0, .ref (ea E 0)), (1, .int a1)]) [0, 1] rfl ?_
  unfold fX9_passes at h
  refine r_iconst X dX9_passes_0 (v := 0) (by decide) ?_
  refine r_istore_n (L' := [(0, .ref (ea E 0)), (1, .int a1), (2, .int 0)]) X dX9_passes_1 [1, 2, 0] rfl rfl (Nat.le_of_ble_eq_true rfl) ?_
  obtain ⟨s4, eo, h⟩ := bd1_ok h
  refine LX9_passes_2 X FU _ _ _ eo ?_
  exact s_vret X hlk hr dX9_passes_17 h
/-! X9_days -/
theorem nX9_days : yX9_days.cls ≠ "java/lang/invoke/MethodHandle" ∧ yX9_days.cls ≠ "java/lang/invoke/VarHandle" ∧ (parseMethodDescriptor yX9_days.desc).map (fun d => d.parameters.length) = some 1 := by decide +kernel
theorem kX9_days {l : Launch} {E : EE} {p : Program} {e : Env} {ms : State} {m : MethodId} {args : Array Value} {below : List Frame} {meth : Method} {c : Code} {cc : ByteArray} {own : String} {nL pc idx d D : Nat} {Q : State → Prop} {L : List (Nat × Value)} {rest : List Value} {σ τ : St} {a1 : Int32} {r : Int32} {fl : List (Option Nat)} (X : Cx E layM p ms m args c cc own nL) (hM : Ct l E layM yX9_days cX9_days 2 (some .int) d [.ref (ea E 0), .int a1] σ (some (.int r)) τ) (hd : decode cc pc = .ok (.invokevirtual idx, 3)) (hlay : layM[0]? = some (.inl (8, fl))) (w1 : Cond.methodLink own idx yX9_days ∈ gw) (hR : d + 1 ≤ D) (hrs : (rest.map fun v => v.category).sum ≤ 8) (k : AW E layM p l e (rmD D) ms m args below meth c nL 0 0 Q (pc + 3) L (.int r :: rest) τ) : AW E layM p l e (rmD D) ms m args below meth c nL 0 0 Q pc L (.int a1 :: .ref (ea E 0) :: rest) σ :=
  s_callV X [.int a1] rest hM hd v_X9 hlay w1 g_1032 g_1033 g_77 g_1034 nX9_days rfl rfl hrs (Nat.le_of_ble_eq_true rfl) hR k
def fX9_days (a1 : Int32) (s0 : St) : Option (Int32 × St) :=
    bd2 (fX9_in a1 1 60 s0) fun u3 s1 =>
    if u3 = 0 then
    bd2 (fX9_errs (-1000000001) s1) fun u16 s14 =>
    some (u16, s14)
    else
    bd1 (ald s1 1 257 0) fun v5 =>
    if (v5 + a1) ≤ 9999 then
    bd1 (fX9_passes a1 s1) fun s6 =>
    bd1 (ald s6 1 257 4) fun v9 =>
    some (v9, s6)
    else
    bd2 (fX9_errs (-1000000003) s1) fun u12 s10 =>
    some (u12, s10)
set_option maxHeartbeats 4000000 in
set_option maxRecDepth 100000 in
theorem ctX9_days {l : Launch} {E : EE} {a1 : Int32} {s0 : St} {r9 : Int32} {t9 : St}  (h : fX9_days a1 s0 = some (r9, t9)) : Ct l E layM yX9_days cX9_days 2 (some .int) 111 [.ref (ea E 0), .int a1] s0 (some (.int r9)) t9 := by
  refine Ct.of (by decide) (Nat.le_of_ble_eq_true rfl) ?_
  intro p e ms m below meth c X hlk hr
  have X : Cx E layM p ms m [.ref (ea E 0), .int a1].toArray c cX9_days RX9 2 := X
  refine r_sub (L' := [(0, .ref (ea E 0)), (1, .int a1)]) [0, 1] rfl ?_
  unfold fX9_days at h
  refine r_iload_n X dX9_days_0 1 rfl rfl ?_
  refine r_iconst X dX9_days_1 (v := 1) (by decide) ?_
  refine r_bipush X dX9_days_2 (v := 60) (by decide) ?_
  obtain ⟨u3, s1, e2, h⟩ := bd2_ok h
  refine kX9_in X (ctX9_in e2) dX9_days_4 g_866 (Nat.le_of_ble_eq_true rfl) (Nat.le_of_ble_eq_true rfl) ?_
  refine r_if_ne X 17 dX9_days_7 (by decide) (fun c17 => ?_) (fun c17 => ?_)
  · rw [if_neg c17] at h
    refine r_aload_n X dX9_days_17 0 rfl rfl ?_
    refine r_getr X dX9_days_18 i_X9 v_X9 lM_0 0 rfl (Nat.le_of_ble_eq_true rfl) g_774 ?_
    refine r_iconst X dX9_days_21 (v := 0) (by decide) ?_
    obtain ⟨g4, v5, ev5, h⟩ := ld_ok h
    refine s_iald X dX9_days_22 lM_1 g4 ev5 ?_
    refine r_iload_n X dX9_days_23 1 rfl rfl ?_
    refine r_iadd X dX9_days_24 ?_
    refine r_sipush X dX9_days_25 (v := 9999) (by decide) ?_
    refine r_icmp_le X 38 dX9_days_28 (by decide) (fun c13 => ?_) (fun c13 => ?_)
    · rw [if_pos c13] at h
      refine r_aload_n X dX9_days_38 0 rfl rfl ?_
      refine r_iload_n X dX9_days_39 1 rfl rfl ?_
      obtain ⟨s6, e7, h⟩ := bd1_ok h
      refine kX9_passes X (ctX9_passes e7) dX9_days_40 lM_0 g_1036 (Nat.le_of_ble_eq_true rfl) (Nat.le_of_ble_eq_true rfl) ?_
      refine r_aload_n X dX9_days_43 0 rfl rfl ?_
      refine r_getr X dX9_days_44 i_X9 v_X9 lM_0 0 rfl (Nat.le_of_ble_eq_true rfl) g_774 ?_
      refine r_iconst X dX9_days_47 (v := 4) (by decide) ?_
      obtain ⟨g8, v9, ev9, h⟩ := ld_ok h
      refine s_iald X dX9_days_48 lM_1 g8 ev9 ?_
      exact s_iret X hlk hr dX9_days_49 h
    · rw [if_neg c13] at h
      refine r_aload_n X dX9_days_31 0 rfl rfl ?_
      refine r_ldc X dX9_days_32 g_1035 ?_
      obtain ⟨u12, s10, e11, h⟩ := bd2_ok h
      refine kX9_errs X (ctX9_errs e11) dX9_days_34 lM_0 g_874 (Nat.le_of_ble_eq_true rfl) (Nat.le_of_ble_eq_true rfl) ?_
      exact s_iret X hlk hr dX9_days_37 h
  · rw [if_pos c17] at h
    refine r_aload_n X dX9_days_10 0 rfl rfl ?_
    refine r_ldc X dX9_days_11 g_873 ?_
    obtain ⟨u16, s14, e15, h⟩ := bd2_ok h
    refine kX9_errs X (ctX9_errs e15) dX9_days_13 lM_0 g_874 (Nat.le_of_ble_eq_true rfl) (Nat.le_of_ble_eq_true rfl) ?_
    exact s_iret X hlk hr dX9_days_16 h
/-! X9_drawn -/
theorem nX9_drawn : yX9_drawn.cls ≠ "java/lang/invoke/MethodHandle" ∧ yX9_drawn.cls ≠ "java/lang/invoke/VarHandle" ∧ (parseMethodDescriptor yX9_drawn.desc).map (fun d => d.parameters.length) = some 0 := by decide +kernel
theorem kX9_drawn {l : Launch} {E : EE} {p : Program} {e : Env} {ms : State} {m : MethodId} {args : Array Value} {below : List Frame} {meth : Method} {c : Code} {cc : ByteArray} {own : String} {nL pc idx d D : Nat} {Q : State → Prop} {L : List (Nat × Value)} {rest : List Value} {σ τ : St}  {r : Int32} {fl : List (Option Nat)} (X : Cx E layM p ms m args c cc own nL) (hM : Ct l E layM yX9_drawn cX9_drawn 1 (some .int) d [.ref (ea E 0)] σ (some (.int r)) τ) (hd : decode cc pc = .ok (.invokevirtual idx, 3)) (hlay : layM[0]? = some (.inl (8, fl))) (w1 : Cond.methodLink own idx yX9_drawn ∈ gw) (hR : d + 1 ≤ D) (hrs : (rest.map fun v => v.category).sum ≤ 8) (k : AW E layM p l e (rmD D) ms m args below meth c nL 0 0 Q (pc + 3) L (.int r :: rest) τ) : AW E layM p l e (rmD D) ms m args below meth c nL 0 0 Q pc L (.ref (ea E 0) :: rest) σ :=
  s_callV X [] rest hM hd v_X9 hlay w1 g_1066 g_52 g_77 g_1067 nX9_drawn rfl rfl hrs (Nat.le_of_ble_eq_true rfl) hR k
def fX9_drawn  (s0 : St) : Option (Int32 × St) :=
    bd1 (ald s0 1 257 1) fun v2 =>
    bd1 (ast s0 1 257 1 ((v2 * 1103515245) + 12345)) fun s4 =>
    bd1 (ald s4 1 257 1) fun v6 =>
    some (ush v6 8, s4)
set_option maxHeartbeats 4000000 in
set_option maxRecDepth 100000 in
theorem ctX9_drawn {l : Launch} {E : EE}  {s0 : St} {r9 : Int32} {t9 : St}  (h : fX9_drawn  s0 = some (r9, t9)) : Ct l E layM yX9_drawn cX9_drawn 1 (some .int) 0 [.ref (ea E 0)] s0 (some (.int r9)) t9 := by
  refine Ct.of (by decide) (Nat.le_of_ble_eq_true rfl) ?_
  intro p e ms m below meth c X hlk hr
  have X : Cx E layM p ms m [.ref (ea E 0)].toArray c cX9_drawn RX9 1 := X
  refine r_sub (L' := [(0, .ref (ea E 0))]) [0] rfl ?_
  unfold fX9_drawn at h
  refine r_aload_n X dX9_drawn_0 0 rfl rfl ?_
  refine r_getr X dX9_drawn_1 i_X9 v_X9 lM_0 0 rfl (Nat.le_of_ble_eq_true rfl) g_774 ?_
  refine r_iconst X dX9_drawn_4 (v := 1) (by decide) ?_
  refine r_aload_n X dX9_drawn_5 0 rfl rfl ?_
  refine r_getr X dX9_drawn_6 i_X9 v_X9 lM_0 0 rfl (Nat.le_of_ble_eq_true rfl) g_774 ?_
  refine r_iconst X dX9_drawn_9 (v := 1) (by decide) ?_
  obtain ⟨g1, v2, ev2, h⟩ := ld_ok h
  refine s_iald X dX9_drawn_10 lM_1 g1 ev2 ?_
  refine r_ldc X dX9_drawn_11 g_1068 ?_
  refine r_imul X dX9_drawn_13 ?_
  refine r_sipush X dX9_drawn_14 (v := 12345) (by decide) ?_
  refine r_iadd X dX9_drawn_17 ?_
  obtain ⟨g3, s4, es4, h⟩ := as_ok h
  refine s_iast X dX9_drawn_18 lM_1 g3 es4 ?_
  refine r_aload_n X dX9_drawn_19 0 rfl rfl ?_
  refine r_getr X dX9_drawn_20 i_X9 v_X9 lM_0 0 rfl (Nat.le_of_ble_eq_true rfl) g_774 ?_
  refine r_iconst X dX9_drawn_23 (v := 1) (by decide) ?_
  obtain ⟨g5, v6, ev6, h⟩ := ld_ok h
  refine s_iald X dX9_drawn_24 lM_1 g5 ev6 ?_
  refine r_bipush X dX9_drawn_25 (v := 8) (by decide) ?_
  refine s_iushr X dX9_drawn_27 ?_
  exact s_iret X hlk hr dX9_drawn_28 h
/-! X9_loose -/
theorem nX9_loose : yX9_loose.cls ≠ "java/lang/invoke/MethodHandle" ∧ yX9_loose.cls ≠ "java/lang/invoke/VarHandle" ∧ (parseMethodDescriptor yX9_loose.desc).map (fun d => d.parameters.length) = some 1 := by decide +kernel
theorem kX9_loose {l : Launch} {E : EE} {p : Program} {e : Env} {ms : State} {m : MethodId} {args : Array Value} {below : List Frame} {meth : Method} {c : Code} {cc : ByteArray} {own : String} {nL pc idx d D : Nat} {Q : State → Prop} {L : List (Nat × Value)} {rest : List Value} {σ τ : St} {a1 : Int32} {r : Int32} {fl : List (Option Nat)} (X : Cx E layM p ms m args c cc own nL) (hM : Ct l E layM yX9_loose cX9_loose 4 (some .int) d [.ref (ea E 0), .int a1] σ (some (.int r)) τ) (hd : decode cc pc = .ok (.invokevirtual idx, 3)) (hlay : layM[0]? = some (.inl (8, fl))) (w1 : Cond.methodLink own idx yX9_loose ∈ gw) (hR : d + 1 ≤ D) (hrs : (rest.map fun v => v.category).sum ≤ 8) (k : AW E layM p l e (rmD D) ms m args below meth c nL 0 0 Q (pc + 3) L (.int r :: rest) τ) : AW E layM p l e (rmD D) ms m args below meth c nL 0 0 Q pc L (.int a1 :: .ref (ea E 0) :: rest) σ :=
  s_callV X [.int a1] rest hM hd v_X9 hlay w1 g_1061 g_1062 g_77 g_1063 nX9_loose rfl rfl hrs (Nat.le_of_ble_eq_true rfl) hR k
def fX9_loose_40 (a1 : Int32) : Nat → Int32 → St → Option (St)
  | 0, _, _ => none
  | n + 1, a2, s0 =>
    if a1 ≤ a2 then
    some s0
    else
    bd2 (fX9_drawn  s0) fun u8 s6 =>
    bd2 (fX9_drawn  s6) fun u11 s9 =>
    bd1 (ast s9 1 257 (41 + (irm u8 6)) (irm u11 16)) fun s13 =>
    bd1 (fX9_oneDay  s13) fun s14 =>
    fX9_loose_40 a1 n (a2 + 1) s14
def fX9_loose (a1 : Int32) (s0 : St) : Option (Int32 × St) :=
    bd2 (fX9_in a1 1 40 s0) fun u3 s1 =>
    if u3 = 0 then
    bd2 (fX9_errs (-1000000001) s1) fun u26 s24 =>
    some (u26, s24)
    else
    bd1 (ald s1 1 257 0) fun v5 =>
    if (v5 + a1) ≤ 9999 then
    bd1 (fX9_loose_40 a1 FU 0 s1) fun s17 =>
    bd1 (ald s17 1 257 4) fun v19 =>
    some (v19, s17)
    else
    bd2 (fX9_errs (-1000000003) s1) fun u22 s20 =>
    some (u22, s20)
set_option maxHeartbeats 4000000 in
set_option maxRecDepth 100000 in
theorem LX9_loose_40 {l : Launch} {E : EE} {p : Program} {e : Env} {ms : State} {m : MethodId} {args : Array Value} {below : List Frame} {meth : Method} {c : Code} {a1 : Int32} {Q : State → Prop} (X : Cx E layM p ms m args c cX9_loose RX9 4) : ∀ (n : Nat) (a2 : Int32) (s0 : St)  (t8 : St), fX9_loose_40 a1 n a2 s0 = some t8 → AW E layM p l e (rmD 110) ms m args below meth c 4 0 0 Q 79 [(0, .ref (ea E 0))] [] t8 → AW E layM p l e (rmD 110) ms m args below meth c 4 0 0 Q 40 [(0, .ref (ea E 0)), (1, .int a1), (2, .int a2)] [] s0 := by
  intro n
  induction n with
  | zero =>
    intro a2 s0 t8 h hE
    cases h
  | succ n ih =>
    intro a2 s0 t8 h hE
    rw [fX9_loose_40] at h
    refine r_iload_n X dX9_loose_40 2 rfl rfl ?_
    refine r_iload_n X dX9_loose_41 1 rfl rfl ?_
    refine r_icmp_ge X 79 dX9_loose_42 (by decide) (fun c16 => ?_) (fun c16 => ?_)
    · rw [if_pos c16] at h
      refine r_sub (L' := [(0, .ref (ea E 0))]) [0] rfl ?_
      cases h
      exact hE
    · rw [if_neg c16] at h
      refine r_aload_n X dX9_loose_45 0 rfl rfl ?_
      obtain ⟨u8, s6, e7, h⟩ := bd2_ok h
      refine kX9_drawn X (ctX9_drawn e7) dX9_loose_46 lM_0 g_1064 (Nat.le_of_ble_eq_true rfl) (Nat.le_of_ble_eq_true rfl) ?_
      refine r_bipush X dX9_loose_49 (v := 6) (by decide) ?_
      refine s_irem X dX9_loose_51 (by decide) ?_
      refine r_istore_n (L' := [(0, .ref (ea E 0)), (1, .int a1), (2, .int a2), (3, .int (irm u8 6))]) X dX9_loose_52 [1, 2, 3, 0] rfl rfl (Nat.le_of_ble_eq_true rfl) ?_
      refine r_aload_n X dX9_loose_53 0 rfl rfl ?_
      refine r_getr X dX9_loose_54 i_X9 v_X9 lM_0 0 rfl (Nat.le_of_ble_eq_true rfl) g_774 ?_
      refine r_bipush X dX9_loose_57 (v := 41) (by decide) ?_
      refine r_iload_n X dX9_loose_59 3 rfl rfl ?_
      refine r_iadd X dX9_loose_60 ?_
      refine r_aload_n X dX9_loose_61 0 rfl rfl ?_
      obtain ⟨u11, s9, e10, h⟩ := bd2_ok h
      refine kX9_drawn X (ctX9_drawn e10) dX9_loose_62 lM_0 g_1064 (Nat.le_of_ble_eq_true rfl) (Nat.le_of_ble_eq_true rfl) ?_
      refine r_bipush X dX9_loose_65 (v := 16) (by decide) ?_
      refine s_irem X dX9_loose_67 (by decide) ?_
      obtain ⟨g12, s13, es13, h⟩ := as_ok h
      refine s_iast X dX9_loose_68 lM_1 g12 es13 ?_
      refine r_aload_n X dX9_loose_69 0 rfl rfl ?_
      obtain ⟨s14, e15, h⟩ := bd1_ok h
      refine kX9_oneDay X (ctX9_oneDay e15) dX9_loose_70 lM_0 g_1040 (Nat.le_of_ble_eq_true rfl) (Nat.le_of_ble_eq_true rfl) ?_
      refine r_iinc (L' := [(0, .ref (ea E 0)), (1, .int a1), (2, .int (a2 + 1)), (3, .int (irm u8 6))]) (v := a2 + 1) X dX9_loose_73 2 rfl rfl [1, 2, 0, 3] rfl (Nat.le_of_ble_eq_true rfl) ?_
      refine r_goto X 40 dX9_loose_76 (by decide) ?_
      refine r_sub (L' := [(0, .ref (ea E 0)), (1, .int a1), (2, .int (a2 + 1))]) [0, 1, 2] rfl ?_
      exact ih _ _ _ h hE
set_option maxHeartbeats 4000000 in
set_option maxRecDepth 100000 in
theorem ctX9_loose {l : Launch} {E : EE} {a1 : Int32} {s0 : St} {r9 : Int32} {t9 : St}  (h : fX9_loose a1 s0 = some (r9, t9)) : Ct l E layM yX9_loose cX9_loose 4 (some .int) 110 [.ref (ea E 0), .int a1] s0 (some (.int r9)) t9 := by
  refine Ct.of (by decide) (Nat.le_of_ble_eq_true rfl) ?_
  intro p e ms m below meth c X hlk hr
  have X : Cx E layM p ms m [.ref (ea E 0), .int a1].toArray c cX9_loose RX9 4 := X
  refine r_sub (L' := [(0, .ref (ea E 0)), (1, .int a1)]) [0, 1] rfl ?_
  unfold fX9_loose at h
  refine r_iload_n X dX9_loose_0 1 rfl rfl ?_
  refine r_iconst X dX9_loose_1 (v := 1) (by decide) ?_
  refine r_bipush X dX9_loose_2 (v := 40) (by decide) ?_
  obtain ⟨u3, s1, e2, h⟩ := bd2_ok h
  refine kX9_in X (ctX9_in e2) dX9_loose_4 g_866 (Nat.le_of_ble_eq_true rfl) (Nat.le_of_ble_eq_true rfl) ?_
  refine r_if_ne X 17 dX9_loose_7 (by decide) (fun c27 => ?_) (fun c27 => ?_)
  · rw [if_neg c27] at h
    refine r_aload_n X dX9_loose_17 0 rfl rfl ?_
    refine r_getr X dX9_loose_18 i_X9 v_X9 lM_0 0 rfl (Nat.le_of_ble_eq_true rfl) g_774 ?_
    refine r_iconst X dX9_loose_21 (v := 0) (by decide) ?_
    obtain ⟨g4, v5, ev5, h⟩ := ld_ok h
    refine s_iald X dX9_loose_22 lM_1 g4 ev5 ?_
    refine r_iload_n X dX9_loose_23 1 rfl rfl ?_
    refine r_iadd X dX9_loose_24 ?_
    refine r_sipush X dX9_loose_25 (v := 9999) (by decide) ?_
    refine r_icmp_le X 38 dX9_loose_28 (by decide) (fun c23 => ?_) (fun c23 => ?_)
    · rw [if_pos c23] at h
      refine r_iconst X dX9_loose_38 (v := 0) (by decide) ?_
      refine r_istore_n (L' := [(0, .ref (ea E 0)), (1, .int a1), (2, .int 0)]) X dX9_loose_39 [1, 2, 0] rfl rfl (Nat.le_of_ble_eq_true rfl) ?_
      obtain ⟨s17, eo, h⟩ := bd1_ok h
      refine LX9_loose_40 X FU _ _ _ eo ?_
      refine r_aload_n X dX9_loose_79 0 rfl rfl ?_
      refine r_getr X dX9_loose_80 i_X9 v_X9 lM_0 0 rfl (Nat.le_of_ble_eq_true rfl) g_774 ?_
      refine r_iconst X dX9_loose_83 (v := 4) (by decide) ?_
      obtain ⟨g18, v19, ev19, h⟩ := ld_ok h
      refine s_iald X dX9_loose_84 lM_1 g18 ev19 ?_
      exact s_iret X hlk hr dX9_loose_85 h
    · rw [if_neg c23] at h
      refine r_aload_n X dX9_loose_31 0 rfl rfl ?_
      refine r_ldc X dX9_loose_32 g_1035 ?_
      obtain ⟨u22, s20, e21, h⟩ := bd2_ok h
      refine kX9_errs X (ctX9_errs e21) dX9_loose_34 lM_0 g_874 (Nat.le_of_ble_eq_true rfl) (Nat.le_of_ble_eq_true rfl) ?_
      exact s_iret X hlk hr dX9_loose_37 h
  · rw [if_pos c27] at h
    refine r_aload_n X dX9_loose_10 0 rfl rfl ?_
    refine r_ldc X dX9_loose_11 g_873 ?_
    obtain ⟨u26, s24, e25, h⟩ := bd2_ok h
    refine kX9_errs X (ctX9_errs e25) dX9_loose_13 lM_0 g_874 (Nat.le_of_ble_eq_true rfl) (Nat.le_of_ble_eq_true rfl) ?_
    exact s_iret X hlk hr dX9_loose_16 h
