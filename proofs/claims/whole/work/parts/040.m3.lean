/-! X9_then -/
theorem nX9_then : yX9_then.cls ≠ "java/lang/invoke/MethodHandle" ∧ yX9_then.cls ≠ "java/lang/invoke/VarHandle" ∧ (parseMethodDescriptor yX9_then.desc).map (fun d => d.parameters.length) = some 3 := by decide +kernel
theorem kX9_then {l : Launch} {E : EE} {p : Program} {e : Env} {ms : State} {m : MethodId} {args : Array Value} {below : List Frame} {meth : Method} {c : Code} {cc : ByteArray} {own : String} {nL pc idx d D : Nat} {Q : State → Prop} {L : List (Nat × Value)} {rest : List Value} {σ τ : St} {a1 : Int32} {a2 : Int32} {a3 : Int32} {r : Int32} {fl : List (Option Nat)} (X : Cx E layM p ms m args c cc own nL) (hM : Ct l E layM yX9_then cX9_then 5 (some .int) d [.ref (ea E 0), .int a1, .int a2, .int a3] σ (some (.int r)) τ) (hd : decode cc pc = .ok (.invokevirtual idx, 3)) (hlay : layM[0]? = some (.inl (8, fl))) (w1 : Cond.methodLink own idx yX9_then ∈ gw) (hR : d + 1 ≤ D) (hrs : (rest.map fun v => v.category).sum ≤ 8) (k : AW E layM p l e (rmD D) ms m args below meth c nL 0 0 Q (pc + 3) L (.int r :: rest) τ) : AW E layM p l e (rmD D) ms m args below meth c nL 0 0 Q pc L (.int a3 :: .int a2 :: .int a1 :: .ref (ea E 0) :: rest) σ :=
  s_callV X [.int a1, .int a2, .int a3] rest hM hd v_X9 hlay w1 g_1070 g_1071 g_77 g_1072 nX9_then rfl rfl hrs (Nat.le_of_ble_eq_true rfl) hR k
def fX9_then (a1 : Int32) (a2 : Int32) (a3 : Int32) (s0 : St) : Option (Int32 × St) :=
    bd2 (fX9_in a1 0 60 s0) fun u3 s1 =>
    jn (fun (s4 : St) =>
    bd2 (fX9_errs (-1000000001) s4) fun u7 s5 =>
    some (u7, s5)) fun j27 =>
    if u3 = 0 then
    j27 s1
    else
    bd2 (fX9_isDiner a2 s1) fun u10 s8 =>
    if u10 = 0 then
    j27 s8
    else
    bd2 (fX9_in a3 0 1 s8) fun u13 s11 =>
    if u13 = 0 then
    j27 s11
    else
    bd1 (fX9_moveAll 1 257 3 257 s11) fun s14 =>
    bd1 (fX9_passes a1 s14) fun s16 =>
    jn (fun (w18 : Int32) =>
    bd2 (fX9_its a2 w18 s16) fun u21 s19 =>
    bd1 (fX9_moveAll 3 257 1 257 s19) fun s22 =>
    some (u21, s22)) fun j62 =>
    if a3 = 0 then
    j62 2
    else
    j62 4
set_option maxHeartbeats 4000000 in
set_option maxRecDepth 100000 in
theorem ctX9_then {l : Launch} {E : EE} {a1 : Int32} {a2 : Int32} {a3 : Int32} {s0 : St} {r9 : Int32} {t9 : St}  (h : fX9_then a1 a2 a3 s0 = some (r9, t9)) : Ct l E layM yX9_then cX9_then 5 (some .int) 111 [.ref (ea E 0), .int a1, .int a2, .int a3] s0 (some (.int r9)) t9 := by
  refine Ct.of (by decide) (Nat.le_of_ble_eq_true rfl) ?_
  intro p e ms m below meth c X hlk hr
  have X : Cx E layM p ms m [.ref (ea E 0), .int a1, .int a2, .int a3].toArray c cX9_then RX9 5 := X
  refine r_sub (L' := [(0, .ref (ea E 0)), (1, .int a1), (2, .int a2), (3, .int a3)]) [0, 1, 2, 3] rfl ?_
  unfold fX9_then at h
  refine r_iload_n X dX9_then_0 1 rfl rfl ?_
  refine r_iconst X dX9_then_1 (v := 0) (by decide) ?_
  refine r_bipush X dX9_then_2 (v := 60) (by decide) ?_
  obtain ⟨u3, s1, e2, h⟩ := bd2_ok h
  refine kX9_in X (ctX9_in e2) dX9_then_4 g_866 (Nat.le_of_ble_eq_true rfl) (Nat.le_of_ble_eq_true rfl) ?_
  obtain ⟨j27, ej27, h⟩ := jn1_ok h
  have hj27 : ∀ (s4 : St), j27 s4 = some (r9, t9) → AW E layM p l e (rmD 111) ms m [.ref (ea E 0), .int a1, .int a2, .int a3].toArray below meth c 5 0 0 (MQc E layM below [.ref (ea E 0), .int a1, .int a2, .int a3].toArray ms (some (.int r9)) t9) 27 [(0, .ref (ea E 0))] [] s4 := by
    intro s4 h
    rw [ej27] at h
    refine r_aload_n X dX9_then_27 0 rfl rfl ?_
    refine r_ldc X dX9_then_28 g_873 ?_
    obtain ⟨u7, s5, e6, h⟩ := bd2_ok h
    refine kX9_errs X (ctX9_errs e6) dX9_then_30 lM_0 g_874 (Nat.le_of_ble_eq_true rfl) (Nat.le_of_ble_eq_true rfl) ?_
    exact s_iret X hlk hr dX9_then_33 h
  refine r_if_eq X 27 dX9_then_7 (by decide) (fun c27 => ?_) (fun c27 => ?_)
  · rw [if_pos c27] at h
    refine r_sub (L' := [(0, .ref (ea E 0))]) [0] rfl ?_
    exact hj27 _ h
  · rw [if_neg c27] at h
    refine r_aload_n X dX9_then_10 0 rfl rfl ?_
    refine r_iload_n X dX9_then_11 2 rfl rfl ?_
    obtain ⟨u10, s8, e9, h⟩ := bd2_ok h
    refine kX9_isDiner X (ctX9_isDiner e9) dX9_then_12 lM_0 g_912 (Nat.le_of_ble_eq_true rfl) (Nat.le_of_ble_eq_true rfl) ?_
    refine r_if_eq X 27 dX9_then_15 (by decide) (fun c26 => ?_) (fun c26 => ?_)
    · rw [if_pos c26] at h
      refine r_sub (L' := [(0, .ref (ea E 0))]) [0] rfl ?_
      exact hj27 _ h
    · rw [if_neg c26] at h
      refine r_iload_n X dX9_then_18 3 rfl rfl ?_
      refine r_iconst X dX9_then_19 (v := 0) (by decide) ?_
      refine r_iconst X dX9_then_20 (v := 1) (by decide) ?_
      obtain ⟨u13, s11, e12, h⟩ := bd2_ok h
      refine kX9_in X (ctX9_in e12) dX9_then_21 g_866 (Nat.le_of_ble_eq_true rfl) (Nat.le_of_ble_eq_true rfl) ?_
      refine r_if_ne X 34 dX9_then_24 (by decide) (fun c25 => ?_) (fun c25 => ?_)
      · rw [if_neg c25] at h
        refine r_aload_n X dX9_then_34 0 rfl rfl ?_
        refine r_aload_n X dX9_then_35 0 rfl rfl ?_
        refine r_getr X dX9_then_36 i_X9 v_X9 lM_0 0 rfl (Nat.le_of_ble_eq_true rfl) g_774 ?_
        refine r_aload_n X dX9_then_39 0 rfl rfl ?_
        refine r_getr X dX9_then_40 i_X9 v_X9 lM_0 2 rfl (Nat.le_of_ble_eq_true rfl) g_776 ?_
        obtain ⟨s14, e15, h⟩ := bd1_ok h
        refine kX9_moveAll X (ctX9_moveAll lM_1 lM_3 e15) dX9_then_43 lM_0 g_1027 (Nat.le_of_ble_eq_true rfl) (Nat.le_of_ble_eq_true rfl) ?_
        refine r_aload_n X dX9_then_46 0 rfl rfl ?_
        refine r_iload_n X dX9_then_47 1 rfl rfl ?_
        obtain ⟨s16, e17, h⟩ := bd1_ok h
        refine kX9_passes X (ctX9_passes e17) dX9_then_48 lM_0 g_1036 (Nat.le_of_ble_eq_true rfl) (Nat.le_of_ble_eq_true rfl) ?_
        refine r_aload_n X dX9_then_51 0 rfl rfl ?_
        refine r_iload_n X dX9_then_52 2 rfl rfl ?_
        refine r_iload_n X dX9_then_53 3 rfl rfl ?_
        obtain ⟨j62, ej62, h⟩ := jn1_ok h
        have hj62 : ∀ (w18 : Int32), j62 w18 = some (r9, t9) → AW E layM p l e (rmD 111) ms m [.ref (ea E 0), .int a1, .int a2, .int a3].toArray below meth c 5 0 0 (MQc E layM below [.ref (ea E 0), .int a1, .int a2, .int a3].toArray ms (some (.int r9)) t9) 62 [(0, .ref (ea E 0))] [.int w18, .int a2, .ref (ea E 0)] s16 := by
          intro w18 h
          rw [ej62] at h
          obtain ⟨u21, s19, e20, h⟩ := bd2_ok h
          refine kX9_its X (ctX9_its e20) dX9_then_62 lM_0 g_916 (Nat.le_of_ble_eq_true rfl) (Nat.le_of_ble_eq_true rfl) ?_
          refine r_istore (L' := [(0, .ref (ea E 0)), (4, .int u21)]) X dX9_then_65 [1, 0] rfl (Nat.le_of_ble_eq_true rfl) ?_
          refine r_aload_n X dX9_then_67 0 rfl rfl ?_
          refine r_aload_n X dX9_then_68 0 rfl rfl ?_
          refine r_getr X dX9_then_69 i_X9 v_X9 lM_0 2 rfl (Nat.le_of_ble_eq_true rfl) g_776 ?_
          refine r_aload_n X dX9_then_72 0 rfl rfl ?_
          refine r_getr X dX9_then_73 i_X9 v_X9 lM_0 0 rfl (Nat.le_of_ble_eq_true rfl) g_774 ?_
          obtain ⟨s22, e23, h⟩ := bd1_ok h
          refine kX9_moveAll X (ctX9_moveAll lM_3 lM_1 e23) dX9_then_76 lM_0 g_1027 (Nat.le_of_ble_eq_true rfl) (Nat.le_of_ble_eq_true rfl) ?_
          refine r_iload X dX9_then_79 1 rfl ?_
          exact s_iret X hlk hr dX9_then_81 h
        refine r_if_ne X 61 dX9_then_54 (by decide) (fun c24 => ?_) (fun c24 => ?_)
        · rw [if_neg c24] at h
          refine r_iconst X dX9_then_61 (v := 4) (by decide) ?_
          refine r_sub (L' := [(0, .ref (ea E 0))]) [0] rfl ?_
          exact hj62 _ h
        · rw [if_pos c24] at h
          refine r_iconst X dX9_then_57 (v := 2) (by decide) ?_
          refine r_goto X 62 dX9_then_58 (by decide) ?_
          refine r_sub (L' := [(0, .ref (ea E 0))]) [0] rfl ?_
          exact hj62 _ h
      · rw [if_pos c25] at h
        refine r_sub (L' := [(0, .ref (ea E 0))]) [0] rfl ?_
        exact hj27 _ h
/-! X9_out -/
theorem nX9_out : yX9_out.cls ≠ "java/lang/invoke/MethodHandle" ∧ yX9_out.cls ≠ "java/lang/invoke/VarHandle" ∧ (parseMethodDescriptor yX9_out.desc).map (fun d => d.parameters.length) = some 2 := by decide +kernel
theorem kX9_out {l : Launch} {E : EE} {p : Program} {e : Env} {ms : State} {m : MethodId} {args : Array Value} {below : List Frame} {meth : Method} {c : Code} {cc : ByteArray} {own : String} {nL pc idx d D : Nat} {Q : State → Prop} {L : List (Nat × Value)} {rest : List Value} {σ τ : St} {a1 : Int32} {a2 : Int32} {r : Int32} {fl : List (Option Nat)} (X : Cx E layM p ms m args c cc own nL) (hM : Ct l E layM yX9_out cX9_out 4 (some .int) d [.ref (ea E 0), .int a1, .int a2] σ (some (.int r)) τ) (hd : decode cc pc = .ok (.invokevirtual idx, 3)) (hlay : layM[0]? = some (.inl (8, fl))) (w1 : Cond.methodLink own idx yX9_out ∈ gw) (hR : d + 1 ≤ D) (hrs : (rest.map fun v => v.category).sum ≤ 8) (k : AW E layM p l e (rmD D) ms m args below meth c nL 0 0 Q (pc + 3) L (.int r :: rest) τ) : AW E layM p l e (rmD D) ms m args below meth c nL 0 0 Q pc L (.int a2 :: .int a1 :: .ref (ea E 0) :: rest) σ :=
  s_callV X [.int a1, .int a2] rest hM hd v_X9 hlay w1 g_1074 g_1075 g_77 g_1076 nX9_out rfl rfl hrs (Nat.le_of_ble_eq_true rfl) hR k
def fX9_out_39 (a1 : Int32) (a2 : Int32) : Nat → Int32 → St → Option (Int32 × St)
  | 0, _, _ => none
  | n + 1, a3, s0 =>
    if 60 < a3 then
    some (a3, s0)
    else
    bd2 (fX9_its a1 4 s0) fun u15 s13 =>
    if a2 ≤ u15 then
    some (a3, s13)
    else
    bd1 (fX9_oneDay  s13) fun s16 =>
    fX9_out_39 a1 a2 n (a3 + 1) s16
def fX9_out (a1 : Int32) (a2 : Int32) (s0 : St) : Option (Int32 × St) :=
    bd2 (fX9_isDiner a1 s0) fun u3 s1 =>
    jn (fun (s4 : St) =>
    bd2 (fX9_errs (-1000000001) s4) fun u7 s5 =>
    some (u7, s5)) fun j18 =>
    if u3 = 0 then
    j18 s1
    else
    bd2 (fX9_in a2 0 99 s1) fun u10 s8 =>
    if u10 = 0 then
    j18 s8
    else
    bd1 (fX9_moveAll 1 257 3 257 s8) fun s11 =>
    bd2 (fX9_out_39 a1 a2 FU 0 s11) fun v21 s20 =>
    bd1 (fX9_moveAll 3 257 1 257 s20) fun s22 =>
    if v21 ≤ 60 then
    some (v21, s22)
    else
    bd2 (fX9_errs (-1000000002) s22) fun u26 s24 =>
    some (u26, s24)
set_option maxHeartbeats 4000000 in
set_option maxRecDepth 100000 in
theorem LX9_out_39 {l : Launch} {E : EE} {p : Program} {e : Env} {ms : State} {m : MethodId} {args : Array Value} {below : List Frame} {meth : Method} {c : Code} {a1 : Int32} {a2 : Int32} {Q : State → Prop} (X : Cx E layM p ms m args c cX9_out RX9 4) : ∀ (n : Nat) (a3 : Int32) (s0 : St) (q3 : Int32) (t8 : St), fX9_out_39 a1 a2 n a3 s0 = some (q3, t8) → AW E layM p l e (rmD 110) ms m args below meth c 4 0 0 Q 65 [(0, .ref (ea E 0)), (3, .int q3)] [] t8 → AW E layM p l e (rmD 110) ms m args below meth c 4 0 0 Q 39 [(0, .ref (ea E 0)), (1, .int a1), (2, .int a2), (3, .int a3)] [] s0 := by
  intro n
  induction n with
  | zero =>
    intro a3 s0 q3 t8 h hE
    cases h
  | succ n ih =>
    intro a3 s0 q3 t8 h hE
    rw [fX9_out_39] at h
    refine r_iload_n X dX9_out_39 3 rfl rfl ?_
    refine r_bipush X dX9_out_40 (v := 60) (by decide) ?_
    refine r_icmp_gt X 65 dX9_out_42 (by decide) (fun c19 => ?_) (fun c19 => ?_)
    · rw [if_pos c19] at h
      refine r_sub (L' := [(0, .ref (ea E 0)), (3, .int a3)]) [0, 3] rfl ?_
      cases h
      exact hE
    · rw [if_neg c19] at h
      refine r_aload_n X dX9_out_45 0 rfl rfl ?_
      refine r_iload_n X dX9_out_46 1 rfl rfl ?_
      refine r_iconst X dX9_out_47 (v := 4) (by decide) ?_
      obtain ⟨u15, s13, e14, h⟩ := bd2_ok h
      refine kX9_its X (ctX9_its e14) dX9_out_48 lM_0 g_916 (Nat.le_of_ble_eq_true rfl) (Nat.le_of_ble_eq_true rfl) ?_
      refine r_iload_n X dX9_out_51 2 rfl rfl ?_
      refine r_icmp_ge X 65 dX9_out_52 (by decide) (fun c18 => ?_) (fun c18 => ?_)
      · rw [if_pos c18] at h
        refine r_sub (L' := [(0, .ref (ea E 0)), (3, .int a3)]) [0, 3] rfl ?_
        cases h
        exact hE
      · rw [if_neg c18] at h
        refine r_aload_n X dX9_out_55 0 rfl rfl ?_
        obtain ⟨s16, e17, h⟩ := bd1_ok h
        refine kX9_oneDay X (ctX9_oneDay e17) dX9_out_56 lM_0 g_1040 (Nat.le_of_ble_eq_true rfl) (Nat.le_of_ble_eq_true rfl) ?_
        refine r_iinc (L' := [(0, .ref (ea E 0)), (1, .int a1), (2, .int a2), (3, .int (a3 + 1))]) (v := a3 + 1) X dX9_out_59 3 rfl rfl [1, 2, 3, 0] rfl (Nat.le_of_ble_eq_true rfl) ?_
        refine r_goto X 39 dX9_out_62 (by decide) ?_
        exact ih _ _ _ _ h hE
set_option maxHeartbeats 4000000 in
set_option maxRecDepth 100000 in
theorem ctX9_out {l : Launch} {E : EE} {a1 : Int32} {a2 : Int32} {s0 : St} {r9 : Int32} {t9 : St}  (h : fX9_out a1 a2 s0 = some (r9, t9)) : Ct l E layM yX9_out cX9_out 4 (some .int) 110 [.ref (ea E 0), .int a1, .int a2] s0 (some (.int r9)) t9 := by
  refine Ct.of (by decide) (Nat.le_of_ble_eq_true rfl) ?_
  intro p e ms m below meth c X hlk hr
  have X : Cx E layM p ms m [.ref (ea E 0), .int a1, .int a2].toArray c cX9_out RX9 4 := X
  refine r_sub (L' := [(0, .ref (ea E 0)), (1, .int a1), (2, .int a2)]) [0, 1, 2] rfl ?_
  unfold fX9_out at h
  refine r_aload_n X dX9_out_0 0 rfl rfl ?_
  refine r_iload_n X dX9_out_1 1 rfl rfl ?_
  obtain ⟨u3, s1, e2, h⟩ := bd2_ok h
  refine kX9_isDiner X (ctX9_isDiner e2) dX9_out_2 lM_0 g_912 (Nat.le_of_ble_eq_true rfl) (Nat.le_of_ble_eq_true rfl) ?_
  obtain ⟨j18, ej18, h⟩ := jn1_ok h
  have hj18 : ∀ (s4 : St), j18 s4 = some (r9, t9) → AW E layM p l e (rmD 110) ms m [.ref (ea E 0), .int a1, .int a2].toArray below meth c 4 0 0 (MQc E layM below [.ref (ea E 0), .int a1, .int a2].toArray ms (some (.int r9)) t9) 18 [(0, .ref (ea E 0))] [] s4 := by
    intro s4 h
    rw [ej18] at h
    refine r_aload_n X dX9_out_18 0 rfl rfl ?_
    refine r_ldc X dX9_out_19 g_873 ?_
    obtain ⟨u7, s5, e6, h⟩ := bd2_ok h
    refine kX9_errs X (ctX9_errs e6) dX9_out_21 lM_0 g_874 (Nat.le_of_ble_eq_true rfl) (Nat.le_of_ble_eq_true rfl) ?_
    exact s_iret X hlk hr dX9_out_24 h
  refine r_if_eq X 18 dX9_out_5 (by decide) (fun c29 => ?_) (fun c29 => ?_)
  · rw [if_pos c29] at h
    refine r_sub (L' := [(0, .ref (ea E 0))]) [0] rfl ?_
    exact hj18 _ h
  · rw [if_neg c29] at h
    refine r_iload_n X dX9_out_8 2 rfl rfl ?_
    refine r_iconst X dX9_out_9 (v := 0) (by decide) ?_
    refine r_bipush X dX9_out_10 (v := 99) (by decide) ?_
    obtain ⟨u10, s8, e9, h⟩ := bd2_ok h
    refine kX9_in X (ctX9_in e9) dX9_out_12 g_866 (Nat.le_of_ble_eq_true rfl) (Nat.le_of_ble_eq_true rfl) ?_
    refine r_if_ne X 25 dX9_out_15 (by decide) (fun c28 => ?_) (fun c28 => ?_)
    · rw [if_neg c28] at h
      refine r_aload_n X dX9_out_25 0 rfl rfl ?_
      refine r_aload_n X dX9_out_26 0 rfl rfl ?_
      refine r_getr X dX9_out_27 i_X9 v_X9 lM_0 0 rfl (Nat.le_of_ble_eq_true rfl) g_774 ?_
      refine r_aload_n X dX9_out_30 0 rfl rfl ?_
      refine r_getr X dX9_out_31 i_X9 v_X9 lM_0 2 rfl (Nat.le_of_ble_eq_true rfl) g_776 ?_
      obtain ⟨s11, e12, h⟩ := bd1_ok h
      refine kX9_moveAll X (ctX9_moveAll lM_1 lM_3 e12) dX9_out_34 lM_0 g_1027 (Nat.le_of_ble_eq_true rfl) (Nat.le_of_ble_eq_true rfl) ?_
      refine r_iconst X dX9_out_37 (v := 0) (by decide) ?_
      refine r_istore_n (L' := [(0, .ref (ea E 0)), (1, .int a1), (2, .int a2), (3, .int 0)]) X dX9_out_38 [1, 2, 3, 0] rfl rfl (Nat.le_of_ble_eq_true rfl) ?_
      obtain ⟨v21, s20, eo, h⟩ := bd2_ok h
      refine LX9_out_39 X FU _ _ _ _ eo ?_
      refine r_aload_n X dX9_out_65 0 rfl rfl ?_
      refine r_aload_n X dX9_out_66 0 rfl rfl ?_
      refine r_getr X dX9_out_67 i_X9 v_X9 lM_0 2 rfl (Nat.le_of_ble_eq_true rfl) g_776 ?_
      refine r_aload_n X dX9_out_70 0 rfl rfl ?_
      refine r_getr X dX9_out_71 i_X9 v_X9 lM_0 0 rfl (Nat.le_of_ble_eq_true rfl) g_774 ?_
      obtain ⟨s22, e23, h⟩ := bd1_ok h
      refine kX9_moveAll X (ctX9_moveAll lM_3 lM_1 e23) dX9_out_74 lM_0 g_1027 (Nat.le_of_ble_eq_true rfl) (Nat.le_of_ble_eq_true rfl) ?_
      refine r_iload_n X dX9_out_77 1 rfl rfl ?_
      refine r_bipush X dX9_out_78 (v := 60) (by decide) ?_
      refine r_icmp_le X 92 dX9_out_80 (by decide) (fun c27 => ?_) (fun c27 => ?_)
      · rw [if_pos c27] at h
        refine r_iload_n X dX9_out_92 1 rfl rfl ?_
        exact s_iret X hlk hr dX9_out_93 h
      · rw [if_neg c27] at h
        refine r_aload_n X dX9_out_83 0 rfl rfl ?_
        refine r_ldc X dX9_out_84 g_1077 ?_
        obtain ⟨u26, s24, e25, h⟩ := bd2_ok h
        refine kX9_errs X (ctX9_errs e25) dX9_out_86 lM_0 g_874 (Nat.le_of_ble_eq_true rfl) (Nat.le_of_ble_eq_true rfl) ?_
        refine r_goto X 93 dX9_out_89 (by decide) ?_
        exact s_iret X hlk hr dX9_out_93 h
    · rw [if_pos c28] at h
      refine r_sub (L' := [(0, .ref (ea E 0))]) [0] rfl ?_
      exact hj18 _ h
/-! X9_first -/
theorem nX9_first : yX9_first.cls ≠ "java/lang/invoke/MethodHandle" ∧ yX9_first.cls ≠ "java/lang/invoke/VarHandle" ∧ (parseMethodDescriptor yX9_first.desc).map (fun d => d.parameters.length) = some 1 := by decide +kernel
theorem kX9_first {l : Launch} {E : EE} {p : Program} {e : Env} {ms : State} {m : MethodId} {args : Array Value} {below : List Frame} {meth : Method} {c : Code} {cc : ByteArray} {own : String} {nL pc idx d D : Nat} {Q : State → Prop} {L : List (Nat × Value)} {rest : List Value} {σ τ : St} {a1 : Int32} {r : Int32} {fl : List (Option Nat)} (X : Cx E layM p ms m args c cc own nL) (hM : Ct l E layM yX9_first cX9_first 4 (some .int) d [.ref (ea E 0), .int a1] σ (some (.int r)) τ) (hd : decode cc pc = .ok (.invokevirtual idx, 3)) (hlay : layM[0]? = some (.inl (8, fl))) (w1 : Cond.methodLink own idx yX9_first ∈ gw) (hR : d + 1 ≤ D) (hrs : (rest.map fun v => v.category).sum ≤ 8) (k : AW E layM p l e (rmD D) ms m args below meth c nL 0 0 Q (pc + 3) L (.int r :: rest) τ) : AW E layM p l e (rmD D) ms m args below meth c nL 0 0 Q pc L (.int a1 :: .ref (ea E 0) :: rest) σ :=
  s_callV X [.int a1] rest hM hd v_X9 hlay w1 g_1079 g_1080 g_77 g_1081 nX9_first rfl rfl hrs (Nat.le_of_ble_eq_true rfl) hR k
def fX9_first_34 (a1 : Int32) : Nat → Int32 → St → Option (Int32 × St)
  | 0, _, _ => none
  | n + 1, a2, s0 =>
    if 60 < a2 then
    some (a2, s0)
    else
    if (s0 0 16) = 0 then
    bd1 (fX9_oneDay  s0) fun s8 =>
    bd1 (fX9_findHeartless  s8) fun s10 =>
    fX9_first_34 a1 n (a2 + 1) s10
    else
    some (a2, s0)
def fX9_first_88 (a1 : Int32) (a2 : Int32) : Nat → Int32 → St → Option (Int32 × St)
  | 0, _, _ => none
  | n + 1, a3, s0 =>
    if ((shr (s0 0 16) a3) &&& 1) = 0 then
    fX9_first_88 a1 a2 n (a3 + 1) s0
    else
    some (a3, s0)
def fX9_first (a1 : Int32) (s0 : St) : Option (Int32 × St) :=
    bd2 (fX9_in a1 0 1 s0) fun u3 s1 =>
    if u3 = 0 then
    bd2 (fX9_errs (-1000000001) s1) fun u28 s26 =>
    some (u28, s26)
    else
    bd1 (fX9_moveAll 1 257 3 257 s1) fun s4 =>
    bd1 (fX9_findHeartless  s4) fun s6 =>
    bd2 (fX9_first_34 a1 FU 0 s6) fun v15 s14 =>
    bd1 (fX9_moveAll 3 257 1 257 s14) fun s16 =>
    if v15 ≤ 60 then
    bd2 (fX9_first_88 a1 v15 FU 0 s16) fun v20 s19 =>
    if a1 = 0 then
    some (v15, s19)
    else
    some (v20, s19)
    else
    bd2 (fX9_errs (-1000000002) s16) fun u24 s22 =>
    some (u24, s22)
set_option maxHeartbeats 4000000 in
set_option maxRecDepth 100000 in
theorem LX9_first_34 {l : Launch} {E : EE} {p : Program} {e : Env} {ms : State} {m : MethodId} {args : Array Value} {below : List Frame} {meth : Method} {c : Code} {a1 : Int32} {Q : State → Prop} (X : Cx E layM p ms m args c cX9_first RX9 4) : ∀ (n : Nat) (a2 : Int32) (s0 : St) (q2 : Int32) (t8 : St), fX9_first_34 a1 n a2 s0 = some (q2, t8) → AW E layM p l e (rmD 110) ms m args below meth c 4 0 0 Q 61 [(0, .ref (ea E 0)), (1, .int a1), (2, .int q2)] [] t8 → AW E layM p l e (rmD 110) ms m args below meth c 4 0 0 Q 34 [(0, .ref (ea E 0)), (1, .int a1), (2, .int a2)] [] s0 := by
  intro n
  induction n with
  | zero =>
    intro a2 s0 q2 t8 h hE
    cases h
  | succ n ih =>
    intro a2 s0 q2 t8 h hE
    rw [fX9_first_34] at h
    refine r_iload_n X dX9_first_34 2 rfl rfl ?_
    refine r_bipush X dX9_first_35 (v := 60) (by decide) ?_
    refine r_icmp_gt X 61 dX9_first_37 (by decide) (fun c13 => ?_) (fun c13 => ?_)
    · rw [if_pos c13] at h
      cases h
      exact hE
    · rw [if_neg c13] at h
      refine r_aload_n X dX9_first_40 0 rfl rfl ?_
      refine r_geti X dX9_first_41 i_X9 v_X9 lM_0 16 rfl (Nat.le_of_ble_eq_true rfl) g_790 ?_
      refine r_if_ne X 61 dX9_first_44 (by decide) (fun c12 => ?_) (fun c12 => ?_)
      · rw [if_neg c12] at h
        cases h
        exact hE
      · rw [if_pos c12] at h
        refine r_aload_n X dX9_first_47 0 rfl rfl ?_
        obtain ⟨s8, e9, h⟩ := bd1_ok h
        refine kX9_oneDay X (ctX9_oneDay e9) dX9_first_48 lM_0 g_1040 (Nat.le_of_ble_eq_true rfl) (Nat.le_of_ble_eq_true rfl) ?_
        refine r_aload_n X dX9_first_51 0 rfl rfl ?_
        obtain ⟨s10, e11, h⟩ := bd1_ok h
        refine kX9_findHeartless X (ctX9_findHeartless e11) dX9_first_52 lM_0 g_1052 (Nat.le_of_ble_eq_true rfl) (Nat.le_of_ble_eq_true rfl) ?_
        refine r_iinc (L' := [(0, .ref (ea E 0)), (1, .int a1), (2, .int (a2 + 1))]) (v := a2 + 1) X dX9_first_55 2 rfl rfl [1, 2, 0] rfl (Nat.le_of_ble_eq_true rfl) ?_
        refine r_goto X 34 dX9_first_58 (by decide) ?_
        exact ih _ _ _ _ h hE
set_option maxHeartbeats 4000000 in
set_option maxRecDepth 100000 in
theorem LX9_first_88 {l : Launch} {E : EE} {p : Program} {e : Env} {ms : State} {m : MethodId} {args : Array Value} {below : List Frame} {meth : Method} {c : Code} {a1 : Int32} {a2 : Int32} {Q : State → Prop} (X : Cx E layM p ms m args c cX9_first RX9 4) : ∀ (n : Nat) (a3 : Int32) (s0 : St) (q3 : Int32) (t8 : St), fX9_first_88 a1 a2 n a3 s0 = some (q3, t8) → AW E layM p l e (rmD 110) ms m args below meth c 4 0 0 Q 105 [(1, .int a1), (2, .int a2), (3, .int q3)] [] t8 → AW E layM p l e (rmD 110) ms m args below meth c 4 0 0 Q 88 [(0, .ref (ea E 0)), (1, .int a1), (2, .int a2), (3, .int a3)] [] s0 := by
  intro n
  induction n with
  | zero =>
    intro a3 s0 q3 t8 h hE
    cases h
  | succ n ih =>
    intro a3 s0 q3 t8 h hE
    rw [fX9_first_88] at h
    refine r_aload_n X dX9_first_88 0 rfl rfl ?_
    refine r_geti X dX9_first_89 i_X9 v_X9 lM_0 16 rfl (Nat.le_of_ble_eq_true rfl) g_790 ?_
    refine r_iload_n X dX9_first_92 3 rfl rfl ?_
    refine s_ishr X dX9_first_93 ?_
    refine r_iconst X dX9_first_94 (v := 1) (by decide) ?_
    refine r_iand X dX9_first_95 ?_
    refine r_if_ne X 105 dX9_first_96 (by decide) (fun c18 => ?_) (fun c18 => ?_)
    · rw [if_neg c18] at h
      refine r_sub (L' := [(1, .int a1), (2, .int a2), (3, .int a3)]) [1, 2, 3] rfl ?_
      cases h
      exact hE
    · rw [if_pos c18] at h
      refine r_iinc (L' := [(0, .ref (ea E 0)), (1, .int a1), (2, .int a2), (3, .int (a3 + 1))]) (v := a3 + 1) X dX9_first_99 3 rfl rfl [1, 2, 3, 0] rfl (Nat.le_of_ble_eq_true rfl) ?_
      refine r_goto X 88 dX9_first_102 (by decide) ?_
      exact ih _ _ _ _ h hE
set_option maxHeartbeats 4000000 in
set_option maxRecDepth 100000 in
theorem ctX9_first {l : Launch} {E : EE} {a1 : Int32} {s0 : St} {r9 : Int32} {t9 : St}  (h : fX9_first a1 s0 = some (r9, t9)) : Ct l E layM yX9_first cX9_first 4 (some .int) 110 [.ref (ea E 0), .int a1] s0 (some (.int r9)) t9 := by
  refine Ct.of (by decide) (Nat.le_of_ble_eq_true rfl) ?_
  intro p e ms m below meth c X hlk hr
  have X : Cx E layM p ms m [.ref (ea E 0), .int a1].toArray c cX9_first RX9 4 := X
  refine r_sub (L' := [(0, .ref (ea E 0)), (1, .int a1)]) [0, 1] rfl ?_
  unfold fX9_first at h
  refine r_iload_n X dX9_first_0 1 rfl rfl ?_
  refine r_iconst X dX9_first_1 (v := 0) (by decide) ?_
  refine r_iconst X dX9_first_2 (v := 1) (by decide) ?_
  obtain ⟨u3, s1, e2, h⟩ := bd2_ok h
  refine kX9_in X (ctX9_in e2) dX9_first_3 g_866 (Nat.le_of_ble_eq_true rfl) (Nat.le_of_ble_eq_true rfl) ?_
  refine r_if_ne X 16 dX9_first_6 (by decide) (fun c29 => ?_) (fun c29 => ?_)
  · rw [if_neg c29] at h
    refine r_aload_n X dX9_first_16 0 rfl rfl ?_
    refine r_aload_n X dX9_first_17 0 rfl rfl ?_
    refine r_getr X dX9_first_18 i_X9 v_X9 lM_0 0 rfl (Nat.le_of_ble_eq_true rfl) g_774 ?_
    refine r_aload_n X dX9_first_21 0 rfl rfl ?_
    refine r_getr X dX9_first_22 i_X9 v_X9 lM_0 2 rfl (Nat.le_of_ble_eq_true rfl) g_776 ?_
    obtain ⟨s4, e5, h⟩ := bd1_ok h
    refine kX9_moveAll X (ctX9_moveAll lM_1 lM_3 e5) dX9_first_25 lM_0 g_1027 (Nat.le_of_ble_eq_true rfl) (Nat.le_of_ble_eq_true rfl) ?_
    refine r_iconst X dX9_first_28 (v := 0) (by decide) ?_
    refine r_istore_n (L' := [(0, .ref (ea E 0)), (1, .int a1), (2, .int 0)]) X dX9_first_29 [1, 2, 0] rfl rfl (Nat.le_of_ble_eq_true rfl) ?_
    refine r_aload_n X dX9_first_30 0 rfl rfl ?_
    obtain ⟨s6, e7, h⟩ := bd1_ok h
    refine kX9_findHeartless X (ctX9_findHeartless e7) dX9_first_31 lM_0 g_1052 (Nat.le_of_ble_eq_true rfl) (Nat.le_of_ble_eq_true rfl) ?_
    obtain ⟨v15, s14, eo, h⟩ := bd2_ok h
    refine LX9_first_34 X FU _ _ _ _ eo ?_
    refine r_aload_n X dX9_first_61 0 rfl rfl ?_
    refine r_aload_n X dX9_first_62 0 rfl rfl ?_
    refine r_getr X dX9_first_63 i_X9 v_X9 lM_0 2 rfl (Nat.le_of_ble_eq_true rfl) g_776 ?_
    refine r_aload_n X dX9_first_66 0 rfl rfl ?_
    refine r_getr X dX9_first_67 i_X9 v_X9 lM_0 0 rfl (Nat.le_of_ble_eq_true rfl) g_774 ?_
    obtain ⟨s16, e17, h⟩ := bd1_ok h
    refine kX9_moveAll X (ctX9_moveAll lM_3 lM_1 e17) dX9_first_70 lM_0 g_1027 (Nat.le_of_ble_eq_true rfl) (Nat.le_of_ble_eq_true rfl) ?_
    refine r_iload_n X dX9_first_73 2 rfl rfl ?_
    refine r_bipush X dX9_first_74 (v := 60) (by decide) ?_
    refine r_icmp_le X 86 dX9_first_76 (by decide) (fun c25 => ?_) (fun c25 => ?_)
    · rw [if_pos c25] at h
      refine r_iconst X dX9_first_86 (v := 0) (by decide) ?_
      refine r_istore_n (L' := [(0, .ref (ea E 0)), (1, .int a1), (2, .int v15), (3, .int 0)]) X dX9_first_87 [1, 2, 3, 0] rfl rfl (Nat.le_of_ble_eq_true rfl) ?_
      obtain ⟨v20, s19, eo, h⟩ := bd2_ok h
      refine LX9_first_88 X FU _ _ _ _ eo ?_
      refine r_iload_n X dX9_first_105 0 rfl rfl ?_
      refine r_if_ne X 113 dX9_first_106 (by decide) (fun c21 => ?_) (fun c21 => ?_)
      · rw [if_neg c21] at h
        refine r_iload_n X dX9_first_113 2 rfl rfl ?_
        exact s_iret X hlk hr dX9_first_114 h
      · rw [if_pos c21] at h
        refine r_iload_n X dX9_first_109 1 rfl rfl ?_
        refine r_goto X 114 dX9_first_110 (by decide) ?_
        exact s_iret X hlk hr dX9_first_114 h
    · rw [if_neg c25] at h
      refine r_aload_n X dX9_first_79 0 rfl rfl ?_
      refine r_ldc X dX9_first_80 g_1077 ?_
      obtain ⟨u24, s22, e23, h⟩ := bd2_ok h
      refine kX9_errs X (ctX9_errs e23) dX9_first_82 lM_0 g_874 (Nat.le_of_ble_eq_true rfl) (Nat.le_of_ble_eq_true rfl) ?_
      exact s_iret X hlk hr dX9_first_85 h
  · rw [if_pos c29] at h
    refine r_aload_n X dX9_first_9 0 rfl rfl ?_
    refine r_ldc X dX9_first_10 g_873 ?_
    obtain ⟨u28, s26, e27, h⟩ := bd2_ok h
    refine kX9_errs X (ctX9_errs e27) dX9_first_12 lM_0 g_874 (Nat.le_of_ble_eq_true rfl) (Nat.le_of_ble_eq_true rfl) ?_
    exact s_iret X hlk hr dX9_first_15 h
/-! X9_sumOf -/
theorem nX9_sumOf : yX9_sumOf.cls ≠ "java/lang/invoke/MethodHandle" ∧ yX9_sumOf.cls ≠ "java/lang/invoke/VarHandle" ∧ (parseMethodDescriptor yX9_sumOf.desc).map (fun d => d.parameters.length) = some 1 := by decide +kernel
theorem kX9_sumOf {l : Launch} {E : EE} {p : Program} {e : Env} {ms : State} {m : MethodId} {args : Array Value} {below : List Frame} {meth : Method} {c : Code} {cc : ByteArray} {own : String} {nL pc idx d D : Nat} {Q : State → Prop} {L : List (Nat × Value)} {rest : List Value} {σ τ : St} {a1 : Int32} {r : Int32} {fl : List (Option Nat)} (X : Cx E layM p ms m args c cc own nL) (hM : Ct l E layM yX9_sumOf cX9_sumOf 4 (some .int) d [.ref (ea E 0), .int a1] σ (some (.int r)) τ) (hd : decode cc pc = .ok (.invokevirtual idx, 3)) (hlay : layM[0]? = some (.inl (8, fl))) (w1 : Cond.methodLink own idx yX9_sumOf ∈ gw) (hR : d + 1 ≤ D) (hrs : (rest.map fun v => v.category).sum ≤ 8) (k : AW E layM p l e (rmD D) ms m args below meth c nL 0 0 Q (pc + 3) L (.int r :: rest) τ) : AW E layM p l e (rmD D) ms m args below meth c nL 0 0 Q pc L (.int a1 :: .ref (ea E 0) :: rest) σ :=
  s_callV X [.int a1] rest hM hd v_X9 hlay w1 g_1100 g_55 g_77 g_1101 nX9_sumOf rfl rfl hrs (Nat.le_of_ble_eq_true rfl) hR k
def fX9_sumOf_4 (a1 : Int32) : Nat → Int32 → Int32 → St → Option (Int32 × St)
  | 0, _, _, _ => none
  | n + 1, a2, a3, s0 =>
    bd1 (ald s0 1 257 2) fun v2 =>
    if v2 ≤ a3 then
    some (a2, s0)
    else
    bd2 (fX9_its a3 a1 s0) fun u5 s3 =>
    fX9_sumOf_4 a1 n (a2 + u5) (a3 + 1) s3
def fX9_sumOf (a1 : Int32) (s0 : St) : Option (Int32 × St) :=
    bd2 (fX9_sumOf_4 a1 FU 0 0 s0) fun v8 s7 =>
    some (v8, s7)
set_option maxHeartbeats 4000000 in
set_option maxRecDepth 100000 in
theorem LX9_sumOf_4 {l : Launch} {E : EE} {p : Program} {e : Env} {ms : State} {m : MethodId} {args : Array Value} {below : List Frame} {meth : Method} {c : Code} {a1 : Int32} {Q : State → Prop} (X : Cx E layM p ms m args c cX9_sumOf RX9 4) : ∀ (n : Nat) (a2 : Int32) (a3 : Int32) (s0 : St) (q2 : Int32) (t8 : St), fX9_sumOf_4 a1 n a2 a3 s0 = some (q2, t8) → AW E layM p l e (rmD 1) ms m args below meth c 4 0 0 Q 29 [(2, .int q2)] [] t8 → AW E layM p l e (rmD 1) ms m args below meth c 4 0 0 Q 4 [(0, .ref (ea E 0)), (1, .int a1), (2, .int a2), (3, .int a3)] [] s0 := by
  intro n
  induction n with
  | zero =>
    intro a2 a3 s0 q2 t8 h hE
    cases h
  | succ n ih =>
    intro a2 a3 s0 q2 t8 h hE
    rw [fX9_sumOf_4] at h
    refine r_iload_n X dX9_sumOf_4 3 rfl rfl ?_
    refine r_aload_n X dX9_sumOf_5 0 rfl rfl ?_
    refine r_getr X dX9_sumOf_6 i_X9 v_X9 lM_0 0 rfl (Nat.le_of_ble_eq_true rfl) g_774 ?_
    refine r_iconst X dX9_sumOf_9 (v := 2) (by decide) ?_
    obtain ⟨g1, v2, ev2, h⟩ := ld_ok h
    refine s_iald X dX9_sumOf_10 lM_1 g1 ev2 ?_
    refine r_icmp_ge X 29 dX9_sumOf_11 (by decide) (fun c6 => ?_) (fun c6 => ?_)
    · rw [if_pos c6] at h
      refine r_sub (L' := [(2, .int a2)]) [2] rfl ?_
      cases h
      exact hE
    · rw [if_neg c6] at h
      refine r_iload_n X dX9_sumOf_14 2 rfl rfl ?_
      refine r_aload_n X dX9_sumOf_15 0 rfl rfl ?_
      refine r_iload_n X dX9_sumOf_16 3 rfl rfl ?_
      refine r_iload_n X dX9_sumOf_17 1 rfl rfl ?_
      obtain ⟨u5, s3, e4, h⟩ := bd2_ok h
      refine kX9_its X (ctX9_its e4) dX9_sumOf_18 lM_0 g_916 (Nat.le_of_ble_eq_true rfl) (Nat.le_of_ble_eq_true rfl) ?_
      refine r_iadd X dX9_sumOf_21 ?_
      refine r_istore_n (L' := [(0, .ref (ea E 0)), (1, .int a1), (2, .int (a2 + u5)), (3, .int a3)]) X dX9_sumOf_22 [1, 2, 0, 3] rfl rfl (Nat.le_of_ble_eq_true rfl) ?_
      refine r_iinc (L' := [(0, .ref (ea E 0)), (1, .int a1), (2, .int (a2 + u5)), (3, .int (a3 + 1))]) (v := a3 + 1) X dX9_sumOf_23 3 rfl rfl [1, 2, 3, 0] rfl (Nat.le_of_ble_eq_true rfl) ?_
      refine r_goto X 4 dX9_sumOf_26 (by decide) ?_
      exact ih _ _ _ _ _ h hE
set_option maxHeartbeats 4000000 in
set_option maxRecDepth 100000 in
theorem ctX9_sumOf {l : Launch} {E : EE} {a1 : Int32} {s0 : St} {r9 : Int32} {t9 : St}  (h : fX9_sumOf a1 s0 = some (r9, t9)) : Ct l E layM yX9_sumOf cX9_sumOf 4 (some .int) 1 [.ref (ea E 0), .int a1] s0 (some (.int r9)) t9 := by
  refine Ct.of (by decide) (Nat.le_of_ble_eq_true rfl) ?_
  intro p e ms m below meth c X hlk hr
  have X : Cx E layM p ms m [.ref (ea E 0), .int a1].toArray c cX9_sumOf RX9 4 := X
  refine r_sub (L' := [(0, .ref (ea E 0)), (1, .int a1)]) [0, 1] rfl ?_
  unfold fX9_sumOf at h
  refine r_iconst X dX9_sumOf_0 (v := 0) (by decide) ?_
  refine r_istore_n (L' := [(0, .ref (ea E 0)), (1, .int a1), (2, .int 0)]) X dX9_sumOf_1 [1, 2, 0] rfl rfl (Nat.le_of_ble_eq_true rfl) ?_
  refine r_iconst X dX9_sumOf_2 (v := 0) (by decide) ?_
  refine r_istore_n (L' := [(0, .ref (ea E 0)), (1, .int a1), (2, .int 0), (3, .int 0)]) X dX9_sumOf_3 [1, 2, 3, 0] rfl rfl (Nat.le_of_ble_eq_true rfl) ?_
  obtain ⟨v8, s7, eo, h⟩ := bd2_ok h
  refine LX9_sumOf_4 X FU _ _ _ _ _ eo ?_
  refine r_iload_n X dX9_sumOf_29 0 rfl rfl ?_
  exact s_iret X hlk hr dX9_sumOf_30 h
/-! X9_knownBehind -/
theorem nX9_knownBehind : yX9_knownBehind.cls ≠ "java/lang/invoke/MethodHandle" ∧ yX9_knownBehind.cls ≠ "java/lang/invoke/VarHandle" ∧ (parseMethodDescriptor yX9_knownBehind.desc).map (fun d => d.parameters.length) = some 1 := by decide +kernel
theorem kX9_knownBehind {l : Launch} {E : EE} {p : Program} {e : Env} {ms : State} {m : MethodId} {args : Array Value} {below : List Frame} {meth : Method} {c : Code} {cc : ByteArray} {own : String} {nL pc idx d D : Nat} {Q : State → Prop} {L : List (Nat × Value)} {rest : List Value} {σ τ : St} {a1 : Int32} {r : Int32} {fl : List (Option Nat)} (X : Cx E layM p ms m args c cc own nL) (hM : Ct l E layM yX9_knownBehind cX9_knownBehind 3 (some .int) d [.ref (ea E 0), .int a1] σ (some (.int r)) τ) (hd : decode cc pc = .ok (.invokevirtual idx, 3)) (hlay : layM[0]? = some (.inl (8, fl))) (w1 : Cond.methodLink own idx yX9_knownBehind ∈ gw) (hR : d + 1 ≤ D) (hrs : (rest.map fun v => v.category).sum ≤ 8) (k : AW E layM p l e (rmD D) ms m args below meth c nL 0 0 Q (pc + 3) L (.int r :: rest) τ) : AW E layM p l e (rmD D) ms m args below meth c nL 0 0 Q pc L (.int a1 :: .ref (ea E 0) :: rest) σ :=
  s_callV X [.int a1] rest hM hd v_X9 hlay w1 g_1096 g_54 g_77 g_1097 nX9_knownBehind rfl rfl hrs (Nat.le_of_ble_eq_true rfl) hR k
def fX9_knownBehind (a1 : Int32) (s0 : St) : Option (Int32 × St) :=
    bd1 (fX9_passes a1 s0) fun s1 =>
    bd2 (fX9_sumOf 4 s1) fun u5 s3 =>
    bd1 (fX9_moveAll 3 257 1 257 s3) fun s6 =>
    some (u5, s6)
set_option maxHeartbeats 4000000 in
set_option maxRecDepth 100000 in
theorem ctX9_knownBehind {l : Launch} {E : EE} {a1 : Int32} {s0 : St} {r9 : Int32} {t9 : St}  (h : fX9_knownBehind a1 s0 = some (r9, t9)) : Ct l E layM yX9_knownBehind cX9_knownBehind 3 (some .int) 111 [.ref (ea E 0), .int a1] s0 (some (.int r9)) t9 := by
  refine Ct.of (by decide) (Nat.le_of_ble_eq_true rfl) ?_
  intro p e ms m below meth c X hlk hr
  have X : Cx E layM p ms m [.ref (ea E 0), .int a1].toArray c cX9_knownBehind RX9 3 := X
  refine r_sub (L' := [(0, .ref (ea E 0)), (1, .int a1)]) [0, 1] rfl ?_
  unfold fX9_knownBehind at h
  refine r_aload_n X dX9_knownBehind_0 0 rfl rfl ?_
  refine r_iload_n X dX9_knownBehind_1 1 rfl rfl ?_
  obtain ⟨s1, e2, h⟩ := bd1_ok h
  refine kX9_passes X (ctX9_passes e2) dX9_knownBehind_2 lM_0 g_1036 (Nat.le_of_ble_eq_true rfl) (Nat.le_of_ble_eq_true rfl) ?_
  refine r_aload_n X dX9_knownBehind_5 0 rfl rfl ?_
  refine r_iconst X dX9_knownBehind_6 (v := 4) (by decide) ?_
  obtain ⟨u5, s3, e4, h⟩ := bd2_ok h
  refine kX9_sumOf X (ctX9_sumOf e4) dX9_knownBehind_7 lM_0 g_1098 (Nat.le_of_ble_eq_true rfl) (Nat.le_of_ble_eq_true rfl) ?_
  refine r_istore_n (L' := [(0, .ref (ea E 0)), (2, .int u5)]) X dX9_knownBehind_10 [1, 0] rfl rfl (Nat.le_of_ble_eq_true rfl) ?_
  refine r_aload_n X dX9_knownBehind_11 0 rfl rfl ?_
  refine r_aload_n X dX9_knownBehind_12 0 rfl rfl ?_
  refine r_getr X dX9_knownBehind_13 i_X9 v_X9 lM_0 2 rfl (Nat.le_of_ble_eq_true rfl) g_776 ?_
  refine r_aload_n X dX9_knownBehind_16 0 rfl rfl ?_
  refine r_getr X dX9_knownBehind_17 i_X9 v_X9 lM_0 0 rfl (Nat.le_of_ble_eq_true rfl) g_774 ?_
  obtain ⟨s6, e7, h⟩ := bd1_ok h
  refine kX9_moveAll X (ctX9_moveAll lM_3 lM_1 e7) dX9_knownBehind_20 lM_0 g_1027 (Nat.le_of_ble_eq_true rfl) (Nat.le_of_ble_eq_true rfl) ?_
  refine r_iload_n X dX9_knownBehind_23 1 rfl rfl ?_
  exact s_iret X hlk hr dX9_knownBehind_24 h
/-! X9_isKnown -/
theorem nX9_isKnown : yX9_isKnown.cls ≠ "java/lang/invoke/MethodHandle" ∧ yX9_isKnown.cls ≠ "java/lang/invoke/VarHandle" ∧ (parseMethodDescriptor yX9_isKnown.desc).map (fun d => d.parameters.length) = some 4 := by decide +kernel
theorem kX9_isKnown {l : Launch} {E : EE} {p : Program} {e : Env} {ms : State} {m : MethodId} {args : Array Value} {below : List Frame} {meth : Method} {c : Code} {cc : ByteArray} {own : String} {nL pc idx d D : Nat} {Q : State → Prop} {L : List (Nat × Value)} {rest : List Value} {σ τ : St} {a1 : Int32} {a2 : Int32} {a3 : Int32} {a4 : Int32} {r : Int32} {fl : List (Option Nat)} (X : Cx E layM p ms m args c cc own nL) (hM : Ct l E layM yX9_isKnown cX9_isKnown 6 (some .boolean) d [.ref (ea E 0), .int a1, .int a2, .int a3, .int a4] σ (some (.int r)) τ) (hd : decode cc pc = .ok (.invokevirtual idx, 3)) (hlay : layM[0]? = some (.inl (8, fl))) (w1 : Cond.methodLink own idx yX9_isKnown ∈ gw) (hR : d + 1 ≤ D) (hrs : (rest.map fun v => v.category).sum ≤ 8) (k : AW E layM p l e (rmD D) ms m args below meth c nL 0 0 Q (pc + 3) L (.int r :: rest) τ) : AW E layM p l e (rmD D) ms m args below meth c nL 0 0 Q pc L (.int a4 :: .int a3 :: .int a2 :: .int a1 :: .ref (ea E 0) :: rest) σ :=
  s_callV X [.int a1, .int a2, .int a3, .int a4] rest hM hd v_X9 hlay w1 g_1088 g_53 g_77 g_1089 nX9_isKnown rfl rfl hrs (Nat.le_of_ble_eq_true rfl) hR k
def fX9_isKnown (a1 : Int32) (a2 : Int32) (a3 : Int32) (a4 : Int32) (s0 : St) : Option (Int32 × St) :=
    bd1 (ast s0 1 257 3 a2) fun s2 =>
    bd1 (fX9_passes a3 s2) fun s3 =>
    bd2 (fX9_its a1 4 s3) fun u7 s5 =>
    jn (fun (w8 : Int32) =>
    bd1 (fX9_moveAll 3 257 1 257 s5) fun s9 =>
    gb w8 <| some (w8, s9)) fun j28 =>
    if u7 < a4 then
    j28 0
    else
    j28 1
set_option maxHeartbeats 4000000 in
set_option maxRecDepth 100000 in
theorem ctX9_isKnown {l : Launch} {E : EE} {a1 : Int32} {a2 : Int32} {a3 : Int32} {a4 : Int32} {s0 : St} {r9 : Int32} {t9 : St}  (h : fX9_isKnown a1 a2 a3 a4 s0 = some (r9, t9)) : Ct l E layM yX9_isKnown cX9_isKnown 6 (some .boolean) 111 [.ref (ea E 0), .int a1, .int a2, .int a3, .int a4] s0 (some (.int r9)) t9 := by
  refine Ct.of (by decide) (Nat.le_of_ble_eq_true rfl) ?_
  intro p e ms m below meth c X hlk hr
  have X : Cx E layM p ms m [.ref (ea E 0), .int a1, .int a2, .int a3, .int a4].toArray c cX9_isKnown RX9 6 := X
  refine r_sub (L' := [(0, .ref (ea E 0)), (1, .int a1), (2, .int a2), (3, .int a3), (4, .int a4)]) [0, 1, 2, 3, 4] rfl ?_
  unfold fX9_isKnown at h
  refine r_aload_n X dX9_isKnown_0 0 rfl rfl ?_
  refine r_getr X dX9_isKnown_1 i_X9 v_X9 lM_0 0 rfl (Nat.le_of_ble_eq_true rfl) g_774 ?_
  refine r_iconst X dX9_isKnown_4 (v := 3) (by decide) ?_
  refine r_iload_n X dX9_isKnown_5 2 rfl rfl ?_
  obtain ⟨g1, s2, es2, h⟩ := as_ok h
  refine s_iast X dX9_isKnown_6 lM_1 g1 es2 ?_
  refine r_aload_n X dX9_isKnown_7 0 rfl rfl ?_
  refine r_iload_n X dX9_isKnown_8 3 rfl rfl ?_
  obtain ⟨s3, e4, h⟩ := bd1_ok h
  refine kX9_passes X (ctX9_passes e4) dX9_isKnown_9 lM_0 g_1036 (Nat.le_of_ble_eq_true rfl) (Nat.le_of_ble_eq_true rfl) ?_
  refine r_aload_n X dX9_isKnown_12 0 rfl rfl ?_
  refine r_iload_n X dX9_isKnown_13 1 rfl rfl ?_
  refine r_iconst X dX9_isKnown_14 (v := 4) (by decide) ?_
  obtain ⟨u7, s5, e6, h⟩ := bd2_ok h
  refine kX9_its X (ctX9_its e6) dX9_isKnown_15 lM_0 g_916 (Nat.le_of_ble_eq_true rfl) (Nat.le_of_ble_eq_true rfl) ?_
  refine r_iload X dX9_isKnown_18 4 rfl ?_
  obtain ⟨j28, ej28, h⟩ := jn1_ok h
  have hj28 : ∀ (w8 : Int32), j28 w8 = some (r9, t9) → AW E layM p l e (rmD 111) ms m [.ref (ea E 0), .int a1, .int a2, .int a3, .int a4].toArray below meth c 6 0 0 (MQc E layM below [.ref (ea E 0), .int a1, .int a2, .int a3, .int a4].toArray ms (some (.int r9)) t9) 28 [(0, .ref (ea E 0))] [.int w8] s5 := by
    intro w8 h
    rw [ej28] at h
    refine r_istore (L' := [(0, .ref (ea E 0)), (5, .int w8)]) X dX9_isKnown_28 [1, 0] rfl (Nat.le_of_ble_eq_true rfl) ?_
    refine r_aload_n X dX9_isKnown_30 0 rfl rfl ?_
    refine r_aload_n X dX9_isKnown_31 0 rfl rfl ?_
    refine r_getr X dX9_isKnown_32 i_X9 v_X9 lM_0 2 rfl (Nat.le_of_ble_eq_true rfl) g_776 ?_
    refine r_aload_n X dX9_isKnown_35 0 rfl rfl ?_
    refine r_getr X dX9_isKnown_36 i_X9 v_X9 lM_0 0 rfl (Nat.le_of_ble_eq_true rfl) g_774 ?_
    obtain ⟨s9, e10, h⟩ := bd1_ok h
    refine kX9_moveAll X (ctX9_moveAll lM_3 lM_1 e10) dX9_isKnown_39 lM_0 g_1027 (Nat.le_of_ble_eq_true rfl) (Nat.le_of_ble_eq_true rfl) ?_
    refine r_iload X dX9_isKnown_42 1 rfl ?_
    obtain ⟨g11, h⟩ := gb_ok h
    exact s_zret X hlk hr g11.1 dX9_isKnown_44 h
  refine r_icmp_lt X 27 dX9_isKnown_20 (by decide) (fun c12 => ?_) (fun c12 => ?_)
  · rw [if_pos c12] at h
    refine r_iconst X dX9_isKnown_27 (v := 0) (by decide) ?_
    refine r_sub (L' := [(0, .ref (ea E 0))]) [0] rfl ?_
    exact hj28 _ h
  · rw [if_neg c12] at h
    refine r_iconst X dX9_isKnown_23 (v := 1) (by decide) ?_
    refine r_goto X 28 dX9_isKnown_24 (by decide) ?_
    refine r_sub (L' := [(0, .ref (ea E 0))]) [0] rfl ?_
    exact hj28 _ h
/-! X9_roomFor -/
theorem nX9_roomFor : yX9_roomFor.cls ≠ "java/lang/invoke/MethodHandle" ∧ yX9_roomFor.cls ≠ "java/lang/invoke/VarHandle" ∧ (parseMethodDescriptor yX9_roomFor.desc).map (fun d => d.parameters.length) = some 3 := by decide +kernel
theorem kX9_roomFor {l : Launch} {E : EE} {p : Program} {e : Env} {ms : State} {m : MethodId} {args : Array Value} {below : List Frame} {meth : Method} {c : Code} {cc : ByteArray} {own : String} {nL pc idx d D : Nat} {Q : State → Prop} {L : List (Nat × Value)} {rest : List Value} {σ τ : St} {a1 : Int32} {a2 : Int32} {a3 : Int32} {r : Int32} {fl : List (Option Nat)} (X : Cx E layM p ms m args c cc own nL) (hM : Ct l E layM yX9_roomFor cX9_roomFor 5 (some .int) d [.ref (ea E 0), .int a1, .int a2, .int a3] σ (some (.int r)) τ) (hd : decode cc pc = .ok (.invokevirtual idx, 3)) (hlay : layM[0]? = some (.inl (8, fl))) (w1 : Cond.methodLink own idx yX9_roomFor ∈ gw) (hR : d + 1 ≤ D) (hrs : (rest.map fun v => v.category).sum ≤ 8) (k : AW E layM p l e (rmD D) ms m args below meth c nL 0 0 Q (pc + 3) L (.int r :: rest) τ) : AW E layM p l e (rmD D) ms m args below meth c nL 0 0 Q pc L (.int a3 :: .int a2 :: .int a1 :: .ref (ea E 0) :: rest) σ :=
  s_callV X [.int a1, .int a2, .int a3] rest hM hd v_X9 hlay w1 g_1083 g_1084 g_77 g_1085 nX9_roomFor rfl rfl hrs (Nat.le_of_ble_eq_true rfl) hR k
def fX9_roomFor_50 (a1 : Int32) (a2 : Int32) (a3 : Int32) : Nat → Int32 → St → Option (Int32 × St)
  | 0, _, _ => none
  | n + 1, a4, s0 =>
    if 40 < a4 then
    some (a4, s0)
    else
    bd2 (fX9_isKnown a1 a4 a3 a2 s0) fun u18 s16 =>
    if u18 = 0 then
    fX9_roomFor_50 a1 a2 a3 n (a4 + 1) s16
    else
    some (a4, s16)
def fX9_roomFor (a1 : Int32) (a2 : Int32) (a3 : Int32) (s0 : St) : Option (Int32 × St) :=
    bd2 (fX9_isDiner a1 s0) fun u3 s1 =>
    jn (fun (s4 : St) =>
    bd2 (fX9_errs (-1000000001) s4) fun u7 s5 =>
    some (u7, s5)) fun j28 =>
    if u3 = 0 then
    j28 s1
    else
    bd2 (fX9_in a2 0 99 s1) fun u10 s8 =>
    if u10 = 0 then
    j28 s8
    else
    bd2 (fX9_in a3 0 30 s8) fun u13 s11 =>
    if u13 = 0 then
    j28 s11
    else
    bd1 (fX9_moveAll 1 257 3 257 s11) fun s14 =>
    bd2 (fX9_roomFor_50 a1 a2 a3 FU 0 s14) fun v22 s21 =>
    if v22 ≤ 40 then
    some (v22, s21)
    else
    bd2 (fX9_errs (-1000000002) s21) fun u25 s23 =>
    some (u25, s23)
set_option maxHeartbeats 4000000 in
set_option maxRecDepth 100000 in
theorem LX9_roomFor_50 {l : Launch} {E : EE} {p : Program} {e : Env} {ms : State} {m : MethodId} {args : Array Value} {below : List Frame} {meth : Method} {c : Code} {a1 : Int32} {a2 : Int32} {a3 : Int32} {Q : State → Prop} (X : Cx E layM p ms m args c cX9_roomFor RX9 5) : ∀ (n : Nat) (a4 : Int32) (s0 : St) (q4 : Int32) (t8 : St), fX9_roomFor_50 a1 a2 a3 n a4 s0 = some (q4, t8) → AW E layM p l e (rmD 112) ms m args below meth c 5 0 0 Q 75 [(0, .ref (ea E 0)), (4, .int q4)] [] t8 → AW E layM p l e (rmD 112) ms m args below meth c 5 0 0 Q 50 [(0, .ref (ea E 0)), (1, .int a1), (2, .int a2), (3, .int a3), (4, .int a4)] [] s0 := by
  intro n
  induction n with
  | zero =>
    intro a4 s0 q4 t8 h hE
    cases h
  | succ n ih =>
    intro a4 s0 q4 t8 h hE
    rw [fX9_roomFor_50] at h
    refine r_iload X dX9_roomFor_50 4 rfl ?_
    refine r_bipush X dX9_roomFor_52 (v := 40) (by decide) ?_
    refine r_icmp_gt X 75 dX9_roomFor_54 (by decide) (fun c20 => ?_) (fun c20 => ?_)
    · rw [if_pos c20] at h
      refine r_sub (L' := [(0, .ref (ea E 0)), (4, .int a4)]) [0, 4] rfl ?_
      cases h
      exact hE
    · rw [if_neg c20] at h
      refine r_aload_n X dX9_roomFor_57 0 rfl rfl ?_
      refine r_iload_n X dX9_roomFor_58 1 rfl rfl ?_
      refine r_iload X dX9_roomFor_59 4 rfl ?_
      refine r_iload_n X dX9_roomFor_61 3 rfl rfl ?_
      refine r_iload_n X dX9_roomFor_62 2 rfl rfl ?_
      obtain ⟨u18, s16, e17, h⟩ := bd2_ok h
      refine kX9_isKnown X (ctX9_isKnown e17) dX9_roomFor_63 lM_0 g_1086 (Nat.le_of_ble_eq_true rfl) (Nat.le_of_ble_eq_true rfl) ?_
      refine r_if_ne X 75 dX9_roomFor_66 (by decide) (fun c19 => ?_) (fun c19 => ?_)
      · rw [if_neg c19] at h
        refine r_sub (L' := [(0, .ref (ea E 0)), (4, .int a4)]) [0, 4] rfl ?_
        cases h
        exact hE
      · rw [if_pos c19] at h
        refine r_iinc (L' := [(0, .ref (ea E 0)), (1, .int a1), (2, .int a2), (3, .int a3), (4, .int (a4 + 1))]) (v := a4 + 1) X dX9_roomFor_69 4 rfl rfl [1, 2, 3, 4, 0] rfl (Nat.le_of_ble_eq_true rfl) ?_
        refine r_goto X 50 dX9_roomFor_72 (by decide) ?_
        exact ih _ _ _ _ h hE
set_option maxHeartbeats 4000000 in
set_option maxRecDepth 100000 in
theorem ctX9_roomFor {l : Launch} {E : EE} {a1 : Int32} {a2 : Int32} {a3 : Int32} {s0 : St} {r9 : Int32} {t9 : St}  (h : fX9_roomFor a1 a2 a3 s0 = some (r9, t9)) : Ct l E layM yX9_roomFor cX9_roomFor 5 (some .int) 112 [.ref (ea E 0), .int a1, .int a2, .int a3] s0 (some (.int r9)) t9 := by
  refine Ct.of (by decide) (Nat.le_of_ble_eq_true rfl) ?_
  intro p e ms m below meth c X hlk hr
  have X : Cx E layM p ms m [.ref (ea E 0), .int a1, .int a2, .int a3].toArray c cX9_roomFor RX9 5 := X
  refine r_sub (L' := [(0, .ref (ea E 0)), (1, .int a1), (2, .int a2), (3, .int a3)]) [0, 1, 2, 3] rfl ?_
  unfold fX9_roomFor at h
  refine r_aload_n X dX9_roomFor_0 0 rfl rfl ?_
  refine r_iload_n X dX9_roomFor_1 1 rfl rfl ?_
  obtain ⟨u3, s1, e2, h⟩ := bd2_ok h
  refine kX9_isDiner X (ctX9_isDiner e2) dX9_roomFor_2 lM_0 g_912 (Nat.le_of_ble_eq_true rfl) (Nat.le_of_ble_eq_true rfl) ?_
  obtain ⟨j28, ej28, h⟩ := jn1_ok h
  have hj28 : ∀ (s4 : St), j28 s4 = some (r9, t9) → AW E layM p l e (rmD 112) ms m [.ref (ea E 0), .int a1, .int a2, .int a3].toArray below meth c 5 0 0 (MQc E layM below [.ref (ea E 0), .int a1, .int a2, .int a3].toArray ms (some (.int r9)) t9) 28 [(0, .ref (ea E 0))] [] s4 := by
    intro s4 h
    rw [ej28] at h
    refine r_aload_n X dX9_roomFor_28 0 rfl rfl ?_
    refine r_ldc X dX9_roomFor_29 g_873 ?_
    obtain ⟨u7, s5, e6, h⟩ := bd2_ok h
    refine kX9_errs X (ctX9_errs e6) dX9_roomFor_31 lM_0 g_874 (Nat.le_of_ble_eq_true rfl) (Nat.le_of_ble_eq_true rfl) ?_
    exact s_iret X hlk hr dX9_roomFor_34 h
  refine r_if_eq X 28 dX9_roomFor_5 (by decide) (fun c29 => ?_) (fun c29 => ?_)
  · rw [if_pos c29] at h
    refine r_sub (L' := [(0, .ref (ea E 0))]) [0] rfl ?_
    exact hj28 _ h
  · rw [if_neg c29] at h
    refine r_iload_n X dX9_roomFor_8 2 rfl rfl ?_
    refine r_iconst X dX9_roomFor_9 (v := 0) (by decide) ?_
    refine r_bipush X dX9_roomFor_10 (v := 99) (by decide) ?_
    obtain ⟨u10, s8, e9, h⟩ := bd2_ok h
    refine kX9_in X (ctX9_in e9) dX9_roomFor_12 g_866 (Nat.le_of_ble_eq_true rfl) (Nat.le_of_ble_eq_true rfl) ?_
    refine r_if_eq X 28 dX9_roomFor_15 (by decide) (fun c28 => ?_) (fun c28 => ?_)
    · rw [if_pos c28] at h
      refine r_sub (L' := [(0, .ref (ea E 0))]) [0] rfl ?_
      exact hj28 _ h
    · rw [if_neg c28] at h
      refine r_iload_n X dX9_roomFor_18 3 rfl rfl ?_
      refine r_iconst X dX9_roomFor_19 (v := 0) (by decide) ?_
      refine r_bipush X dX9_roomFor_20 (v := 30) (by decide) ?_
      obtain ⟨u13, s11, e12, h⟩ := bd2_ok h
      refine kX9_in X (ctX9_in e12) dX9_roomFor_22 g_866 (Nat.le_of_ble_eq_true rfl) (Nat.le_of_ble_eq_true rfl) ?_
      refine r_if_ne X 35 dX9_roomFor_25 (by decide) (fun c27 => ?_) (fun c27 => ?_)
      · rw [if_neg c27] at h
        refine r_aload_n X dX9_roomFor_35 0 rfl rfl ?_
        refine r_aload_n X dX9_roomFor_36 0 rfl rfl ?_
        refine r_getr X dX9_roomFor_37 i_X9 v_X9 lM_0 0 rfl (Nat.le_of_ble_eq_true rfl) g_774 ?_
        refine r_aload_n X dX9_roomFor_40 0 rfl rfl ?_
        refine r_getr X dX9_roomFor_41 i_X9 v_X9 lM_0 2 rfl (Nat.le_of_ble_eq_true rfl) g_776 ?_
        obtain ⟨s14, e15, h⟩ := bd1_ok h
        refine kX9_moveAll X (ctX9_moveAll lM_1 lM_3 e15) dX9_roomFor_44 lM_0 g_1027 (Nat.le_of_ble_eq_true rfl) (Nat.le_of_ble_eq_true rfl) ?_
        refine r_iconst X dX9_roomFor_47 (v := 0) (by decide) ?_
        refine r_istore (L' := [(0, .ref (ea E 0)), (1, .int a1), (2, .int a2), (3, .int a3), (4, .int 0)]) X dX9_roomFor_48 [1, 2, 3, 4, 0] rfl (Nat.le_of_ble_eq_true rfl) ?_
        obtain ⟨v22, s21, eo, h⟩ := bd2_ok h
        refine LX9_roomFor_50 X FU _ _ _ _ eo ?_
        refine r_iload X dX9_roomFor_75 1 rfl ?_
        refine r_bipush X dX9_roomFor_77 (v := 40) (by decide) ?_
        refine r_icmp_le X 91 dX9_roomFor_79 (by decide) (fun c26 => ?_) (fun c26 => ?_)
        · rw [if_pos c26] at h
          refine r_iload X dX9_roomFor_91 1 rfl ?_
          exact s_iret X hlk hr dX9_roomFor_93 h
        · rw [if_neg c26] at h
          refine r_aload_n X dX9_roomFor_82 0 rfl rfl ?_
          refine r_ldc X dX9_roomFor_83 g_1077 ?_
          obtain ⟨u25, s23, e24, h⟩ := bd2_ok h
          refine kX9_errs X (ctX9_errs e24) dX9_roomFor_85 lM_0 g_874 (Nat.le_of_ble_eq_true rfl) (Nat.le_of_ble_eq_true rfl) ?_
          refine r_goto X 93 dX9_roomFor_88 (by decide) ?_
          exact s_iret X hlk hr dX9_roomFor_93 h
      · rw [if_pos c27] at h
        refine r_sub (L' := [(0, .ref (ea E 0))]) [0] rfl ?_
        exact hj28 _ h
/-! X9_best -/
theorem nX9_best : yX9_best.cls ≠ "java/lang/invoke/MethodHandle" ∧ yX9_best.cls ≠ "java/lang/invoke/VarHandle" ∧ (parseMethodDescriptor yX9_best.desc).map (fun d => d.parameters.length) = some 3 := by decide +kernel
theorem kX9_best {l : Launch} {E : EE} {p : Program} {e : Env} {ms : State} {m : MethodId} {args : Array Value} {below : List Frame} {meth : Method} {c : Code} {cc : ByteArray} {own : String} {nL pc idx d D : Nat} {Q : State → Prop} {L : List (Nat × Value)} {rest : List Value} {σ τ : St} {a1 : Int32} {a2 : Int32} {a3 : Int32} {r : Int32} {fl : List (Option Nat)} (X : Cx E layM p ms m args c cc own nL) (hM : Ct l E layM yX9_best cX9_best 8 (some .int) d [.ref (ea E 0), .int a1, .int a2, .int a3] σ (some (.int r)) τ) (hd : decode cc pc = .ok (.invokevirtual idx, 3)) (hlay : layM[0]? = some (.inl (8, fl))) (w1 : Cond.methodLink own idx yX9_best ∈ gw) (hR : d + 1 ≤ D) (hrs : (rest.map fun v => v.category).sum ≤ 8) (k : AW E layM p l e (rmD D) ms m args below meth c nL 0 0 Q (pc + 3) L (.int r :: rest) τ) : AW E layM p l e (rmD D) ms m args below meth c nL 0 0 Q pc L (.int a3 :: .int a2 :: .int a1 :: .ref (ea E 0) :: rest) σ :=
  s_callV X [.int a1, .int a2, .int a3] rest hM hd v_X9 hlay w1 g_1091 g_1092 g_77 g_1093 nX9_best rfl rfl hrs (Nat.le_of_ble_eq_true rfl) hR k
def fX9_best_54 (a1 : Int32) (a2 : Int32) (a3 : Int32) : Nat → Int32 → Int32 → Int32 → St → Option (Int32 × Int32 × St)
  | 0, _, _, _, _ => none
  | n + 1, a4, a5, a6, s0 =>
    if 16 ≤ a6 then
    some (a4, a5, s0)
    else
    bd1 (ast s0 1 257 (41 + a1) a6) fun s17 =>
    bd2 (fX9_knownBehind a2 s17) fun u20 s18 =>
    jn (fun (w21 : Int32) =>
    jn (fun (w22 : Int32) =>
    fX9_best_54 a1 a2 a3 n w21 w22 (a6 + 1) s18) fun j109 =>
    if u20 ≤ a5 then
    j109 a5
    else
    j109 u20) fun j93 =>
    if u20 ≤ a5 then
    j93 a4
    else
    j93 a6
def fX9_best (a1 : Int32) (a2 : Int32) (a3 : Int32) (s0 : St) : Option (Int32 × St) :=
    bd2 (fX9_isCourse a1 s0) fun u3 s1 =>
    jn (fun (s4 : St) =>
    bd2 (fX9_errs (-1000000001) s4) fun u7 s5 =>
    some (u7, s5)) fun j26 =>
    if u3 = 0 then
    j26 s1
    else
    bd2 (fX9_in a2 0 20 s1) fun u10 s8 =>
    if u10 = 0 then
    j26 s8
    else
    bd2 (fX9_in a3 0 1 s8) fun u13 s11 =>
    if u13 = 0 then
    j26 s11
    else
    bd1 (fX9_moveAll 1 257 3 257 s11) fun s14 =>
    bd3 (fX9_best_54 a1 a2 a3 FU 0 (-1) 0 s14) fun v27 v28 s26 =>
    if a3 = 0 then
    some (v27, s26)
    else
    some (v28, s26)
set_option maxHeartbeats 4000000 in
set_option maxRecDepth 100000 in
theorem LX9_best_54 {l : Launch} {E : EE} {p : Program} {e : Env} {ms : State} {m : MethodId} {args : Array Value} {below : List Frame} {meth : Method} {c : Code} {a1 : Int32} {a2 : Int32} {a3 : Int32} {Q : State → Prop} (X : Cx E layM p ms m args c cX9_best RX9 8) : ∀ (n : Nat) (a4 : Int32) (a5 : Int32) (a6 : Int32) (s0 : St) (q4 : Int32) (q5 : Int32) (t8 : St), fX9_best_54 a1 a2 a3 n a4 a5 a6 s0 = some (q4, q5, t8) → AW E layM p l e (rmD 112) ms m args below meth c 8 0 0 Q 117 [(3, .int a3), (4, .int q4), (5, .int q5)] [] t8 → AW E layM p l e (rmD 112) ms m args below meth c 8 0 0 Q 54 [(0, .ref (ea E 0)), (1, .int a1), (2, .int a2), (3, .int a3), (4, .int a4), (5, .int a5), (6, .int a6)] [] s0 := by
  intro n
  induction n with
  | zero =>
    intro a4 a5 a6 s0 q4 q5 t8 h hE
    cases h
  | succ n ih =>
    intro a4 a5 a6 s0 q4 q5 t8 h hE
    rw [fX9_best_54] at h
    refine r_iload X dX9_best_54 6 rfl ?_
    refine r_bipush X dX9_best_56 (v := 16) (by decide) ?_
    refine r_icmp_ge X 117 dX9_best_58 (by decide) (fun c25 => ?_) (fun c25 => ?_)
    · rw [if_pos c25] at h
      refine r_sub (L' := [(3, .int a3), (4, .int a4), (5, .int a5)]) [3, 4, 5] rfl ?_
      cases h
      exact hE
    · rw [if_neg c25] at h
      refine r_aload_n X dX9_best_61 0 rfl rfl ?_
      refine r_getr X dX9_best_62 i_X9 v_X9 lM_0 0 rfl (Nat.le_of_ble_eq_true rfl) g_774 ?_
      refine r_bipush X dX9_best_65 (v := 41) (by decide) ?_
      refine r_iload_n X dX9_best_67 1 rfl rfl ?_
      refine r_iadd X dX9_best_68 ?_
      refine r_iload X dX9_best_69 6 rfl ?_
      obtain ⟨g16, s17, es17, h⟩ := as_ok h
      refine s_iast X dX9_best_71 lM_1 g16 es17 ?_
      refine r_aload_n X dX9_best_72 0 rfl rfl ?_
      refine r_iload_n X dX9_best_73 2 rfl rfl ?_
      obtain ⟨u20, s18, e19, h⟩ := bd2_ok h
      refine kX9_knownBehind X (ctX9_knownBehind e19) dX9_best_74 lM_0 g_1094 (Nat.le_of_ble_eq_true rfl) (Nat.le_of_ble_eq_true rfl) ?_
      refine r_istore (L' := [(0, .ref (ea E 0)), (1, .int a1), (2, .int a2), (3, .int a3), (4, .int a4), (5, .int a5), (6, .int a6), (7, .int u20)]) X dX9_best_77 [1, 2, 3, 4, 5, 6, 7, 0] rfl (Nat.le_of_ble_eq_true rfl) ?_
      refine r_iload X dX9_best_79 7 rfl ?_
      refine r_iload X dX9_best_81 5 rfl ?_
      obtain ⟨j93, ej93, h⟩ := jn1_ok h
      have hj93 : ∀ (w21 : Int32), j93 w21 = some (q4, q5, t8) → AW E layM p l e (rmD 112) ms m args below meth c 8 0 0 Q 93 [(0, .ref (ea E 0)), (1, .int a1), (2, .int a2), (3, .int a3), (5, .int a5), (6, .int a6), (7, .int u20)] [.int w21] s18 := by
        intro w21 h
        rw [ej93] at h
        refine r_istore (L' := [(0, .ref (ea E 0)), (1, .int a1), (2, .int a2), (3, .int a3), (4, .int w21), (5, .int a5), (6, .int a6), (7, .int u20)]) X dX9_best_93 [1, 2, 3, 4, 0, 5, 6, 7] rfl (Nat.le_of_ble_eq_true rfl) ?_
        refine r_iload X dX9_best_95 7 rfl ?_
        refine r_iload X dX9_best_97 5 rfl ?_
        obtain ⟨j109, ej109, h⟩ := jn1_ok h
        have hj109 : ∀ (w22 : Int32), j109 w22 = some (q4, q5, t8) → AW E layM p l e (rmD 112) ms m args below meth c 8 0 0 Q 109 [(0, .ref (ea E 0)), (1, .int a1), (2, .int a2), (3, .int a3), (4, .int w21), (6, .int a6)] [.int w22] s18 := by
          intro w22 h
          rw [ej109] at h
          refine r_istore (L' := [(0, .ref (ea E 0)), (1, .int a1), (2, .int a2), (3, .int a3), (4, .int w21), (5, .int w22), (6, .int a6)]) X dX9_best_109 [1, 2, 3, 4, 5, 0, 6] rfl (Nat.le_of_ble_eq_true rfl) ?_
          refine r_iinc (L' := [(0, .ref (ea E 0)), (1, .int a1), (2, .int a2), (3, .int a3), (4, .int w21), (5, .int w22), (6, .int (a6 + 1))]) (v := a6 + 1) X dX9_best_111 6 rfl rfl [1, 2, 3, 4, 5, 6, 0] rfl (Nat.le_of_ble_eq_true rfl) ?_
          refine r_goto X 54 dX9_best_114 (by decide) ?_
          exact ih _ _ _ _ _ _ _ h hE
        refine r_icmp_le X 107 dX9_best_99 (by decide) (fun c23 => ?_) (fun c23 => ?_)
        · rw [if_pos c23] at h
          refine r_iload X dX9_best_107 5 rfl ?_
          refine r_sub (L' := [(0, .ref (ea E 0)), (1, .int a1), (2, .int a2), (3, .int a3), (4, .int w21), (6, .int a6)]) [0, 1, 2, 3, 4, 6] rfl ?_
          exact hj109 _ h
        · rw [if_neg c23] at h
          refine r_iload X dX9_best_102 7 rfl ?_
          refine r_goto X 109 dX9_best_104 (by decide) ?_
          refine r_sub (L' := [(0, .ref (ea E 0)), (1, .int a1), (2, .int a2), (3, .int a3), (4, .int w21), (6, .int a6)]) [0, 1, 2, 3, 4, 6] rfl ?_
          exact hj109 _ h
      refine r_icmp_le X 91 dX9_best_83 (by decide) (fun c24 => ?_) (fun c24 => ?_)
      · rw [if_pos c24] at h
        refine r_iload X dX9_best_91 4 rfl ?_
        refine r_sub (L' := [(0, .ref (ea E 0)), (1, .int a1), (2, .int a2), (3, .int a3), (5, .int a5), (6, .int a6), (7, .int u20)]) [0, 1, 2, 3, 5, 6, 7] rfl ?_
        exact hj93 _ h
      · rw [if_neg c24] at h
        refine r_iload X dX9_best_86 6 rfl ?_
        refine r_goto X 93 dX9_best_88 (by decide) ?_
        refine r_sub (L' := [(0, .ref (ea E 0)), (1, .int a1), (2, .int a2), (3, .int a3), (5, .int a5), (6, .int a6), (7, .int u20)]) [0, 1, 2, 3, 5, 6, 7] rfl ?_
        exact hj93 _ h
set_option maxHeartbeats 4000000 in
set_option maxRecDepth 100000 in
theorem ctX9_best {l : Launch} {E : EE} {a1 : Int32} {a2 : Int32} {a3 : Int32} {s0 : St} {r9 : Int32} {t9 : St}  (h : fX9_best a1 a2 a3 s0 = some (r9, t9)) : Ct l E layM yX9_best cX9_best 8 (some .int) 112 [.ref (ea E 0), .int a1, .int a2, .int a3] s0 (some (.int r9)) t9 := by
  refine Ct.of (by decide) (Nat.le_of_ble_eq_true rfl) ?_
  intro p e ms m below meth c X hlk hr
  have X : Cx E layM p ms m [.ref (ea E 0), .int a1, .int a2, .int a3].toArray c cX9_best RX9 8 := X
  refine r_sub (L' := [(0, .ref (ea E 0)), (1, .int a1), (2, .int a2), (3, .int a3)]) [0, 1, 2, 3] rfl ?_
  unfold fX9_best at h
  refine r_iload_n X dX9_best_0 1 rfl rfl ?_
  obtain ⟨u3, s1, e2, h⟩ := bd2_ok h
  refine kX9_isCourse X (ctX9_isCourse e2) dX9_best_1 g_891 (Nat.le_of_ble_eq_true rfl) (Nat.le_of_ble_eq_true rfl) ?_
  obtain ⟨j26, ej26, h⟩ := jn1_ok h
  have hj26 : ∀ (s4 : St), j26 s4 = some (r9, t9) → AW E layM p l e (rmD 112) ms m [.ref (ea E 0), .int a1, .int a2, .int a3].toArray below meth c 8 0 0 (MQc E layM below [.ref (ea E 0), .int a1, .int a2, .int a3].toArray ms (some (.int r9)) t9) 26 [(0, .ref (ea E 0))] [] s4 := by
    intro s4 h
    rw [ej26] at h
    refine r_aload_n X dX9_best_26 0 rfl rfl ?_
    refine r_ldc X dX9_best_27 g_873 ?_
    obtain ⟨u7, s5, e6, h⟩ := bd2_ok h
    refine kX9_errs X (ctX9_errs e6) dX9_best_29 lM_0 g_874 (Nat.le_of_ble_eq_true rfl) (Nat.le_of_ble_eq_true rfl) ?_
    exact s_iret X hlk hr dX9_best_32 h
  refine r_if_eq X 26 dX9_best_4 (by decide) (fun c32 => ?_) (fun c32 => ?_)
  · rw [if_pos c32] at h
    refine r_sub (L' := [(0, .ref (ea E 0))]) [0] rfl ?_
    exact hj26 _ h
  · rw [if_neg c32] at h
    refine r_iload_n X dX9_best_7 2 rfl rfl ?_
    refine r_iconst X dX9_best_8 (v := 0) (by decide) ?_
    refine r_bipush X dX9_best_9 (v := 20) (by decide) ?_
    obtain ⟨u10, s8, e9, h⟩ := bd2_ok h
    refine kX9_in X (ctX9_in e9) dX9_best_11 g_866 (Nat.le_of_ble_eq_true rfl) (Nat.le_of_ble_eq_true rfl) ?_
    refine r_if_eq X 26 dX9_best_14 (by decide) (fun c31 => ?_) (fun c31 => ?_)
    · rw [if_pos c31] at h
      refine r_sub (L' := [(0, .ref (ea E 0))]) [0] rfl ?_
      exact hj26 _ h
    · rw [if_neg c31] at h
      refine r_iload_n X dX9_best_17 3 rfl rfl ?_
      refine r_iconst X dX9_best_18 (v := 0) (by decide) ?_
      refine r_iconst X dX9_best_19 (v := 1) (by decide) ?_
      obtain ⟨u13, s11, e12, h⟩ := bd2_ok h
      refine kX9_in X (ctX9_in e12) dX9_best_20 g_866 (Nat.le_of_ble_eq_true rfl) (Nat.le_of_ble_eq_true rfl) ?_
      refine r_if_ne X 33 dX9_best_23 (by decide) (fun c30 => ?_) (fun c30 => ?_)
      · rw [if_neg c30] at h
        refine r_aload_n X dX9_best_33 0 rfl rfl ?_
        refine r_aload_n X dX9_best_34 0 rfl rfl ?_
        refine r_getr X dX9_best_35 i_X9 v_X9 lM_0 0 rfl (Nat.le_of_ble_eq_true rfl) g_774 ?_
        refine r_aload_n X dX9_best_38 0 rfl rfl ?_
        refine r_getr X dX9_best_39 i_X9 v_X9 lM_0 2 rfl (Nat.le_of_ble_eq_true rfl) g_776 ?_
        obtain ⟨s14, e15, h⟩ := bd1_ok h
        refine kX9_moveAll X (ctX9_moveAll lM_1 lM_3 e15) dX9_best_42 lM_0 g_1027 (Nat.le_of_ble_eq_true rfl) (Nat.le_of_ble_eq_true rfl) ?_
        refine r_iconst X dX9_best_45 (v := 0) (by decide) ?_
        refine r_istore (L' := [(0, .ref (ea E 0)), (1, .int a1), (2, .int a2), (3, .int a3), (4, .int 0)]) X dX9_best_46 [1, 2, 3, 4, 0] rfl (Nat.le_of_ble_eq_true rfl) ?_
        refine r_iconst X dX9_best_48 (v := (-1)) (by decide) ?_
        refine r_istore (L' := [(0, .ref (ea E 0)), (1, .int a1), (2, .int a2), (3, .int a3), (4, .int 0), (5, .int (-1))]) X dX9_best_49 [1, 2, 3, 4, 5, 0] rfl (Nat.le_of_ble_eq_true rfl) ?_
        refine r_iconst X dX9_best_51 (v := 0) (by decide) ?_
        refine r_istore (L' := [(0, .ref (ea E 0)), (1, .int a1), (2, .int a2), (3, .int a3), (4, .int 0), (5, .int (-1)), (6, .int 0)]) X dX9_best_52 [1, 2, 3, 4, 5, 6, 0] rfl (Nat.le_of_ble_eq_true rfl) ?_
        obtain ⟨v27, v28, s26, eo, h⟩ := bd3_ok h
        refine LX9_best_54 X FU _ _ _ _ _ _ _ eo ?_
        refine r_iload_n X dX9_best_117 0 rfl rfl ?_
        refine r_if_ne X 126 dX9_best_118 (by decide) (fun c29 => ?_) (fun c29 => ?_)
        · rw [if_neg c29] at h
          refine r_iload X dX9_best_126 2 rfl ?_
          exact s_iret X hlk hr dX9_best_128 h
        · rw [if_pos c29] at h
          refine r_iload X dX9_best_121 1 rfl ?_
          refine r_goto X 128 dX9_best_123 (by decide) ?_
          exact s_iret X hlk hr dX9_best_128 h
      · rw [if_pos c30] at h
        refine r_sub (L' := [(0, .ref (ea E 0))]) [0] rfl ?_
        exact hj26 _ h
/-! X9_swap -/
theorem nX9_swap : yX9_swap.cls ≠ "java/lang/invoke/MethodHandle" ∧ yX9_swap.cls ≠ "java/lang/invoke/VarHandle" ∧ (parseMethodDescriptor yX9_swap.desc).map (fun d => d.parameters.length) = some 1 := by decide +kernel
theorem kX9_swap {l : Launch} {E : EE} {p : Program} {e : Env} {ms : State} {m : MethodId} {args : Array Value} {below : List Frame} {meth : Method} {c : Code} {cc : ByteArray} {own : String} {nL pc idx d D : Nat} {Q : State → Prop} {L : List (Nat × Value)} {rest : List Value} {σ τ : St} {a1 : Int32} {r : Int32} {fl : List (Option Nat)} (X : Cx E layM p ms m args c cc own nL) (hM : Ct l E layM yX9_swap cX9_swap 7 (some .int) d [.ref (ea E 0), .int a1] σ (some (.int r)) τ) (hd : decode cc pc = .ok (.invokevirtual idx, 3)) (hlay : layM[0]? = some (.inl (8, fl))) (w1 : Cond.methodLink own idx yX9_swap ∈ gw) (hR : d + 1 ≤ D) (hrs : (rest.map fun v => v.category).sum ≤ 8) (k : AW E layM p l e (rmD D) ms m args below meth c nL 0 0 Q (pc + 3) L (.int r :: rest) τ) : AW E layM p l e (rmD D) ms m args below meth c nL 0 0 Q pc L (.int a1 :: .ref (ea E 0) :: rest) σ :=
  s_callV X [.int a1] rest hM hd v_X9 hlay w1 g_1103 g_1104 g_77 g_1105 nX9_swap rfl rfl hrs (Nat.le_of_ble_eq_true rfl) hR k
def fX9_swap_53 (a1 : Int32) (a4 : Int32) : Nat → Int32 → Int32 → Int32 → St → Option (Int32 × Int32 × St)
  | 0, _, _, _, _ => none
  | n + 1, a2, a3, a5, s0 =>
    if 6 ≤ a5 then
    some (a2, a3, s0)
    else
    bd1 (ald s0 3 257 (41 + a5)) fun v10 =>
    bd1 (ast s0 1 257 (41 + a4) v10) fun s12 =>
    bd1 (ald s12 3 257 (41 + a4)) fun v14 =>
    bd1 (ast s12 1 257 (41 + a5) v14) fun s16 =>
    bd2 (fX9_knownBehind a1 s16) fun u19 s17 =>
    jn (fun (w20 : Int32) =>
    jn (fun (w21 : Int32) =>
    fX9_swap_53 a1 a4 n w20 w21 (a5 + 1) s17) fun j138 =>
    if u19 ≤ a3 then
    j138 a3
    else
    j138 u19) fun j125 =>
    if u19 ≤ a3 then
    j125 a2
    else
    j125 ((10 * a4) + a5)
def fX9_swap_40 (a1 : Int32) : Nat → Int32 → Int32 → Int32 → St → Option (Int32 × St)
  | 0, _, _, _, _ => none
  | n + 1, a2, a3, a4, s0 =>
    if 6 ≤ a4 then
    some (a2, s0)
    else
    bd3 (fX9_swap_53 a1 a4 FU a2 a3 (a4 + 1) s0) fun v26 v27 s25 =>
    fX9_swap_40 a1 n v26 v27 (a4 + 1) s25
def fX9_swap (a1 : Int32) (s0 : St) : Option (Int32 × St) :=
    bd2 (fX9_in a1 0 20 s0) fun u3 s1 =>
    if u3 = 0 then
    bd2 (fX9_errs (-1000000001) s1) fun u33 s31 =>
    some (u33, s31)
    else
    bd1 (fX9_moveAll 1 257 3 257 s1) fun s4 =>
    bd2 (fX9_knownBehind a1 s4) fun u8 s6 =>
    bd2 (fX9_swap_40 a1 FU (-1) u8 0 s6) fun v30 s29 =>
    some (v30, s29)
set_option maxHeartbeats 4000000 in
set_option maxRecDepth 100000 in
theorem LX9_swap_53 {l : Launch} {E : EE} {p : Program} {e : Env} {ms : State} {m : MethodId} {args : Array Value} {below : List Frame} {meth : Method} {c : Code} {a1 : Int32} {a4 : Int32} {Q : State → Prop} (X : Cx E layM p ms m args c cX9_swap RX9 7) : ∀ (n : Nat) (a2 : Int32) (a3 : Int32) (a5 : Int32) (s0 : St) (q2 : Int32) (q3 : Int32) (t8 : St), fX9_swap_53 a1 a4 n a2 a3 a5 s0 = some (q2, q3, t8) → AW E layM p l e (rmD 112) ms m args below meth c 7 0 0 Q 145 [(0, .ref (ea E 0)), (1, .int a1), (2, .int q2), (3, .int q3), (4, .int a4)] [] t8 → AW E layM p l e (rmD 112) ms m args below meth c 7 0 0 Q 53 [(0, .ref (ea E 0)), (1, .int a1), (2, .int a2), (3, .int a3), (4, .int a4), (5, .int a5)] [] s0 := by
  intro n
  induction n with
  | zero =>
    intro a2 a3 a5 s0 q2 q3 t8 h hE
    cases h
  | succ n ih =>
    intro a2 a3 a5 s0 q2 q3 t8 h hE
    rw [fX9_swap_53] at h
    refine r_iload X dX9_swap_53 5 rfl ?_
    refine r_bipush X dX9_swap_55 (v := 6) (by decide) ?_
    refine r_icmp_ge X 145 dX9_swap_57 (by decide) (fun c24 => ?_) (fun c24 => ?_)
    · rw [if_pos c24] at h
      refine r_sub (L' := [(0, .ref (ea E 0)), (1, .int a1), (2, .int a2), (3, .int a3), (4, .int a4)]) [0, 1, 2, 3, 4] rfl ?_
      cases h
      exact hE
    · rw [if_neg c24] at h
      refine r_aload_n X dX9_swap_60 0 rfl rfl ?_
      refine r_getr X dX9_swap_61 i_X9 v_X9 lM_0 0 rfl (Nat.le_of_ble_eq_true rfl) g_774 ?_
      refine r_bipush X dX9_swap_64 (v := 41) (by decide) ?_
      refine r_iload X dX9_swap_66 4 rfl ?_
      refine r_iadd X dX9_swap_68 ?_
      refine r_aload_n X dX9_swap_69 0 rfl rfl ?_
      refine r_getr X dX9_swap_70 i_X9 v_X9 lM_0 2 rfl (Nat.le_of_ble_eq_true rfl) g_776 ?_
      refine r_bipush X dX9_swap_73 (v := 41) (by decide) ?_
      refine r_iload X dX9_swap_75 5 rfl ?_
      refine r_iadd X dX9_swap_77 ?_
      obtain ⟨g9, v10, ev10, h⟩ := ld_ok h
      refine s_iald X dX9_swap_78 lM_3 g9 ev10 ?_
      obtain ⟨g11, s12, es12, h⟩ := as_ok h
      refine s_iast X dX9_swap_79 lM_1 g11 es12 ?_
      refine r_aload_n X dX9_swap_80 0 rfl rfl ?_
      refine r_getr X dX9_swap_81 i_X9 v_X9 lM_0 0 rfl (Nat.le_of_ble_eq_true rfl) g_774 ?_
      refine r_bipush X dX9_swap_84 (v := 41) (by decide) ?_
      refine r_iload X dX9_swap_86 5 rfl ?_
      refine r_iadd X dX9_swap_88 ?_
      refine r_aload_n X dX9_swap_89 0 rfl rfl ?_
      refine r_getr X dX9_swap_90 i_X9 v_X9 lM_0 2 rfl (Nat.le_of_ble_eq_true rfl) g_776 ?_
      refine r_bipush X dX9_swap_93 (v := 41) (by decide) ?_
      refine r_iload X dX9_swap_95 4 rfl ?_
      refine r_iadd X dX9_swap_97 ?_
      obtain ⟨g13, v14, ev14, h⟩ := ld_ok h
      refine s_iald X dX9_swap_98 lM_3 g13 ev14 ?_
      obtain ⟨g15, s16, es16, h⟩ := as_ok h
      refine s_iast X dX9_swap_99 lM_1 g15 es16 ?_
      refine r_aload_n X dX9_swap_100 0 rfl rfl ?_
      refine r_iload_n X dX9_swap_101 1 rfl rfl ?_
      obtain ⟨u19, s17, e18, h⟩ := bd2_ok h
      refine kX9_knownBehind X (ctX9_knownBehind e18) dX9_swap_102 lM_0 g_1094 (Nat.le_of_ble_eq_true rfl) (Nat.le_of_ble_eq_true rfl) ?_
      refine r_istore (L' := [(0, .ref (ea E 0)), (1, .int a1), (2, .int a2), (3, .int a3), (4, .int a4), (5, .int a5), (6, .int u19)]) X dX9_swap_105 [1, 2, 3, 4, 5, 6, 0] rfl (Nat.le_of_ble_eq_true rfl) ?_
      refine r_iload X dX9_swap_107 6 rfl ?_
      refine r_iload_n X dX9_swap_109 3 rfl rfl ?_
      obtain ⟨j125, ej125, h⟩ := jn1_ok h
      have hj125 : ∀ (w20 : Int32), j125 w20 = some (q2, q3, t8) → AW E layM p l e (rmD 112) ms m args below meth c 7 0 0 Q 125 [(0, .ref (ea E 0)), (1, .int a1), (3, .int a3), (4, .int a4), (5, .int a5), (6, .int u19)] [.int w20] s17 := by
        intro w20 h
        rw [ej125] at h
        refine r_istore_n (L' := [(0, .ref (ea E 0)), (1, .int a1), (2, .int w20), (3, .int a3), (4, .int a4), (5, .int a5), (6, .int u19)]) X dX9_swap_125 [1, 2, 0, 3, 4, 5, 6] rfl rfl (Nat.le_of_ble_eq_true rfl) ?_
        refine r_iload X dX9_swap_126 6 rfl ?_
        refine r_iload_n X dX9_swap_128 3 rfl rfl ?_
        obtain ⟨j138, ej138, h⟩ := jn1_ok h
        have hj138 : ∀ (w21 : Int32), j138 w21 = some (q2, q3, t8) → AW E layM p l e (rmD 112) ms m args below meth c 7 0 0 Q 138 [(0, .ref (ea E 0)), (1, .int a1), (2, .int w20), (4, .int a4), (5, .int a5)] [.int w21] s17 := by
          intro w21 h
          rw [ej138] at h
          refine r_istore_n (L' := [(0, .ref (ea E 0)), (1, .int a1), (2, .int w20), (3, .int w21), (4, .int a4), (5, .int a5)]) X dX9_swap_138 [1, 2, 3, 0, 4, 5] rfl rfl (Nat.le_of_ble_eq_true rfl) ?_
          refine r_iinc (L' := [(0, .ref (ea E 0)), (1, .int a1), (2, .int w20), (3, .int w21), (4, .int a4), (5, .int (a5 + 1))]) (v := a5 + 1) X dX9_swap_139 5 rfl rfl [1, 2, 3, 4, 5, 0] rfl (Nat.le_of_ble_eq_true rfl) ?_
          refine r_goto X 53 dX9_swap_142 (by decide) ?_
          exact ih _ _ _ _ _ _ _ h hE
        refine r_icmp_le X 137 dX9_swap_129 (by decide) (fun c22 => ?_) (fun c22 => ?_)
        · rw [if_pos c22] at h
          refine r_iload_n X dX9_swap_137 3 rfl rfl ?_
          refine r_sub (L' := [(0, .ref (ea E 0)), (1, .int a1), (2, .int w20), (4, .int a4), (5, .int a5)]) [0, 1, 2, 4, 5] rfl ?_
          exact hj138 _ h
        · rw [if_neg c22] at h
          refine r_iload X dX9_swap_132 6 rfl ?_
          refine r_goto X 138 dX9_swap_134 (by decide) ?_
          refine r_sub (L' := [(0, .ref (ea E 0)), (1, .int a1), (2, .int w20), (4, .int a4), (5, .int a5)]) [0, 1, 2, 4, 5] rfl ?_
          exact hj138 _ h
      refine r_icmp_le X 124 dX9_swap_110 (by decide) (fun c23 => ?_) (fun c23 => ?_)
      · rw [if_pos c23] at h
        refine r_iload_n X dX9_swap_124 2 rfl rfl ?_
        refine r_sub (L' := [(0, .ref (ea E 0)), (1, .int a1), (3, .int a3), (4, .int a4), (5, .int a5), (6, .int u19)]) [0, 1, 3, 4, 5, 6] rfl ?_
        exact hj125 _ h
      · rw [if_neg c23] at h
        refine r_bipush X dX9_swap_113 (v := 10) (by decide) ?_
        refine r_iload X dX9_swap_115 4 rfl ?_
        refine r_imul X dX9_swap_117 ?_
        refine r_iload X dX9_swap_118 5 rfl ?_
        refine r_iadd X dX9_swap_120 ?_
        refine r_goto X 125 dX9_swap_121 (by decide) ?_
        refine r_sub (L' := [(0, .ref (ea E 0)), (1, .int a1), (3, .int a3), (4, .int a4), (5, .int a5), (6, .int u19)]) [0, 1, 3, 4, 5, 6] rfl ?_
        exact hj125 _ h
set_option maxHeartbeats 4000000 in
set_option maxRecDepth 100000 in
theorem LX9_swap_40 {l : Launch} {E : EE} {p : Program} {e : Env} {ms : State} {m : MethodId} {args : Array Value} {below : List Frame} {meth : Method} {c : Code} {a1 : Int32} {Q : State → Prop} (X : Cx E layM p ms m args c cX9_swap RX9 7) : ∀ (n : Nat) (a2 : Int32) (a3 : Int32) (a4 : Int32) (s0 : St) (q2 : Int32) (t8 : St), fX9_swap_40 a1 n a2 a3 a4 s0 = some (q2, t8) → AW E layM p l e (rmD 112) ms m args below meth c 7 0 0 Q 151 [(2, .int q2)] [] t8 → AW E layM p l e (rmD 112) ms m args below meth c 7 0 0 Q 40 [(0, .ref (ea E 0)), (1, .int a1), (2, .int a2), (3, .int a3), (4, .int a4)] [] s0 := by
  intro n
  induction n with
  | zero =>
    intro a2 a3 a4 s0 q2 t8 h hE
    cases h
  | succ n ih =>
    intro a2 a3 a4 s0 q2 t8 h hE
    rw [fX9_swap_40] at h
    refine r_iload X dX9_swap_40 4 rfl ?_
    refine r_bipush X dX9_swap_42 (v := 6) (by decide) ?_
    refine r_icmp_ge X 151 dX9_swap_44 (by decide) (fun c28 => ?_) (fun c28 => ?_)
    · rw [if_pos c28] at h
      refine r_sub (L' := [(2, .int a2)]) [2] rfl ?_
      cases h
      exact hE
    · rw [if_neg c28] at h
      refine r_iload X dX9_swap_47 4 rfl ?_
      refine r_iconst X dX9_swap_49 (v := 1) (by decide) ?_
      refine r_iadd X dX9_swap_50 ?_
      refine r_istore (L' := [(0, .ref (ea E 0)), (1, .int a1), (2, .int a2), (3, .int a3), (4, .int a4), (5, .int (a4 + 1))]) X dX9_swap_51 [1, 2, 3, 4, 5, 0] rfl (Nat.le_of_ble_eq_true rfl) ?_
      obtain ⟨v26, v27, s25, eo, h⟩ := bd3_ok h
      refine LX9_swap_53 X FU _ _ _ _ _ _ _ eo ?_
      refine r_iinc (L' := [(0, .ref (ea E 0)), (1, .int a1), (2, .int v26), (3, .int v27), (4, .int (a4 + 1))]) (v := a4 + 1) X dX9_swap_145 4 rfl rfl [1, 2, 3, 4, 0] rfl (Nat.le_of_ble_eq_true rfl) ?_
      refine r_goto X 40 dX9_swap_148 (by decide) ?_
      exact ih _ _ _ _ _ _ h hE
set_option maxHeartbeats 4000000 in
set_option maxRecDepth 100000 in
theorem ctX9_swap {l : Launch} {E : EE} {a1 : Int32} {s0 : St} {r9 : Int32} {t9 : St}  (h : fX9_swap a1 s0 = some (r9, t9)) : Ct l E layM yX9_swap cX9_swap 7 (some .int) 112 [.ref (ea E 0), .int a1] s0 (some (.int r9)) t9 := by
  refine Ct.of (by decide) (Nat.le_of_ble_eq_true rfl) ?_
  intro p e ms m below meth c X hlk hr
  have X : Cx E layM p ms m [.ref (ea E 0), .int a1].toArray c cX9_swap RX9 7 := X
  refine r_sub (L' := [(0, .ref (ea E 0)), (1, .int a1)]) [0, 1] rfl ?_
  unfold fX9_swap at h
  refine r_iload_n X dX9_swap_0 1 rfl rfl ?_
  refine r_iconst X dX9_swap_1 (v := 0) (by decide) ?_
  refine r_bipush X dX9_swap_2 (v := 20) (by decide) ?_
  obtain ⟨u3, s1, e2, h⟩ := bd2_ok h
  refine kX9_in X (ctX9_in e2) dX9_swap_4 g_866 (Nat.le_of_ble_eq_true rfl) (Nat.le_of_ble_eq_true rfl) ?_
  refine r_if_ne X 17 dX9_swap_7 (by decide) (fun c34 => ?_) (fun c34 => ?_)
  · rw [if_neg c34] at h
    refine r_aload_n X dX9_swap_17 0 rfl rfl ?_
    refine r_aload_n X dX9_swap_18 0 rfl rfl ?_
    refine r_getr X dX9_swap_19 i_X9 v_X9 lM_0 0 rfl (Nat.le_of_ble_eq_true rfl) g_774 ?_
    refine r_aload_n X dX9_swap_22 0 rfl rfl ?_
    refine r_getr X dX9_swap_23 i_X9 v_X9 lM_0 2 rfl (Nat.le_of_ble_eq_true rfl) g_776 ?_
    obtain ⟨s4, e5, h⟩ := bd1_ok h
    refine kX9_moveAll X (ctX9_moveAll lM_1 lM_3 e5) dX9_swap_26 lM_0 g_1027 (Nat.le_of_ble_eq_true rfl) (Nat.le_of_ble_eq_true rfl) ?_
    refine r_iconst X dX9_swap_29 (v := (-1)) (by decide) ?_
    refine r_istore_n (L' := [(0, .ref (ea E 0)), (1, .int a1), (2, .int (-1))]) X dX9_swap_30 [1, 2, 0] rfl rfl (Nat.le_of_ble_eq_true rfl) ?_
    refine r_aload_n X dX9_swap_31 0 rfl rfl ?_
    refine r_iload_n X dX9_swap_32 1 rfl rfl ?_
    obtain ⟨u8, s6, e7, h⟩ := bd2_ok h
    refine kX9_knownBehind X (ctX9_knownBehind e7) dX9_swap_33 lM_0 g_1094 (Nat.le_of_ble_eq_true rfl) (Nat.le_of_ble_eq_true rfl) ?_
    refine r_istore_n (L' := [(0, .ref (ea E 0)), (1, .int a1), (2, .int (-1)), (3, .int u8)]) X dX9_swap_36 [1, 2, 3, 0] rfl rfl (Nat.le_of_ble_eq_true rfl) ?_
    refine r_iconst X dX9_swap_37 (v := 0) (by decide) ?_
    refine r_istore (L' := [(0, .ref (ea E 0)), (1, .int a1), (2, .int (-1)), (3, .int u8), (4, .int 0)]) X dX9_swap_38 [1, 2, 3, 4, 0] rfl (Nat.le_of_ble_eq_true rfl) ?_
    obtain ⟨v30, s29, eo, h⟩ := bd2_ok h
    refine LX9_swap_40 X FU _ _ _ _ _ _ eo ?_
    refine r_iload_n X dX9_swap_151 0 rfl rfl ?_
    exact s_iret X hlk hr dX9_swap_152 h
  · rw [if_pos c34] at h
    refine r_aload_n X dX9_swap_10 0 rfl rfl ?_
    refine r_ldc X dX9_swap_11 g_873 ?_
    obtain ⟨u33, s31, e32, h⟩ := bd2_ok h
    refine kX9_errs X (ctX9_errs e32) dX9_swap_13 lM_0 g_874 (Nat.le_of_ble_eq_true rfl) (Nat.le_of_ble_eq_true rfl) ?_
    exact s_iret X hlk hr dX9_swap_16 h
/-! X9_isSheet -/
theorem nX9_isSheet : yX9_isSheet.cls ≠ "java/lang/invoke/MethodHandle" ∧ yX9_isSheet.cls ≠ "java/lang/invoke/VarHandle" ∧ (parseMethodDescriptor yX9_isSheet.desc).map (fun d => d.parameters.length) = some 1 := by decide +kernel
theorem kX9_isSheet {l : Launch} {E : EE} {p : Program} {e : Env} {ms : State} {m : MethodId} {args : Array Value} {below : List Frame} {meth : Method} {c : Code} {cc : ByteArray} {own : String} {nL pc idx d D : Nat} {Q : State → Prop} {L : List (Nat × Value)} {rest : List Value} {σ τ : St} {a0 : Int32} {r : Int32} (X : Cx E layM p ms m args c cc own nL) (hM : Ct l E layM yX9_isSheet cX9_isSheet 1 (some .boolean) d [.int a0] σ (some (.int r)) τ) (hd : decode cc pc = .ok (.invokestatic idx, 3)) (w1 : Cond.methodLink own idx yX9_isSheet ∈ gw) (hR : d + 1 ≤ D) (hrs : (rest.map fun v => v.category).sum ≤ 8) (k : AW E layM p l e (rmD D) ms m args below meth c nL 0 0 Q (pc + 3) L (.int r :: rest) τ) : AW E layM p l e (rmD D) ms m args below meth c nL 0 0 Q pc L (.int a0 :: rest) σ :=
  s_callS X [.int a0] rest hM hd w1 g_1111 g_77 g_1112 nX9_isSheet rfl rfl hrs (Nat.le_of_ble_eq_true rfl) hR k
def fX9_isSheet (a0 : Int32) (s0 : St) : Option (Int32 × St) :=
    bd2 (fX9_in a0 0 3 s0) fun u3 s1 =>
    gb u3 <| some (u3, s1)
set_option maxHeartbeats 4000000 in
set_option maxRecDepth 100000 in
theorem ctX9_isSheet {l : Launch} {E : EE} {a0 : Int32} {s0 : St} {r9 : Int32} {t9 : St}  (h : fX9_isSheet a0 s0 = some (r9, t9)) : Ct l E layM yX9_isSheet cX9_isSheet 1 (some .boolean) 1 [.int a0] s0 (some (.int r9)) t9 := by
  refine Ct.of (by decide) (Nat.le_of_ble_eq_true rfl) ?_
  intro p e ms m below meth c X hlk hr
  have X : Cx E layM p ms m [.int a0].toArray c cX9_isSheet RX9 1 := X
  refine r_sub (L' := [(0, .int a0)]) [0] rfl ?_
  unfold fX9_isSheet at h
  refine r_iload_n X dX9_isSheet_0 0 rfl rfl ?_
  refine r_iconst X dX9_isSheet_1 (v := 0) (by decide) ?_
  refine r_iconst X dX9_isSheet_2 (v := 3) (by decide) ?_
  obtain ⟨u3, s1, e2, h⟩ := bd2_ok h
  refine kX9_in X (ctX9_in e2) dX9_isSheet_3 g_866 (Nat.le_of_ble_eq_true rfl) (Nat.le_of_ble_eq_true rfl) ?_
  obtain ⟨g4, h⟩ := gb_ok h
  exact s_zret X hlk hr g4.1 dX9_isSheet_6 h
/-! X9_leavesSo -/
theorem nX9_leavesSo : yX9_leavesSo.cls ≠ "java/lang/invoke/MethodHandle" ∧ yX9_leavesSo.cls ≠ "java/lang/invoke/VarHandle" ∧ (parseMethodDescriptor yX9_leavesSo.desc).map (fun d => d.parameters.length) = some 2 := by decide +kernel
theorem kX9_leavesSo {l : Launch} {E : EE} {p : Program} {e : Env} {ms : State} {m : MethodId} {args : Array Value} {below : List Frame} {meth : Method} {c : Code} {cc : ByteArray} {own : String} {nL pc idx d D : Nat} {Q : State → Prop} {L : List (Nat × Value)} {rest : List Value} {σ τ : St} {a1 : Int32} {a2 : Int32} {r : Int32} {fl : List (Option Nat)} (X : Cx E layM p ms m args c cc own nL) (hM : Ct l E layM yX9_leavesSo cX9_leavesSo 5 (some .boolean) d [.ref (ea E 0), .int a1, .int a2] σ (some (.int r)) τ) (hd : decode cc pc = .ok (.invokevirtual idx, 3)) (hlay : layM[0]? = some (.inl (8, fl))) (w1 : Cond.methodLink own idx yX9_leavesSo ∈ gw) (hR : d + 1 ≤ D) (hrs : (rest.map fun v => v.category).sum ≤ 8) (k : AW E layM p l e (rmD D) ms m args below meth c nL 0 0 Q (pc + 3) L (.int r :: rest) τ) : AW E layM p l e (rmD D) ms m args below meth c nL 0 0 Q pc L (.int a2 :: .int a1 :: .ref (ea E 0) :: rest) σ :=
  s_callV X [.int a1, .int a2] rest hM hd v_X9 hlay w1 g_1115 g_56 g_77 g_1116 nX9_leavesSo rfl rfl hrs (Nat.le_of_ble_eq_true rfl) hR k
def fX9_leavesSo_20 (a1 : Int32) (a2 : Int32) : Nat → Int32 → Int32 → St → Option (Int32 × St)
  | 0, _, _, _ => none
  | n + 1, a3, a4, s0 =>
    bd1 (ald s0 8 4 a1) fun v5 =>
    if v5 ≤ a4 then
    some (a3, s0)
    else
    if a3 = 0 then
    some (a3, s0)
    else
    bd1 (ald s0 9 160 ((40 * a1) + a4)) fun v7 =>
    bd2 (fX9_left a2 a4 s0) fun u10 s8 =>
    jn (fun (w11 : Int32) =>
    fX9_leavesSo_20 a1 a2 n w11 (a4 + 1) s8) fun j62 =>
    if v7 = u10 then
    j62 1
    else
    j62 0
def fX9_leavesSo (a1 : Int32) (a2 : Int32) (s0 : St) : Option (Int32 × St) :=
    bd1 (ald s0 8 4 a1) fun v2 =>
    jn (fun (w3 : Int32) =>
    bd2 (fX9_leavesSo_20 a1 a2 FU w3 0 s0) fun v16 s15 =>
    gb v16 <| some (v16, s15)) fun j16 =>
    if 6 < v2 then
    j16 0
    else
    j16 1
set_option maxHeartbeats 4000000 in
set_option maxRecDepth 100000 in
theorem LX9_leavesSo_20 {l : Launch} {E : EE} {p : Program} {e : Env} {ms : State} {m : MethodId} {args : Array Value} {below : List Frame} {meth : Method} {c : Code} {a1 : Int32} {a2 : Int32} {Q : State → Prop} (X : Cx E layM p ms m args c cX9_leavesSo RX9 5) : ∀ (n : Nat) (a3 : Int32) (a4 : Int32) (s0 : St) (q3 : Int32) (t8 : St), fX9_leavesSo_20 a1 a2 n a3 a4 s0 = some (q3, t8) → AW E layM p l e (rmD 108) ms m args below meth c 5 0 0 Q 69 [(3, .int q3)] [] t8 → AW E layM p l e (rmD 108) ms m args below meth c 5 0 0 Q 20 [(0, .ref (ea E 0)), (1, .int a1), (2, .int a2), (3, .int a3), (4, .int a4)] [] s0 := by
  intro n
  induction n with
  | zero =>
    intro a3 a4 s0 q3 t8 h hE
    cases h
  | succ n ih =>
    intro a3 a4 s0 q3 t8 h hE
    rw [fX9_leavesSo_20] at h
    refine r_iload X dX9_leavesSo_20 4 rfl ?_
    refine r_aload_n X dX9_leavesSo_22 0 rfl rfl ?_
    refine r_getr X dX9_leavesSo_23 i_X9 v_X9 lM_0 18 rfl (Nat.le_of_ble_eq_true rfl) g_792 ?_
    refine r_iload_n X dX9_leavesSo_26 1 rfl rfl ?_
    obtain ⟨g4, v5, ev5, h⟩ := ld_ok h
    refine s_iald X dX9_leavesSo_27 lM_8 g4 ev5 ?_
    refine r_icmp_ge X 69 dX9_leavesSo_28 (by decide) (fun c14 => ?_) (fun c14 => ?_)
    · rw [if_pos c14] at h
      refine r_sub (L' := [(3, .int a3)]) [3] rfl ?_
      cases h
      exact hE
    · rw [if_neg c14] at h
      refine r_iload_n X dX9_leavesSo_31 3 rfl rfl ?_
      refine r_if_eq X 69 dX9_leavesSo_32 (by decide) (fun c13 => ?_) (fun c13 => ?_)
      · rw [if_pos c13] at h
        refine r_sub (L' := [(3, .int a3)]) [3] rfl ?_
        cases h
        exact hE
      · rw [if_neg c13] at h
        refine r_aload_n X dX9_leavesSo_35 0 rfl rfl ?_
        refine r_getr X dX9_leavesSo_36 i_X9 v_X9 lM_0 19 rfl (Nat.le_of_ble_eq_true rfl) g_793 ?_
        refine r_bipush X dX9_leavesSo_39 (v := 40) (by decide) ?_
        refine r_iload_n X dX9_leavesSo_41 1 rfl rfl ?_
        refine r_imul X dX9_leavesSo_42 ?_
        refine r_iload X dX9_leavesSo_43 4 rfl ?_
        refine r_iadd X dX9_leavesSo_45 ?_
        obtain ⟨g6, v7, ev7, h⟩ := ld_ok h
        refine s_iald X dX9_leavesSo_46 lM_9 g6 ev7 ?_
        refine r_aload_n X dX9_leavesSo_47 0 rfl rfl ?_
        refine r_iload_n X dX9_leavesSo_48 2 rfl rfl ?_
        refine r_iload X dX9_leavesSo_49 4 rfl ?_
        obtain ⟨u10, s8, e9, h⟩ := bd2_ok h
        refine kX9_left X (ctX9_left e9) dX9_leavesSo_51 lM_0 g_924 (Nat.le_of_ble_eq_true rfl) (Nat.le_of_ble_eq_true rfl) ?_
        obtain ⟨j62, ej62, h⟩ := jn1_ok h
        have hj62 : ∀ (w11 : Int32), j62 w11 = some (q3, t8) → AW E layM p l e (rmD 108) ms m args below meth c 5 0 0 Q 62 [(0, .ref (ea E 0)), (1, .int a1), (2, .int a2), (4, .int a4)] [.int w11] s8 := by
          intro w11 h
          rw [ej62] at h
          refine r_istore_n (L' := [(0, .ref (ea E 0)), (1, .int a1), (2, .int a2), (3, .int w11), (4, .int a4)]) X dX9_leavesSo_62 [1, 2, 3, 0, 4] rfl rfl (Nat.le_of_ble_eq_true rfl) ?_
          refine r_iinc (L' := [(0, .ref (ea E 0)), (1, .int a1), (2, .int a2), (3, .int w11), (4, .int (a4 + 1))]) (v := a4 + 1) X dX9_leavesSo_63 4 rfl rfl [1, 2, 3, 4, 0] rfl (Nat.le_of_ble_eq_true rfl) ?_
          refine r_goto X 20 dX9_leavesSo_66 (by decide) ?_
          exact ih _ _ _ _ _ h hE
        refine r_icmp_ne X 61 dX9_leavesSo_54 (by decide) (fun c12 => ?_) (fun c12 => ?_)
        · rw [if_neg c12] at h
          refine r_iconst X dX9_leavesSo_61 (v := 0) (by decide) ?_
          refine r_sub (L' := [(0, .ref (ea E 0)), (1, .int a1), (2, .int a2), (4, .int a4)]) [0, 1, 2, 4] rfl ?_
          exact hj62 _ h
        · rw [if_pos c12] at h
          refine r_iconst X dX9_leavesSo_57 (v := 1) (by decide) ?_
          refine r_goto X 62 dX9_leavesSo_58 (by decide) ?_
          refine r_sub (L' := [(0, .ref (ea E 0)), (1, .int a1), (2, .int a2), (4, .int a4)]) [0, 1, 2, 4] rfl ?_
          exact hj62 _ h
set_option maxHeartbeats 4000000 in
set_option maxRecDepth 100000 in
theorem ctX9_leavesSo {l : Launch} {E : EE} {a1 : Int32} {a2 : Int32} {s0 : St} {r9 : Int32} {t9 : St}  (h : fX9_leavesSo a1 a2 s0 = some (r9, t9)) : Ct l E layM yX9_leavesSo cX9_leavesSo 5 (some .boolean) 108 [.ref (ea E 0), .int a1, .int a2] s0 (some (.int r9)) t9 := by
  refine Ct.of (by decide) (Nat.le_of_ble_eq_true rfl) ?_
  intro p e ms m below meth c X hlk hr
  have X : Cx E layM p ms m [.ref (ea E 0), .int a1, .int a2].toArray c cX9_leavesSo RX9 5 := X
  refine r_sub (L' := [(0, .ref (ea E 0)), (1, .int a1), (2, .int a2)]) [0, 1, 2] rfl ?_
  unfold fX9_leavesSo at h
  refine r_aload_n X dX9_leavesSo_0 0 rfl rfl ?_
  refine r_getr X dX9_leavesSo_1 i_X9 v_X9 lM_0 18 rfl (Nat.le_of_ble_eq_true rfl) g_792 ?_
  refine r_iload_n X dX9_leavesSo_4 1 rfl rfl ?_
  obtain ⟨g1, v2, ev2, h⟩ := ld_ok h
  refine s_iald X dX9_leavesSo_5 lM_8 g1 ev2 ?_
  refine r_bipush X dX9_leavesSo_6 (v := 6) (by decide) ?_
  obtain ⟨j16, ej16, h⟩ := jn1_ok h
  have hj16 : ∀ (w3 : Int32), j16 w3 = some (r9, t9) → AW E layM p l e (rmD 108) ms m [.ref (ea E 0), .int a1, .int a2].toArray below meth c 5 0 0 (MQc E layM below [.ref (ea E 0), .int a1, .int a2].toArray ms (some (.int r9)) t9) 16 [(0, .ref (ea E 0)), (1, .int a1), (2, .int a2)] [.int w3] s0 := by
    intro w3 h
    rw [ej16] at h
    refine r_istore_n (L' := [(0, .ref (ea E 0)), (1, .int a1), (2, .int a2), (3, .int w3)]) X dX9_leavesSo_16 [1, 2, 3, 0] rfl rfl (Nat.le_of_ble_eq_true rfl) ?_
    refine r_iconst X dX9_leavesSo_17 (v := 0) (by decide) ?_
    refine r_istore (L' := [(0, .ref (ea E 0)), (1, .int a1), (2, .int a2), (3, .int w3), (4, .int 0)]) X dX9_leavesSo_18 [1, 2, 3, 4, 0] rfl (Nat.le_of_ble_eq_true rfl) ?_
    obtain ⟨v16, s15, eo, h⟩ := bd2_ok h
    refine LX9_leavesSo_20 X FU _ _ _ _ _ eo ?_
    refine r_iload_n X dX9_leavesSo_69 0 rfl rfl ?_
    obtain ⟨g17, h⟩ := gb_ok h
    exact s_zret X hlk hr g17.1 dX9_leavesSo_70 h
  refine r_icmp_gt X 15 dX9_leavesSo_8 (by decide) (fun c18 => ?_) (fun c18 => ?_)
  · rw [if_pos c18] at h
    refine r_iconst X dX9_leavesSo_15 (v := 0) (by decide) ?_
    exact hj16 _ h
  · rw [if_neg c18] at h
    refine r_iconst X dX9_leavesSo_11 (v := 1) (by decide) ?_
    refine r_goto X 16 dX9_leavesSo_12 (by decide) ?_
    exact hj16 _ h
/-! X9_whose -/
theorem nX9_whose : yX9_whose.cls ≠ "java/lang/invoke/MethodHandle" ∧ yX9_whose.cls ≠ "java/lang/invoke/VarHandle" ∧ (parseMethodDescriptor yX9_whose.desc).map (fun d => d.parameters.length) = some 3 := by decide +kernel
theorem kX9_whose {l : Launch} {E : EE} {p : Program} {e : Env} {ms : State} {m : MethodId} {args : Array Value} {below : List Frame} {meth : Method} {c : Code} {cc : ByteArray} {own : String} {nL pc idx d D : Nat} {Q : State → Prop} {L : List (Nat × Value)} {rest : List Value} {σ τ : St} {a1 : Int32} {a2 : Int32} {a3 : Int32} {r : Int32} {fl : List (Option Nat)} (X : Cx E layM p ms m args c cc own nL) (hM : Ct l E layM yX9_whose cX9_whose 8 (some .int) d [.ref (ea E 0), .int a1, .int a2, .int a3] σ (some (.int r)) τ) (hd : decode cc pc = .ok (.invokevirtual idx, 3)) (hlay : layM[0]? = some (.inl (8, fl))) (w1 : Cond.methodLink own idx yX9_whose ∈ gw) (hR : d + 1 ≤ D) (hrs : (rest.map fun v => v.category).sum ≤ 8) (k : AW E layM p l e (rmD D) ms m args below meth c nL 0 0 Q (pc + 3) L (.int r :: rest) τ) : AW E layM p l e (rmD D) ms m args below meth c nL 0 0 Q pc L (.int a3 :: .int a2 :: .int a1 :: .ref (ea E 0) :: rest) σ :=
  s_callV X [.int a1, .int a2, .int a3] rest hM hd v_X9 hlay w1 g_1107 g_1108 g_77 g_1109 nX9_whose rfl rfl hrs (Nat.le_of_ble_eq_true rfl) hR k
def fX9_whose_70 (a1 : Int32) (a2 : Int32) (a3 : Int32) : Nat → Int32 → Int32 → Int32 → St → Option (Int32 × Int32 × St)
  | 0, _, _, _, _ => none
  | n + 1, a4, a5, a6, s0 =>
    if a6 < 0 then
    some (a4, a5, s0)
    else
    bd1 (fX9_puts a2 0 (a6 / 10) s0) fun s18 =>
    bd1 (fX9_puts a2 2 (irm a6 10) s18) fun s20 =>
    bd2 (fX9_leavesSo a1 a2 s20) fun u24 s22 =>
    jn (fun (w25 : Int32) =>
    jn (fun (w26 : Int32) =>
    fX9_whose_70 a1 a2 a3 n (a4 + w25) w26 (a6 + (-1)) s22) fun j132 =>
    if u24 = 0 then
    j132 a5
    else
    j132 a6) fun j117 =>
    if u24 = 0 then
    j117 0
    else
    j117 1
def fX9_whose (a1 : Int32) (a2 : Int32) (a3 : Int32) (s0 : St) : Option (Int32 × St) :=
    bd2 (fX9_isSheet a1 s0) fun u3 s1 =>
    jn (fun (s4 : St) =>
    bd2 (fX9_errs (-1000000001) s4) fun u7 s5 =>
    some (u7, s5)) fun j24 =>
    if u3 = 0 then
    j24 s1
    else
    bd2 (fX9_isDiner a2 s1) fun u10 s8 =>
    if u10 = 0 then
    j24 s8
    else
    bd2 (fX9_in a3 0 1 s8) fun u13 s11 =>
    if u13 = 0 then
    j24 s11
    else
    bd1 (ald s11 7 4 a1) fun v15 =>
    if v15 = 0 then
    bd2 (fX9_errs (-1000000002) s11) fun u42 s40 =>
    some (u42, s40)
    else
    bd1 (fX9_moveAll 1 257 3 257 s11) fun s16 =>
    bd3 (fX9_whose_70 a1 a2 a3 FU 0 (-1000000002) 69 s16) fun v31 v32 s30 =>
    bd1 (fX9_moveAll 3 257 1 257 s30) fun s33 =>
    if a3 = 0 then
    some (v31, s33)
    else
    if 0 ≤ v32 then
    some (v32, s33)
    else
    bd2 (fX9_errs (-1000000002) s33) fun u37 s35 =>
    some (u37, s35)
set_option maxHeartbeats 4000000 in
set_option maxRecDepth 100000 in
theorem LX9_whose_70 {l : Launch} {E : EE} {p : Program} {e : Env} {ms : State} {m : MethodId} {args : Array Value} {below : List Frame} {meth : Method} {c : Code} {a1 : Int32} {a2 : Int32} {a3 : Int32} {Q : State → Prop} (X : Cx E layM p ms m args c cX9_whose RX9 8) : ∀ (n : Nat) (a4 : Int32) (a5 : Int32) (a6 : Int32) (s0 : St) (q4 : Int32) (q5 : Int32) (t8 : St), fX9_whose_70 a1 a2 a3 n a4 a5 a6 s0 = some (q4, q5, t8) → AW E layM p l e (rmD 109) ms m args below meth c 8 0 0 Q 140 [(0, .ref (ea E 0)), (3, .int a3), (4, .int q4), (5, .int q5)] [] t8 → AW E layM p l e (rmD 109) ms m args below meth c 8 0 0 Q 70 [(0, .ref (ea E 0)), (1, .int a1), (2, .int a2), (3, .int a3), (4, .int a4), (5, .int a5), (6, .int a6)] [] s0 := by
  intro n
  induction n with
  | zero =>
    intro a4 a5 a6 s0 q4 q5 t8 h hE
    cases h
  | succ n ih =>
    intro a4 a5 a6 s0 q4 q5 t8 h hE
    rw [fX9_whose_70] at h
    refine r_iload X dX9_whose_70 6 rfl ?_
    refine r_if_lt X 140 dX9_whose_72 (by decide) (fun c29 => ?_) (fun c29 => ?_)
    · rw [if_pos c29] at h
      refine r_sub (L' := [(0, .ref (ea E 0)), (3, .int a3), (4, .int a4), (5, .int a5)]) [0, 3, 4, 5] rfl ?_
      cases h
      exact hE
    · rw [if_neg c29] at h
      refine r_aload_n X dX9_whose_75 0 rfl rfl ?_
      refine r_iload_n X dX9_whose_76 2 rfl rfl ?_
      refine r_iconst X dX9_whose_77 (v := 0) (by decide) ?_
      refine r_iload X dX9_whose_78 6 rfl ?_
      refine r_bipush X dX9_whose_80 (v := 10) (by decide) ?_
      refine r_idiv X dX9_whose_82 (by decide) ?_
      obtain ⟨s18, e19, h⟩ := bd1_ok h
      refine kX9_puts X (ctX9_puts e19) dX9_whose_83 lM_0 g_904 (Nat.le_of_ble_eq_true rfl) (Nat.le_of_ble_eq_true rfl) ?_
      refine r_aload_n X dX9_whose_86 0 rfl rfl ?_
      refine r_iload_n X dX9_whose_87 2 rfl rfl ?_
      refine r_iconst X dX9_whose_88 (v := 2) (by decide) ?_
      refine r_iload X dX9_whose_89 6 rfl ?_
      refine r_bipush X dX9_whose_91 (v := 10) (by decide) ?_
      refine s_irem X dX9_whose_93 (by decide) ?_
      obtain ⟨s20, e21, h⟩ := bd1_ok h
      refine kX9_puts X (ctX9_puts e21) dX9_whose_94 lM_0 g_904 (Nat.le_of_ble_eq_true rfl) (Nat.le_of_ble_eq_true rfl) ?_
      refine r_aload_n X dX9_whose_97 0 rfl rfl ?_
      refine r_iload_n X dX9_whose_98 1 rfl rfl ?_
      refine r_iload_n X dX9_whose_99 2 rfl rfl ?_
      obtain ⟨u24, s22, e23, h⟩ := bd2_ok h
      refine kX9_leavesSo X (ctX9_leavesSo e23) dX9_whose_100 lM_0 g_1113 (Nat.le_of_ble_eq_true rfl) (Nat.le_of_ble_eq_true rfl) ?_
      refine r_istore (L' := [(0, .ref (ea E 0)), (1, .int a1), (2, .int a2), (3, .int a3), (4, .int a4), (5, .int a5), (6, .int a6), (7, .int u24)]) X dX9_whose_103 [1, 2, 3, 4, 5, 6, 7, 0] rfl (Nat.le_of_ble_eq_true rfl) ?_
      refine r_iload X dX9_whose_105 4 rfl ?_
      refine r_iload X dX9_whose_107 7 rfl ?_
      obtain ⟨j117, ej117, h⟩ := jn1_ok h
      have hj117 : ∀ (w25 : Int32), j117 w25 = some (q4, q5, t8) → AW E layM p l e (rmD 109) ms m args below meth c 8 0 0 Q 117 [(0, .ref (ea E 0)), (1, .int a1), (2, .int a2), (3, .int a3), (5, .int a5), (6, .int a6), (7, .int u24)] [.int w25, .int a4] s22 := by
        intro w25 h
        rw [ej117] at h
        refine r_iadd X dX9_whose_117 ?_
        refine r_istore (L' := [(0, .ref (ea E 0)), (1, .int a1), (2, .int a2), (3, .int a3), (4, .int (a4 + w25)), (5, .int a5), (6, .int a6), (7, .int u24)]) X dX9_whose_118 [1, 2, 3, 4, 0, 5, 6, 7] rfl (Nat.le_of_ble_eq_true rfl) ?_
        refine r_iload X dX9_whose_120 7 rfl ?_
        obtain ⟨j132, ej132, h⟩ := jn1_ok h
        have hj132 : ∀ (w26 : Int32), j132 w26 = some (q4, q5, t8) → AW E layM p l e (rmD 109) ms m args below meth c 8 0 0 Q 132 [(0, .ref (ea E 0)), (1, .int a1), (2, .int a2), (3, .int a3), (4, .int (a4 + w25)), (6, .int a6)] [.int w26] s22 := by
          intro w26 h
          rw [ej132] at h
          refine r_istore (L' := [(0, .ref (ea E 0)), (1, .int a1), (2, .int a2), (3, .int a3), (4, .int (a4 + w25)), (5, .int w26), (6, .int a6)]) X dX9_whose_132 [1, 2, 3, 4, 5, 0, 6] rfl (Nat.le_of_ble_eq_true rfl) ?_
          refine r_iinc (L' := [(0, .ref (ea E 0)), (1, .int a1), (2, .int a2), (3, .int a3), (4, .int (a4 + w25)), (5, .int w26), (6, .int (a6 + (-1)))]) (v := a6 + (-1)) X dX9_whose_134 6 rfl rfl [1, 2, 3, 4, 5, 6, 0] rfl (Nat.le_of_ble_eq_true rfl) ?_
          refine r_goto X 70 dX9_whose_137 (by decide) ?_
          exact ih _ _ _ _ _ _ _ h hE
        refine r_if_eq X 130 dX9_whose_122 (by decide) (fun c27 => ?_) (fun c27 => ?_)
        · rw [if_pos c27] at h
          refine r_iload X dX9_whose_130 5 rfl ?_
          refine r_sub (L' := [(0, .ref (ea E 0)), (1, .int a1), (2, .int a2), (3, .int a3), (4, .int (a4 + w25)), (6, .int a6)]) [0, 1, 2, 3, 4, 6] rfl ?_
          exact hj132 _ h
        · rw [if_neg c27] at h
          refine r_iload X dX9_whose_125 6 rfl ?_
          refine r_goto X 132 dX9_whose_127 (by decide) ?_
          refine r_sub (L' := [(0, .ref (ea E 0)), (1, .int a1), (2, .int a2), (3, .int a3), (4, .int (a4 + w25)), (6, .int a6)]) [0, 1, 2, 3, 4, 6] rfl ?_
          exact hj132 _ h
      refine r_if_eq X 116 dX9_whose_109 (by decide) (fun c28 => ?_) (fun c28 => ?_)
      · rw [if_pos c28] at h
        refine r_iconst X dX9_whose_116 (v := 0) (by decide) ?_
        refine r_sub (L' := [(0, .ref (ea E 0)), (1, .int a1), (2, .int a2), (3, .int a3), (5, .int a5), (6, .int a6), (7, .int u24)]) [0, 1, 2, 3, 5, 6, 7] rfl ?_
        exact hj117 _ h
      · rw [if_neg c28] at h
        refine r_iconst X dX9_whose_112 (v := 1) (by decide) ?_
        refine r_goto X 117 dX9_whose_113 (by decide) ?_
        refine r_sub (L' := [(0, .ref (ea E 0)), (1, .int a1), (2, .int a2), (3, .int a3), (5, .int a5), (6, .int a6), (7, .int u24)]) [0, 1, 2, 3, 5, 6, 7] rfl ?_
        exact hj117 _ h
set_option maxHeartbeats 4000000 in
set_option maxRecDepth 100000 in
theorem ctX9_whose {l : Launch} {E : EE} {a1 : Int32} {a2 : Int32} {a3 : Int32} {s0 : St} {r9 : Int32} {t9 : St}  (h : fX9_whose a1 a2 a3 s0 = some (r9, t9)) : Ct l E layM yX9_whose cX9_whose 8 (some .int) 109 [.ref (ea E 0), .int a1, .int a2, .int a3] s0 (some (.int r9)) t9 := by
  refine Ct.of (by decide) (Nat.le_of_ble_eq_true rfl) ?_
  intro p e ms m below meth c X hlk hr
  have X : Cx E layM p ms m [.ref (ea E 0), .int a1, .int a2, .int a3].toArray c cX9_whose RX9 8 := X
  refine r_sub (L' := [(0, .ref (ea E 0)), (1, .int a1), (2, .int a2), (3, .int a3)]) [0, 1, 2, 3] rfl ?_
  unfold fX9_whose at h
  refine r_iload_n X dX9_whose_0 1 rfl rfl ?_
  obtain ⟨u3, s1, e2, h⟩ := bd2_ok h
  refine kX9_isSheet X (ctX9_isSheet e2) dX9_whose_1 g_1110 (Nat.le_of_ble_eq_true rfl) (Nat.le_of_ble_eq_true rfl) ?_
  obtain ⟨j24, ej24, h⟩ := jn1_ok h
  have hj24 : ∀ (s4 : St), j24 s4 = some (r9, t9) → AW E layM p l e (rmD 109) ms m [.ref (ea E 0), .int a1, .int a2, .int a3].toArray below meth c 8 0 0 (MQc E layM below [.ref (ea E 0), .int a1, .int a2, .int a3].toArray ms (some (.int r9)) t9) 24 [(0, .ref (ea E 0))] [] s4 := by
    intro s4 h
    rw [ej24] at h
    refine r_aload_n X dX9_whose_24 0 rfl rfl ?_
    refine r_ldc X dX9_whose_25 g_873 ?_
    obtain ⟨u7, s5, e6, h⟩ := bd2_ok h
    refine kX9_errs X (ctX9_errs e6) dX9_whose_27 lM_0 g_874 (Nat.le_of_ble_eq_true rfl) (Nat.le_of_ble_eq_true rfl) ?_
    exact s_iret X hlk hr dX9_whose_30 h
  refine r_if_eq X 24 dX9_whose_4 (by decide) (fun c46 => ?_) (fun c46 => ?_)
  · rw [if_pos c46] at h
    refine r_sub (L' := [(0, .ref (ea E 0))]) [0] rfl ?_
    exact hj24 _ h
  · rw [if_neg c46] at h
    refine r_aload_n X dX9_whose_7 0 rfl rfl ?_
    refine r_iload_n X dX9_whose_8 2 rfl rfl ?_
    obtain ⟨u10, s8, e9, h⟩ := bd2_ok h
    refine kX9_isDiner X (ctX9_isDiner e9) dX9_whose_9 lM_0 g_912 (Nat.le_of_ble_eq_true rfl) (Nat.le_of_ble_eq_true rfl) ?_
    refine r_if_eq X 24 dX9_whose_12 (by decide) (fun c45 => ?_) (fun c45 => ?_)
    · rw [if_pos c45] at h
      refine r_sub (L' := [(0, .ref (ea E 0))]) [0] rfl ?_
      exact hj24 _ h
    · rw [if_neg c45] at h
      refine r_iload_n X dX9_whose_15 3 rfl rfl ?_
      refine r_iconst X dX9_whose_16 (v := 0) (by decide) ?_
      refine r_iconst X dX9_whose_17 (v := 1) (by decide) ?_
      obtain ⟨u13, s11, e12, h⟩ := bd2_ok h
      refine kX9_in X (ctX9_in e12) dX9_whose_18 g_866 (Nat.le_of_ble_eq_true rfl) (Nat.le_of_ble_eq_true rfl) ?_
      refine r_if_ne X 31 dX9_whose_21 (by decide) (fun c44 => ?_) (fun c44 => ?_)
      · rw [if_neg c44] at h
        refine r_aload_n X dX9_whose_31 0 rfl rfl ?_
        refine r_getr X dX9_whose_32 i_X9 v_X9 lM_0 17 rfl (Nat.le_of_ble_eq_true rfl) g_791 ?_
        refine r_iload_n X dX9_whose_35 1 rfl rfl ?_
        obtain ⟨g14, v15, ev15, h⟩ := ld_ok h
        refine s_iald X dX9_whose_36 lM_7 g14 ev15 ?_
        refine r_if_ne X 47 dX9_whose_37 (by decide) (fun c43 => ?_) (fun c43 => ?_)
        · rw [if_neg c43] at h
          refine r_aload_n X dX9_whose_47 0 rfl rfl ?_
          refine r_aload_n X dX9_whose_48 0 rfl rfl ?_
          refine r_getr X dX9_whose_49 i_X9 v_X9 lM_0 0 rfl (Nat.le_of_ble_eq_true rfl) g_774 ?_
          refine r_aload_n X dX9_whose_52 0 rfl rfl ?_
          refine r_getr X dX9_whose_53 i_X9 v_X9 lM_0 2 rfl (Nat.le_of_ble_eq_true rfl) g_776 ?_
          obtain ⟨s16, e17, h⟩ := bd1_ok h
          refine kX9_moveAll X (ctX9_moveAll lM_1 lM_3 e17) dX9_whose_56 lM_0 g_1027 (Nat.le_of_ble_eq_true rfl) (Nat.le_of_ble_eq_true rfl) ?_
          refine r_iconst X dX9_whose_59 (v := 0) (by decide) ?_
          refine r_istore (L' := [(0, .ref (ea E 0)), (1, .int a1), (2, .int a2), (3, .int a3), (4, .int 0)]) X dX9_whose_60 [1, 2, 3, 4, 0] rfl (Nat.le_of_ble_eq_true rfl) ?_
          refine r_ldc X dX9_whose_62 g_1077 ?_
          refine r_istore (L' := [(0, .ref (ea E 0)), (1, .int a1), (2, .int a2), (3, .int a3), (4, .int 0), (5, .int (-1000000002))]) X dX9_whose_64 [1, 2, 3, 4, 5, 0] rfl (Nat.le_of_ble_eq_true rfl) ?_
          refine r_bipush X dX9_whose_66 (v := 69) (by decide) ?_
          refine r_istore (L' := [(0, .ref (ea E 0)), (1, .int a1), (2, .int a2), (3, .int a3), (4, .int 0), (5, .int (-1000000002)), (6, .int 69)]) X dX9_whose_68 [1, 2, 3, 4, 5, 6, 0] rfl (Nat.le_of_ble_eq_true rfl) ?_
          obtain ⟨v31, v32, s30, eo, h⟩ := bd3_ok h
          refine LX9_whose_70 X FU _ _ _ _ _ _ _ eo ?_
          refine r_aload_n X dX9_whose_140 0 rfl rfl ?_
          refine r_aload_n X dX9_whose_141 0 rfl rfl ?_
          refine r_getr X dX9_whose_142 i_X9 v_X9 lM_0 2 rfl (Nat.le_of_ble_eq_true rfl) g_776 ?_
          refine r_aload_n X dX9_whose_145 0 rfl rfl ?_
          refine r_getr X dX9_whose_146 i_X9 v_X9 lM_0 0 rfl (Nat.le_of_ble_eq_true rfl) g_774 ?_
          obtain ⟨s33, e34, h⟩ := bd1_ok h
          refine kX9_moveAll X (ctX9_moveAll lM_3 lM_1 e34) dX9_whose_149 lM_0 g_1027 (Nat.le_of_ble_eq_true rfl) (Nat.le_of_ble_eq_true rfl) ?_
          refine r_iload_n X dX9_whose_152 1 rfl rfl ?_
          refine r_if_ne X 161 dX9_whose_153 (by decide) (fun c39 => ?_) (fun c39 => ?_)
          · rw [if_neg c39] at h
            refine r_iload X dX9_whose_161 3 rfl ?_
            refine r_if_ge X 175 dX9_whose_163 (by decide) (fun c38 => ?_) (fun c38 => ?_)
            · rw [if_pos c38] at h
              refine r_iload X dX9_whose_175 3 rfl ?_
              exact s_iret X hlk hr dX9_whose_177 h
            · rw [if_neg c38] at h
              refine r_aload_n X dX9_whose_166 0 rfl rfl ?_
              refine r_ldc X dX9_whose_167 g_1077 ?_
              obtain ⟨u37, s35, e36, h⟩ := bd2_ok h
              refine kX9_errs X (ctX9_errs e36) dX9_whose_169 lM_0 g_874 (Nat.le_of_ble_eq_true rfl) (Nat.le_of_ble_eq_true rfl) ?_
              refine r_goto X 177 dX9_whose_172 (by decide) ?_
              exact s_iret X hlk hr dX9_whose_177 h
          · rw [if_pos c39] at h
            refine r_iload X dX9_whose_156 2 rfl ?_
            refine r_goto X 177 dX9_whose_158 (by decide) ?_
            exact s_iret X hlk hr dX9_whose_177 h
        · rw [if_pos c43] at h
          refine r_aload_n X dX9_whose_40 0 rfl rfl ?_
          refine r_ldc X dX9_whose_41 g_1077 ?_
          obtain ⟨u42, s40, e41, h⟩ := bd2_ok h
          refine kX9_errs X (ctX9_errs e41) dX9_whose_43 lM_0 g_874 (Nat.le_of_ble_eq_true rfl) (Nat.le_of_ble_eq_true rfl) ?_
          exact s_iret X hlk hr dX9_whose_46 h
      · rw [if_pos c44] at h
        refine r_sub (L' := [(0, .ref (ea E 0))]) [0] rfl ?_
        exact hj24 _ h
/-! X9_grievesSo -/
theorem nX9_grievesSo : yX9_grievesSo.cls ≠ "java/lang/invoke/MethodHandle" ∧ yX9_grievesSo.cls ≠ "java/lang/invoke/VarHandle" ∧ (parseMethodDescriptor yX9_grievesSo.desc).map (fun d => d.parameters.length) = some 2 := by decide +kernel
theorem kX9_grievesSo {l : Launch} {E : EE} {p : Program} {e : Env} {ms : State} {m : MethodId} {args : Array Value} {below : List Frame} {meth : Method} {c : Code} {cc : ByteArray} {own : String} {nL pc idx d D : Nat} {Q : State → Prop} {L : List (Nat × Value)} {rest : List Value} {σ τ : St} {a1 : Int32} {a2 : Int32} {r : Int32} {fl : List (Option Nat)} (X : Cx E layM p ms m args c cc own nL) (hM : Ct l E layM yX9_grievesSo cX9_grievesSo 5 (some .boolean) d [.ref (ea E 0), .int a1, .int a2] σ (some (.int r)) τ) (hd : decode cc pc = .ok (.invokevirtual idx, 3)) (hlay : layM[0]? = some (.inl (8, fl))) (w1 : Cond.methodLink own idx yX9_grievesSo ∈ gw) (hR : d + 1 ≤ D) (hrs : (rest.map fun v => v.category).sum ≤ 8) (k : AW E layM p l e (rmD D) ms m args below meth c nL 0 0 Q (pc + 3) L (.int r :: rest) τ) : AW E layM p l e (rmD D) ms m args below meth c nL 0 0 Q pc L (.int a2 :: .int a1 :: .ref (ea E 0) :: rest) σ :=
  s_callV X [.int a1, .int a2] rest hM hd v_X9 hlay w1 g_1123 g_57 g_77 g_1124 nX9_grievesSo rfl rfl hrs (Nat.le_of_ble_eq_true rfl) hR k
def fX9_grievesSo_5 (a1 : Int32) (a2 : Int32) : Nat → Int32 → Int32 → St → Option (Int32 × St)
  | 0, _, _, _ => none
  | n + 1, a3, a4, s0 =>
    bd1 (ald s0 8 4 a1) fun v2 =>
    if v2 ≤ a4 then
    some (a3, s0)
    else
    if a3 = 0 then
    some (a3, s0)
    else
    bd1 (fX9_oneDay  s0) fun s3 =>
    bd1 (ald s3 9 160 ((40 * a1) + a4)) fun v6 =>
    bd2 (fX9_its a2 2 s3) fun u9 s7 =>
    jn (fun (w10 : Int32) =>
    fX9_grievesSo_5 a1 a2 n w10 (a4 + 1) s7) fun j50 =>
    if v6 = u9 then
    j50 1
    else
    j50 0
def fX9_grievesSo (a1 : Int32) (a2 : Int32) (s0 : St) : Option (Int32 × St) :=
    bd2 (fX9_grievesSo_5 a1 a2 FU 1 0 s0) fun v15 s14 =>
    bd1 (fX9_moveAll 3 257 1 257 s14) fun s16 =>
    gb v15 <| some (v15, s16)
set_option maxHeartbeats 4000000 in
set_option maxRecDepth 100000 in
theorem LX9_grievesSo_5 {l : Launch} {E : EE} {p : Program} {e : Env} {ms : State} {m : MethodId} {args : Array Value} {below : List Frame} {meth : Method} {c : Code} {a1 : Int32} {a2 : Int32} {Q : State → Prop} (X : Cx E layM p ms m args c cX9_grievesSo RX9 5) : ∀ (n : Nat) (a3 : Int32) (a4 : Int32) (s0 : St) (q3 : Int32) (t8 : St), fX9_grievesSo_5 a1 a2 n a3 a4 s0 = some (q3, t8) → AW E layM p l e (rmD 110) ms m args below meth c 5 0 0 Q 57 [(0, .ref (ea E 0)), (3, .int q3)] [] t8 → AW E layM p l e (rmD 110) ms m args below meth c 5 0 0 Q 5 [(0, .ref (ea E 0)), (1, .int a1), (2, .int a2), (3, .int a3), (4, .int a4)] [] s0 := by
  intro n
  induction n with
  | zero =>
    intro a3 a4 s0 q3 t8 h hE
    cases h
  | succ n ih =>
    intro a3 a4 s0 q3 t8 h hE
    rw [fX9_grievesSo_5] at h
    refine r_iload X dX9_grievesSo_5 4 rfl ?_
    refine r_aload_n X dX9_grievesSo_7 0 rfl rfl ?_
    refine r_getr X dX9_grievesSo_8 i_X9 v_X9 lM_0 18 rfl (Nat.le_of_ble_eq_true rfl) g_792 ?_
    refine r_iload_n X dX9_grievesSo_11 1 rfl rfl ?_
    obtain ⟨g1, v2, ev2, h⟩ := ld_ok h
    refine s_iald X dX9_grievesSo_12 lM_8 g1 ev2 ?_
    refine r_icmp_ge X 57 dX9_grievesSo_13 (by decide) (fun c13 => ?_) (fun c13 => ?_)
    · rw [if_pos c13] at h
      refine r_sub (L' := [(0, .ref (ea E 0)), (3, .int a3)]) [0, 3] rfl ?_
      cases h
      exact hE
    · rw [if_neg c13] at h
      refine r_iload_n X dX9_grievesSo_16 3 rfl rfl ?_
      refine r_if_eq X 57 dX9_grievesSo_17 (by decide) (fun c12 => ?_) (fun c12 => ?_)
      · rw [if_pos c12] at h
        refine r_sub (L' := [(0, .ref (ea E 0)), (3, .int a3)]) [0, 3] rfl ?_
        cases h
        exact hE
      · rw [if_neg c12] at h
        refine r_aload_n X dX9_grievesSo_20 0 rfl rfl ?_
        obtain ⟨s3, e4, h⟩ := bd1_ok h
        refine kX9_oneDay X (ctX9_oneDay e4) dX9_grievesSo_21 lM_0 g_1040 (Nat.le_of_ble_eq_true rfl) (Nat.le_of_ble_eq_true rfl) ?_
        refine r_aload_n X dX9_grievesSo_24 0 rfl rfl ?_
        refine r_getr X dX9_grievesSo_25 i_X9 v_X9 lM_0 19 rfl (Nat.le_of_ble_eq_true rfl) g_793 ?_
        refine r_bipush X dX9_grievesSo_28 (v := 40) (by decide) ?_
        refine r_iload_n X dX9_grievesSo_30 1 rfl rfl ?_
        refine r_imul X dX9_grievesSo_31 ?_
        refine r_iload X dX9_grievesSo_32 4 rfl ?_
        refine r_iadd X dX9_grievesSo_34 ?_
        obtain ⟨g5, v6, ev6, h⟩ := ld_ok h
        refine s_iald X dX9_grievesSo_35 lM_9 g5 ev6 ?_
        refine r_aload_n X dX9_grievesSo_36 0 rfl rfl ?_
        refine r_iload_n X dX9_grievesSo_37 2 rfl rfl ?_
        refine r_iconst X dX9_grievesSo_38 (v := 2) (by decide) ?_
        obtain ⟨u9, s7, e8, h⟩ := bd2_ok h
        refine kX9_its X (ctX9_its e8) dX9_grievesSo_39 lM_0 g_916 (Nat.le_of_ble_eq_true rfl) (Nat.le_of_ble_eq_true rfl) ?_
        obtain ⟨j50, ej50, h⟩ := jn1_ok h
        have hj50 : ∀ (w10 : Int32), j50 w10 = some (q3, t8) → AW E layM p l e (rmD 110) ms m args below meth c 5 0 0 Q 50 [(0, .ref (ea E 0)), (1, .int a1), (2, .int a2), (4, .int a4)] [.int w10] s7 := by
          intro w10 h
          rw [ej50] at h
          refine r_istore_n (L' := [(0, .ref (ea E 0)), (1, .int a1), (2, .int a2), (3, .int w10), (4, .int a4)]) X dX9_grievesSo_50 [1, 2, 3, 0, 4] rfl rfl (Nat.le_of_ble_eq_true rfl) ?_
          refine r_iinc (L' := [(0, .ref (ea E 0)), (1, .int a1), (2, .int a2), (3, .int w10), (4, .int (a4 + 1))]) (v := a4 + 1) X dX9_grievesSo_51 4 rfl rfl [1, 2, 3, 4, 0] rfl (Nat.le_of_ble_eq_true rfl) ?_
          refine r_goto X 5 dX9_grievesSo_54 (by decide) ?_
          exact ih _ _ _ _ _ h hE
        refine r_icmp_ne X 49 dX9_grievesSo_42 (by decide) (fun c11 => ?_) (fun c11 => ?_)
        · rw [if_neg c11] at h
          refine r_iconst X dX9_grievesSo_49 (v := 0) (by decide) ?_
          refine r_sub (L' := [(0, .ref (ea E 0)), (1, .int a1), (2, .int a2), (4, .int a4)]) [0, 1, 2, 4] rfl ?_
          exact hj50 _ h
        · rw [if_pos c11] at h
          refine r_iconst X dX9_grievesSo_45 (v := 1) (by decide) ?_
          refine r_goto X 50 dX9_grievesSo_46 (by decide) ?_
          refine r_sub (L' := [(0, .ref (ea E 0)), (1, .int a1), (2, .int a2), (4, .int a4)]) [0, 1, 2, 4] rfl ?_
          exact hj50 _ h
set_option maxHeartbeats 4000000 in
set_option maxRecDepth 100000 in
theorem ctX9_grievesSo {l : Launch} {E : EE} {a1 : Int32} {a2 : Int32} {s0 : St} {r9 : Int32} {t9 : St}  (h : fX9_grievesSo a1 a2 s0 = some (r9, t9)) : Ct l E layM yX9_grievesSo cX9_grievesSo 5 (some .boolean) 110 [.ref (ea E 0), .int a1, .int a2] s0 (some (.int r9)) t9 := by
  refine Ct.of (by decide) (Nat.le_of_ble_eq_true rfl) ?_
  intro p e ms m below meth c X hlk hr
  have X : Cx E layM p ms m [.ref (ea E 0), .int a1, .int a2].toArray c cX9_grievesSo RX9 5 := X
  refine r_sub (L' := [(0, .ref (ea E 0)), (1, .int a1), (2, .int a2)]) [0, 1, 2] rfl ?_
  unfold fX9_grievesSo at h
  refine r_iconst X dX9_grievesSo_0 (v := 1) (by decide) ?_
  refine r_istore_n (L' := [(0, .ref (ea E 0)), (1, .int a1), (2, .int a2), (3, .int 1)]) X dX9_grievesSo_1 [1, 2, 3, 0] rfl rfl (Nat.le_of_ble_eq_true rfl) ?_
  refine r_iconst X dX9_grievesSo_2 (v := 0) (by decide) ?_
  refine r_istore (L' := [(0, .ref (ea E 0)), (1, .int a1), (2, .int a2), (3, .int 1), (4, .int 0)]) X dX9_grievesSo_3 [1, 2, 3, 4, 0] rfl (Nat.le_of_ble_eq_true rfl) ?_
  obtain ⟨v15, s14, eo, h⟩ := bd2_ok h
  refine LX9_grievesSo_5 X FU _ _ _ _ _ eo ?_
  refine r_aload_n X dX9_grievesSo_57 0 rfl rfl ?_
  refine r_aload_n X dX9_grievesSo_58 0 rfl rfl ?_
  refine r_getr X dX9_grievesSo_59 i_X9 v_X9 lM_0 2 rfl (Nat.le_of_ble_eq_true rfl) g_776 ?_
  refine r_aload_n X dX9_grievesSo_62 0 rfl rfl ?_
  refine r_getr X dX9_grievesSo_63 i_X9 v_X9 lM_0 0 rfl (Nat.le_of_ble_eq_true rfl) g_774 ?_
  obtain ⟨s16, e17, h⟩ := bd1_ok h
  refine kX9_moveAll X (ctX9_moveAll lM_3 lM_1 e17) dX9_grievesSo_66 lM_0 g_1027 (Nat.le_of_ble_eq_true rfl) (Nat.le_of_ble_eq_true rfl) ?_
  refine r_iload_n X dX9_grievesSo_69 1 rfl rfl ?_
  obtain ⟨g18, h⟩ := gb_ok h
  exact s_zret X hlk hr g18.1 dX9_grievesSo_70 h
