/-! X9_loved -/
theorem nX9_loved : yX9_loved.cls ≠ "java/lang/invoke/MethodHandle" ∧ yX9_loved.cls ≠ "java/lang/invoke/VarHandle" ∧ (parseMethodDescriptor yX9_loved.desc).map (fun d => d.parameters.length) = some 2 := by decide +kernel
theorem kX9_loved {l : Launch} {E : EE} {p : Program} {e : Env} {ms : State} {m : MethodId} {args : Array Value} {below : List Frame} {meth : Method} {c : Code} {cc : ByteArray} {own : String} {nL pc idx d D : Nat} {Q : State → Prop} {L : List (Nat × Value)} {rest : List Value} {σ τ : St} {a1 : Int32} {a2 : Int32} {r : Int32} {fl : List (Option Nat)} (X : Cx E layM p ms m args c cc own nL) (hM : Ct l E layM yX9_loved cX9_loved 5 (some .int) d [.ref (ea E 0), .int a1, .int a2] σ (some (.int r)) τ) (hd : decode cc pc = .ok (.invokevirtual idx, 3)) (hlay : layM[0]? = some (.inl (8, fl))) (w1 : Cond.methodLink own idx yX9_loved ∈ gw) (hR : d + 1 ≤ D) (hrs : (rest.map fun v => v.category).sum ≤ 8) (k : AW E layM p l e (rmD D) ms m args below meth c nL 0 0 Q (pc + 3) L (.int r :: rest) τ) : AW E layM p l e (rmD D) ms m args below meth c nL 0 0 Q pc L (.int a2 :: .int a1 :: .ref (ea E 0) :: rest) σ :=
  s_callV X [.int a1, .int a2] rest hM hd v_X9 hlay w1 g_1118 g_1119 g_77 g_1120 nX9_loved rfl rfl hrs (Nat.le_of_ble_eq_true rfl) hR k
def fX9_loved_55 (a1 : Int32) (a2 : Int32) : Nat → Int32 → Int32 → St → Option (Int32 × St)
  | 0, _, _, _ => none
  | n + 1, a3, a4, s0 =>
    if 8 ≤ a4 then
    some (a3, s0)
    else
    bd1 (fX9_puts a2 3 a4 s0) fun s15 =>
    bd2 (fX9_grievesSo a1 a2 s15) fun u19 s17 =>
    jn (fun (w20 : Int32) =>
    fX9_loved_55 a1 a2 n (a3 ||| w20) (a4 + 1) s17) fun j88 =>
    if u19 = 0 then
    j88 0
    else
    j88 (shl 1 a4)
def fX9_loved (a1 : Int32) (a2 : Int32) (s0 : St) : Option (Int32 × St) :=
    bd2 (fX9_isSheet a1 s0) fun u3 s1 =>
    jn (fun (s4 : St) =>
    bd2 (fX9_errs (-1000000001) s4) fun u7 s5 =>
    some (u7, s5)) fun j15 =>
    if u3 = 0 then
    j15 s1
    else
    bd2 (fX9_isDiner a2 s1) fun u10 s8 =>
    if u10 = 0 then
    j15 s8
    else
    bd1 (ald s8 7 4 a1) fun v12 =>
    if v12 = 0 then
    bd2 (fX9_errs (-1000000002) s8) fun u27 s25 =>
    some (u27, s25)
    else
    bd1 (fX9_moveAll 1 257 3 257 s8) fun s13 =>
    bd2 (fX9_loved_55 a1 a2 FU 0 0 s13) fun v24 s23 =>
    some (v24, s23)
set_option maxHeartbeats 4000000 in
set_option maxRecDepth 100000 in
theorem LX9_loved_55 {l : Launch} {E : EE} {p : Program} {e : Env} {ms : State} {m : MethodId} {args : Array Value} {below : List Frame} {meth : Method} {c : Code} {a1 : Int32} {a2 : Int32} {Q : State → Prop} (X : Cx E layM p ms m args c cX9_loved RX9 5) : ∀ (n : Nat) (a3 : Int32) (a4 : Int32) (s0 : St) (q3 : Int32) (t8 : St), fX9_loved_55 a1 a2 n a3 a4 s0 = some (q3, t8) → AW E layM p l e (rmD 111) ms m args below meth c 5 0 0 Q 96 [(3, .int q3)] [] t8 → AW E layM p l e (rmD 111) ms m args below meth c 5 0 0 Q 55 [(0, .ref (ea E 0)), (1, .int a1), (2, .int a2), (3, .int a3), (4, .int a4)] [] s0 := by
  intro n
  induction n with
  | zero =>
    intro a3 a4 s0 q3 t8 h hE
    cases h
  | succ n ih =>
    intro a3 a4 s0 q3 t8 h hE
    rw [fX9_loved_55] at h
    refine r_iload X dX9_loved_55 4 rfl ?_
    refine r_bipush X dX9_loved_57 (v := 8) (by decide) ?_
    refine r_icmp_ge X 96 dX9_loved_59 (by decide) (fun c22 => ?_) (fun c22 => ?_)
    · rw [if_pos c22] at h
      refine r_sub (L' := [(3, .int a3)]) [3] rfl ?_
      cases h
      exact hE
    · rw [if_neg c22] at h
      refine r_aload_n X dX9_loved_62 0 rfl rfl ?_
      refine r_iload_n X dX9_loved_63 2 rfl rfl ?_
      refine r_iconst X dX9_loved_64 (v := 3) (by decide) ?_
      refine r_iload X dX9_loved_65 4 rfl ?_
      obtain ⟨s15, e16, h⟩ := bd1_ok h
      refine kX9_puts X (ctX9_puts e16) dX9_loved_67 lM_0 g_904 (Nat.le_of_ble_eq_true rfl) (Nat.le_of_ble_eq_true rfl) ?_
      refine r_iload_n X dX9_loved_70 3 rfl rfl ?_
      refine r_aload_n X dX9_loved_71 0 rfl rfl ?_
      refine r_iload_n X dX9_loved_72 1 rfl rfl ?_
      refine r_iload_n X dX9_loved_73 2 rfl rfl ?_
      obtain ⟨u19, s17, e18, h⟩ := bd2_ok h
      refine kX9_grievesSo X (ctX9_grievesSo e18) dX9_loved_74 lM_0 g_1121 (Nat.le_of_ble_eq_true rfl) (Nat.le_of_ble_eq_true rfl) ?_
      obtain ⟨j88, ej88, h⟩ := jn1_ok h
      have hj88 : ∀ (w20 : Int32), j88 w20 = some (q3, t8) → AW E layM p l e (rmD 111) ms m args below meth c 5 0 0 Q 88 [(0, .ref (ea E 0)), (1, .int a1), (2, .int a2), (4, .int a4)] [.int w20, .int a3] s17 := by
        intro w20 h
        rw [ej88] at h
        refine r_ior X dX9_loved_88 ?_
        refine r_istore_n (L' := [(0, .ref (ea E 0)), (1, .int a1), (2, .int a2), (3, .int (a3 ||| w20)), (4, .int a4)]) X dX9_loved_89 [1, 2, 3, 0, 4] rfl rfl (Nat.le_of_ble_eq_true rfl) ?_
        refine r_iinc (L' := [(0, .ref (ea E 0)), (1, .int a1), (2, .int a2), (3, .int (a3 ||| w20)), (4, .int (a4 + 1))]) (v := a4 + 1) X dX9_loved_90 4 rfl rfl [1, 2, 3, 4, 0] rfl (Nat.le_of_ble_eq_true rfl) ?_
        refine r_goto X 55 dX9_loved_93 (by decide) ?_
        exact ih _ _ _ _ _ h hE
      refine r_if_eq X 87 dX9_loved_77 (by decide) (fun c21 => ?_) (fun c21 => ?_)
      · rw [if_pos c21] at h
        refine r_iconst X dX9_loved_87 (v := 0) (by decide) ?_
        refine r_sub (L' := [(0, .ref (ea E 0)), (1, .int a1), (2, .int a2), (4, .int a4)]) [0, 1, 2, 4] rfl ?_
        exact hj88 _ h
      · rw [if_neg c21] at h
        refine r_iconst X dX9_loved_80 (v := 1) (by decide) ?_
        refine r_iload X dX9_loved_81 4 rfl ?_
        refine s_ishl X dX9_loved_83 ?_
        refine r_goto X 88 dX9_loved_84 (by decide) ?_
        refine r_sub (L' := [(0, .ref (ea E 0)), (1, .int a1), (2, .int a2), (4, .int a4)]) [0, 1, 2, 4] rfl ?_
        exact hj88 _ h
set_option maxHeartbeats 4000000 in
set_option maxRecDepth 100000 in
theorem ctX9_loved {l : Launch} {E : EE} {a1 : Int32} {a2 : Int32} {s0 : St} {r9 : Int32} {t9 : St}  (h : fX9_loved a1 a2 s0 = some (r9, t9)) : Ct l E layM yX9_loved cX9_loved 5 (some .int) 111 [.ref (ea E 0), .int a1, .int a2] s0 (some (.int r9)) t9 := by
  refine Ct.of (by decide) (Nat.le_of_ble_eq_true rfl) ?_
  intro p e ms m below meth c X hlk hr
  have X : Cx E layM p ms m [.ref (ea E 0), .int a1, .int a2].toArray c cX9_loved RX9 5 := X
  refine r_sub (L' := [(0, .ref (ea E 0)), (1, .int a1), (2, .int a2)]) [0, 1, 2] rfl ?_
  unfold fX9_loved at h
  refine r_iload_n X dX9_loved_0 1 rfl rfl ?_
  obtain ⟨u3, s1, e2, h⟩ := bd2_ok h
  refine kX9_isSheet X (ctX9_isSheet e2) dX9_loved_1 g_1110 (Nat.le_of_ble_eq_true rfl) (Nat.le_of_ble_eq_true rfl) ?_
  obtain ⟨j15, ej15, h⟩ := jn1_ok h
  have hj15 : ∀ (s4 : St), j15 s4 = some (r9, t9) → AW E layM p l e (rmD 111) ms m [.ref (ea E 0), .int a1, .int a2].toArray below meth c 5 0 0 (MQc E layM below [.ref (ea E 0), .int a1, .int a2].toArray ms (some (.int r9)) t9) 15 [(0, .ref (ea E 0))] [] s4 := by
    intro s4 h
    rw [ej15] at h
    refine r_aload_n X dX9_loved_15 0 rfl rfl ?_
    refine r_ldc X dX9_loved_16 g_873 ?_
    obtain ⟨u7, s5, e6, h⟩ := bd2_ok h
    refine kX9_errs X (ctX9_errs e6) dX9_loved_18 lM_0 g_874 (Nat.le_of_ble_eq_true rfl) (Nat.le_of_ble_eq_true rfl) ?_
    exact s_iret X hlk hr dX9_loved_21 h
  refine r_if_eq X 15 dX9_loved_4 (by decide) (fun c30 => ?_) (fun c30 => ?_)
  · rw [if_pos c30] at h
    refine r_sub (L' := [(0, .ref (ea E 0))]) [0] rfl ?_
    exact hj15 _ h
  · rw [if_neg c30] at h
    refine r_aload_n X dX9_loved_7 0 rfl rfl ?_
    refine r_iload_n X dX9_loved_8 2 rfl rfl ?_
    obtain ⟨u10, s8, e9, h⟩ := bd2_ok h
    refine kX9_isDiner X (ctX9_isDiner e9) dX9_loved_9 lM_0 g_912 (Nat.le_of_ble_eq_true rfl) (Nat.le_of_ble_eq_true rfl) ?_
    refine r_if_ne X 22 dX9_loved_12 (by decide) (fun c29 => ?_) (fun c29 => ?_)
    · rw [if_neg c29] at h
      refine r_aload_n X dX9_loved_22 0 rfl rfl ?_
      refine r_getr X dX9_loved_23 i_X9 v_X9 lM_0 17 rfl (Nat.le_of_ble_eq_true rfl) g_791 ?_
      refine r_iload_n X dX9_loved_26 1 rfl rfl ?_
      obtain ⟨g11, v12, ev12, h⟩ := ld_ok h
      refine s_iald X dX9_loved_27 lM_7 g11 ev12 ?_
      refine r_if_ne X 38 dX9_loved_28 (by decide) (fun c28 => ?_) (fun c28 => ?_)
      · rw [if_neg c28] at h
        refine r_aload_n X dX9_loved_38 0 rfl rfl ?_
        refine r_aload_n X dX9_loved_39 0 rfl rfl ?_
        refine r_getr X dX9_loved_40 i_X9 v_X9 lM_0 0 rfl (Nat.le_of_ble_eq_true rfl) g_774 ?_
        refine r_aload_n X dX9_loved_43 0 rfl rfl ?_
        refine r_getr X dX9_loved_44 i_X9 v_X9 lM_0 2 rfl (Nat.le_of_ble_eq_true rfl) g_776 ?_
        obtain ⟨s13, e14, h⟩ := bd1_ok h
        refine kX9_moveAll X (ctX9_moveAll lM_1 lM_3 e14) dX9_loved_47 lM_0 g_1027 (Nat.le_of_ble_eq_true rfl) (Nat.le_of_ble_eq_true rfl) ?_
        refine r_iconst X dX9_loved_50 (v := 0) (by decide) ?_
        refine r_istore_n (L' := [(0, .ref (ea E 0)), (1, .int a1), (2, .int a2), (3, .int 0)]) X dX9_loved_51 [1, 2, 3, 0] rfl rfl (Nat.le_of_ble_eq_true rfl) ?_
        refine r_iconst X dX9_loved_52 (v := 0) (by decide) ?_
        refine r_istore (L' := [(0, .ref (ea E 0)), (1, .int a1), (2, .int a2), (3, .int 0), (4, .int 0)]) X dX9_loved_53 [1, 2, 3, 4, 0] rfl (Nat.le_of_ble_eq_true rfl) ?_
        obtain ⟨v24, s23, eo, h⟩ := bd2_ok h
        refine LX9_loved_55 X FU _ _ _ _ _ eo ?_
        refine r_iload_n X dX9_loved_96 0 rfl rfl ?_
        exact s_iret X hlk hr dX9_loved_97 h
      · rw [if_pos c28] at h
        refine r_aload_n X dX9_loved_31 0 rfl rfl ?_
        refine r_ldc X dX9_loved_32 g_1077 ?_
        obtain ⟨u27, s25, e26, h⟩ := bd2_ok h
        refine kX9_errs X (ctX9_errs e26) dX9_loved_34 lM_0 g_874 (Nat.le_of_ble_eq_true rfl) (Nat.le_of_ble_eq_true rfl) ?_
        exact s_iret X hlk hr dX9_loved_37 h
    · rw [if_pos c29] at h
      refine r_sub (L' := [(0, .ref (ea E 0))]) [0] rfl ?_
      exact hj15 _ h
/-! X9_pack -/
theorem nX9_pack : yX9_pack.cls ≠ "java/lang/invoke/MethodHandle" ∧ yX9_pack.cls ≠ "java/lang/invoke/VarHandle" ∧ (parseMethodDescriptor yX9_pack.desc).map (fun d => d.parameters.length) = some 1 := by decide +kernel
theorem kX9_pack {l : Launch} {E : EE} {p : Program} {e : Env} {ms : State} {m : MethodId} {args : Array Value} {below : List Frame} {meth : Method} {c : Code} {cc : ByteArray} {own : String} {nL pc idx d D : Nat} {Q : State → Prop} {L : List (Nat × Value)} {rest : List Value} {σ τ : St} {a1 : Int32} {r : Int32} {fl : List (Option Nat)} (X : Cx E layM p ms m args c cc own nL) (hM : Ct l E layM yX9_pack cX9_pack 7 (some .int) d [.ref (ea E 0), .int a1] σ (some (.int r)) τ) (hd : decode cc pc = .ok (.invokevirtual idx, 3)) (hlay : layM[0]? = some (.inl (8, fl))) (w1 : Cond.methodLink own idx yX9_pack ∈ gw) (hR : d + 1 ≤ D) (hrs : (rest.map fun v => v.category).sum ≤ 8) (k : AW E layM p l e (rmD D) ms m args below meth c nL 0 0 Q (pc + 3) L (.int r :: rest) τ) : AW E layM p l e (rmD D) ms m args below meth c nL 0 0 Q pc L (.int a1 :: .ref (ea E 0) :: rest) σ :=
  s_callV X [.int a1] rest hM hd v_X9 hlay w1 g_1126 g_1127 g_77 g_1128 nX9_pack rfl rfl hrs (Nat.le_of_ble_eq_true rfl) hR k
def fX9_pack_19 (a1 : Int32) : Nat → Int32 → St → Option (St)
  | 0, _, _ => none
  | n + 1, a2, s0 =>
    if 40 < a2 then
    some s0
    else
    bd1 (ast s0 11 41 a2 0) fun s5 =>
    fX9_pack_19 a1 n (a2 + 1) s5
def fX9_pack_79 (a1 : Int32) (a2 : Int32) (a3 : Int32) (a4 : Int32) (a5 : Int32) : Nat → Int32 → St → Option (St)
  | 0, _, _ => none
  | n + 1, a6, s0 =>
    if a6 < a4 then
    some s0
    else
    if a4 ≤ 0 then
    some s0
    else
    bd1 (ald s0 11 41 (a6 - a4)) fun v17 =>
    bd1 (ald s0 11 41 a6) fun v19 =>
    jn (fun (w20 : Int32) =>
    bd1 (ast s0 11 41 a6 w20) fun s22 =>
    fX9_pack_79 a1 a2 a3 a4 a5 n (a6 + (-1)) s22) fun j143 =>
    if (v17 + a5) ≤ v19 then
    bd1 (ald s0 11 41 a6) fun v24 =>
    j143 v24
    else
    bd1 (ald s0 11 41 (a6 - a4)) fun v26 =>
    j143 (v26 + a5)
def fX9_pack_52 (a1 : Int32) (a2 : Int32) : Nat → Int32 → St → Option (St)
  | 0, _, _ => none
  | n + 1, a3, s0 =>
    if 6 ≤ a3 then
    some s0
    else
    bd2 (fX9_left a2 a3 s0) fun u12 s10 =>
    bd2 (fX9_taste a2 a3 u12 s10) fun u15 s13 =>
    bd1 (fX9_pack_79 a1 a2 a3 u12 u15 FU a1 s13) fun s30 =>
    fX9_pack_52 a1 a2 n (a3 + 1) s30
def fX9_pack_40 (a1 : Int32) : Nat → Int32 → St → Option (St)
  | 0, _, _ => none
  | n + 1, a2, s0 =>
    bd1 (ald s0 1 257 2) fun v9 =>
    if v9 ≤ a2 then
    some s0
    else
    bd1 (fX9_pack_52 a1 a2 FU 0 s0) fun s32 =>
    fX9_pack_40 a1 n (a2 + 1) s32
def fX9_pack (a1 : Int32) (s0 : St) : Option (Int32 × St) :=
    bd2 (fX9_in a1 0 40 s0) fun u3 s1 =>
    if u3 = 0 then
    bd2 (fX9_errs (-1000000001) s1) fun u39 s37 =>
    some (u39, s37)
    else
    bd1 (fX9_pack_19 a1 FU 0 s1) fun s7 =>
    bd1 (fX9_pack_40 a1 FU 0 s7) fun s34 =>
    bd1 (ald s34 11 41 a1) fun v36 =>
    some (v36, s34)
set_option maxHeartbeats 4000000 in
set_option maxRecDepth 100000 in
theorem LX9_pack_19 {l : Launch} {E : EE} {p : Program} {e : Env} {ms : State} {m : MethodId} {args : Array Value} {below : List Frame} {meth : Method} {c : Code} {a1 : Int32} {Q : State → Prop} (X : Cx E layM p ms m args c cX9_pack RX9 7) : ∀ (n : Nat) (a2 : Int32) (s0 : St)  (t8 : St), fX9_pack_19 a1 n a2 s0 = some t8 → AW E layM p l e (rmD 108) ms m args below meth c 7 0 0 Q 38 [(0, .ref (ea E 0)), (1, .int a1)] [] t8 → AW E layM p l e (rmD 108) ms m args below meth c 7 0 0 Q 19 [(0, .ref (ea E 0)), (1, .int a1), (2, .int a2)] [] s0 := by
  intro n
  induction n with
  | zero =>
    intro a2 s0 t8 h hE
    cases h
  | succ n ih =>
    intro a2 s0 t8 h hE
    rw [fX9_pack_19] at h
    refine r_iload_n X dX9_pack_19 2 rfl rfl ?_
    refine r_bipush X dX9_pack_20 (v := 40) (by decide) ?_
    refine r_icmp_gt X 38 dX9_pack_22 (by decide) (fun c6 => ?_) (fun c6 => ?_)
    · rw [if_pos c6] at h
      refine r_sub (L' := [(0, .ref (ea E 0)), (1, .int a1)]) [0, 1] rfl ?_
      cases h
      exact hE
    · rw [if_neg c6] at h
      refine r_aload_n X dX9_pack_25 0 rfl rfl ?_
      refine r_getr X dX9_pack_26 i_X9 v_X9 lM_0 21 rfl (Nat.le_of_ble_eq_true rfl) g_795 ?_
      refine r_iload_n X dX9_pack_29 2 rfl rfl ?_
      refine r_iconst X dX9_pack_30 (v := 0) (by decide) ?_
      obtain ⟨g4, s5, es5, h⟩ := as_ok h
      refine s_iast X dX9_pack_31 lM_11 g4 es5 ?_
      refine r_iinc (L' := [(0, .ref (ea E 0)), (1, .int a1), (2, .int (a2 + 1))]) (v := a2 + 1) X dX9_pack_32 2 rfl rfl [1, 2, 0] rfl (Nat.le_of_ble_eq_true rfl) ?_
      refine r_goto X 19 dX9_pack_35 (by decide) ?_
      exact ih _ _ _ h hE
set_option maxHeartbeats 4000000 in
set_option maxRecDepth 100000 in
theorem LX9_pack_79 {l : Launch} {E : EE} {p : Program} {e : Env} {ms : State} {m : MethodId} {args : Array Value} {below : List Frame} {meth : Method} {c : Code} {a1 : Int32} {a2 : Int32} {a3 : Int32} {a4 : Int32} {a5 : Int32} {Q : State → Prop} (X : Cx E layM p ms m args c cX9_pack RX9 7) : ∀ (n : Nat) (a6 : Int32) (s0 : St)  (t8 : St), fX9_pack_79 a1 a2 a3 a4 a5 n a6 s0 = some t8 → AW E layM p l e (rmD 108) ms m args below meth c 7 0 0 Q 150 [(0, .ref (ea E 0)), (1, .int a1), (2, .int a2), (3, .int a3)] [] t8 → AW E layM p l e (rmD 108) ms m args below meth c 7 0 0 Q 79 [(0, .ref (ea E 0)), (1, .int a1), (2, .int a2), (3, .int a3), (4, .int a4), (5, .int a5), (6, .int a6)] [] s0 := by
  intro n
  induction n with
  | zero =>
    intro a6 s0 t8 h hE
    cases h
  | succ n ih =>
    intro a6 s0 t8 h hE
    rw [fX9_pack_79] at h
    refine r_iload X dX9_pack_79 6 rfl ?_
    refine r_iload X dX9_pack_81 4 rfl ?_
    refine r_icmp_lt X 150 dX9_pack_83 (by decide) (fun c29 => ?_) (fun c29 => ?_)
    · rw [if_pos c29] at h
      refine r_sub (L' := [(0, .ref (ea E 0)), (1, .int a1), (2, .int a2), (3, .int a3)]) [0, 1, 2, 3] rfl ?_
      cases h
      exact hE
    · rw [if_neg c29] at h
      refine r_iload X dX9_pack_86 4 rfl ?_
      refine r_if_le X 150 dX9_pack_88 (by decide) (fun c28 => ?_) (fun c28 => ?_)
      · rw [if_pos c28] at h
        refine r_sub (L' := [(0, .ref (ea E 0)), (1, .int a1), (2, .int a2), (3, .int a3)]) [0, 1, 2, 3] rfl ?_
        cases h
        exact hE
      · rw [if_neg c28] at h
        refine r_aload_n X dX9_pack_91 0 rfl rfl ?_
        refine r_getr X dX9_pack_92 i_X9 v_X9 lM_0 21 rfl (Nat.le_of_ble_eq_true rfl) g_795 ?_
        refine r_iload X dX9_pack_95 6 rfl ?_
        refine r_aload_n X dX9_pack_97 0 rfl rfl ?_
        refine r_getr X dX9_pack_98 i_X9 v_X9 lM_0 21 rfl (Nat.le_of_ble_eq_true rfl) g_795 ?_
        refine r_iload X dX9_pack_101 6 rfl ?_
        refine r_iload X dX9_pack_103 4 rfl ?_
        refine r_isub X dX9_pack_105 ?_
        obtain ⟨g16, v17, ev17, h⟩ := ld_ok h
        refine s_iald X dX9_pack_106 lM_11 g16 ev17 ?_
        refine r_iload X dX9_pack_107 5 rfl ?_
        refine r_iadd X dX9_pack_109 ?_
        refine r_aload_n X dX9_pack_110 0 rfl rfl ?_
        refine r_getr X dX9_pack_111 i_X9 v_X9 lM_0 21 rfl (Nat.le_of_ble_eq_true rfl) g_795 ?_
        refine r_iload X dX9_pack_114 6 rfl ?_
        obtain ⟨g18, v19, ev19, h⟩ := ld_ok h
        refine s_iald X dX9_pack_116 lM_11 g18 ev19 ?_
        obtain ⟨j143, ej143, h⟩ := jn1_ok h
        have hj143 : ∀ (w20 : Int32), j143 w20 = some t8 → AW E layM p l e (rmD 108) ms m args below meth c 7 0 0 Q 143 [(0, .ref (ea E 0)), (1, .int a1), (2, .int a2), (3, .int a3), (4, .int a4), (5, .int a5), (6, .int a6)] [.int w20, .int a6, .ref (ea E 11)] s0 := by
          intro w20 h
          rw [ej143] at h
          obtain ⟨g21, s22, es22, h⟩ := as_ok h
          refine s_iast X dX9_pack_143 lM_11 g21 es22 ?_
          refine r_iinc (L' := [(0, .ref (ea E 0)), (1, .int a1), (2, .int a2), (3, .int a3), (4, .int a4), (5, .int a5), (6, .int (a6 + (-1)))]) (v := a6 + (-1)) X dX9_pack_144 6 rfl rfl [1, 2, 3, 4, 5, 6, 0] rfl (Nat.le_of_ble_eq_true rfl) ?_
          refine r_goto X 79 dX9_pack_147 (by decide) ?_
          exact ih _ _ _ h hE
        refine r_icmp_le X 136 dX9_pack_117 (by decide) (fun c27 => ?_) (fun c27 => ?_)
        · rw [if_pos c27] at h
          refine r_aload_n X dX9_pack_136 0 rfl rfl ?_
          refine r_getr X dX9_pack_137 i_X9 v_X9 lM_0 21 rfl (Nat.le_of_ble_eq_true rfl) g_795 ?_
          refine r_iload X dX9_pack_140 6 rfl ?_
          obtain ⟨g23, v24, ev24, h⟩ := ld_ok h
          refine s_iald X dX9_pack_142 lM_11 g23 ev24 ?_
          exact hj143 _ h
        · rw [if_neg c27] at h
          refine r_aload_n X dX9_pack_120 0 rfl rfl ?_
          refine r_getr X dX9_pack_121 i_X9 v_X9 lM_0 21 rfl (Nat.le_of_ble_eq_true rfl) g_795 ?_
          refine r_iload X dX9_pack_124 6 rfl ?_
          refine r_iload X dX9_pack_126 4 rfl ?_
          refine r_isub X dX9_pack_128 ?_
          obtain ⟨g25, v26, ev26, h⟩ := ld_ok h
          refine s_iald X dX9_pack_129 lM_11 g25 ev26 ?_
          refine r_iload X dX9_pack_130 5 rfl ?_
          refine r_iadd X dX9_pack_132 ?_
          refine r_goto X 143 dX9_pack_133 (by decide) ?_
          exact hj143 _ h
set_option maxHeartbeats 4000000 in
set_option maxRecDepth 100000 in
theorem LX9_pack_52 {l : Launch} {E : EE} {p : Program} {e : Env} {ms : State} {m : MethodId} {args : Array Value} {below : List Frame} {meth : Method} {c : Code} {a1 : Int32} {a2 : Int32} {Q : State → Prop} (X : Cx E layM p ms m args c cX9_pack RX9 7) : ∀ (n : Nat) (a3 : Int32) (s0 : St)  (t8 : St), fX9_pack_52 a1 a2 n a3 s0 = some t8 → AW E layM p l e (rmD 108) ms m args below meth c 7 0 0 Q 156 [(0, .ref (ea E 0)), (1, .int a1), (2, .int a2)] [] t8 → AW E layM p l e (rmD 108) ms m args below meth c 7 0 0 Q 52 [(0, .ref (ea E 0)), (1, .int a1), (2, .int a2), (3, .int a3)] [] s0 := by
  intro n
  induction n with
  | zero =>
    intro a3 s0 t8 h hE
    cases h
  | succ n ih =>
    intro a3 s0 t8 h hE
    rw [fX9_pack_52] at h
    refine r_iload_n X dX9_pack_52 3 rfl rfl ?_
    refine r_bipush X dX9_pack_53 (v := 6) (by decide) ?_
    refine r_icmp_ge X 156 dX9_pack_55 (by decide) (fun c31 => ?_) (fun c31 => ?_)
    · rw [if_pos c31] at h
      refine r_sub (L' := [(0, .ref (ea E 0)), (1, .int a1), (2, .int a2)]) [0, 1, 2] rfl ?_
      cases h
      exact hE
    · rw [if_neg c31] at h
      refine r_aload_n X dX9_pack_58 0 rfl rfl ?_
      refine r_iload_n X dX9_pack_59 2 rfl rfl ?_
      refine r_iload_n X dX9_pack_60 3 rfl rfl ?_
      obtain ⟨u12, s10, e11, h⟩ := bd2_ok h
      refine kX9_left X (ctX9_left e11) dX9_pack_61 lM_0 g_924 (Nat.le_of_ble_eq_true rfl) (Nat.le_of_ble_eq_true rfl) ?_
      refine r_istore (L' := [(0, .ref (ea E 0)), (1, .int a1), (2, .int a2), (3, .int a3), (4, .int u12)]) X dX9_pack_64 [1, 2, 3, 4, 0] rfl (Nat.le_of_ble_eq_true rfl) ?_
      refine r_aload_n X dX9_pack_66 0 rfl rfl ?_
      refine r_iload_n X dX9_pack_67 2 rfl rfl ?_
      refine r_iload_n X dX9_pack_68 3 rfl rfl ?_
      refine r_iload X dX9_pack_69 4 rfl ?_
      obtain ⟨u15, s13, e14, h⟩ := bd2_ok h
      refine kX9_taste X (ctX9_taste e14) dX9_pack_71 lM_0 g_1048 (Nat.le_of_ble_eq_true rfl) (Nat.le_of_ble_eq_true rfl) ?_
      refine r_istore (L' := [(0, .ref (ea E 0)), (1, .int a1), (2, .int a2), (3, .int a3), (4, .int u12), (5, .int u15)]) X dX9_pack_74 [1, 2, 3, 4, 5, 0] rfl (Nat.le_of_ble_eq_true rfl) ?_
      refine r_iload_n X dX9_pack_76 1 rfl rfl ?_
      refine r_istore (L' := [(0, .ref (ea E 0)), (1, .int a1), (2, .int a2), (3, .int a3), (4, .int u12), (5, .int u15), (6, .int a1)]) X dX9_pack_77 [1, 2, 3, 4, 5, 6, 0] rfl (Nat.le_of_ble_eq_true rfl) ?_
      obtain ⟨s30, eo, h⟩ := bd1_ok h
      refine LX9_pack_79 X FU _ _ _ eo ?_
      refine r_iinc (L' := [(0, .ref (ea E 0)), (1, .int a1), (2, .int a2), (3, .int (a3 + 1))]) (v := a3 + 1) X dX9_pack_150 3 rfl rfl [1, 2, 3, 0] rfl (Nat.le_of_ble_eq_true rfl) ?_
      refine r_goto X 52 dX9_pack_153 (by decide) ?_
      exact ih _ _ _ h hE
set_option maxHeartbeats 4000000 in
set_option maxRecDepth 100000 in
theorem LX9_pack_40 {l : Launch} {E : EE} {p : Program} {e : Env} {ms : State} {m : MethodId} {args : Array Value} {below : List Frame} {meth : Method} {c : Code} {a1 : Int32} {Q : State → Prop} (X : Cx E layM p ms m args c cX9_pack RX9 7) : ∀ (n : Nat) (a2 : Int32) (s0 : St)  (t8 : St), fX9_pack_40 a1 n a2 s0 = some t8 → AW E layM p l e (rmD 108) ms m args below meth c 7 0 0 Q 162 [(0, .ref (ea E 0)), (1, .int a1)] [] t8 → AW E layM p l e (rmD 108) ms m args below meth c 7 0 0 Q 40 [(0, .ref (ea E 0)), (1, .int a1), (2, .int a2)] [] s0 := by
  intro n
  induction n with
  | zero =>
    intro a2 s0 t8 h hE
    cases h
  | succ n ih =>
    intro a2 s0 t8 h hE
    rw [fX9_pack_40] at h
    refine r_iload_n X dX9_pack_40 2 rfl rfl ?_
    refine r_aload_n X dX9_pack_41 0 rfl rfl ?_
    refine r_getr X dX9_pack_42 i_X9 v_X9 lM_0 0 rfl (Nat.le_of_ble_eq_true rfl) g_774 ?_
    refine r_iconst X dX9_pack_45 (v := 2) (by decide) ?_
    obtain ⟨g8, v9, ev9, h⟩ := ld_ok h
    refine s_iald X dX9_pack_46 lM_1 g8 ev9 ?_
    refine r_icmp_ge X 162 dX9_pack_47 (by decide) (fun c33 => ?_) (fun c33 => ?_)
    · rw [if_pos c33] at h
      refine r_sub (L' := [(0, .ref (ea E 0)), (1, .int a1)]) [0, 1] rfl ?_
      cases h
      exact hE
    · rw [if_neg c33] at h
      refine r_iconst X dX9_pack_50 (v := 0) (by decide) ?_
      refine r_istore_n (L' := [(0, .ref (ea E 0)), (1, .int a1), (2, .int a2), (3, .int 0)]) X dX9_pack_51 [1, 2, 3, 0] rfl rfl (Nat.le_of_ble_eq_true rfl) ?_
      obtain ⟨s32, eo, h⟩ := bd1_ok h
      refine LX9_pack_52 X FU _ _ _ eo ?_
      refine r_iinc (L' := [(0, .ref (ea E 0)), (1, .int a1), (2, .int (a2 + 1))]) (v := a2 + 1) X dX9_pack_156 2 rfl rfl [1, 2, 0] rfl (Nat.le_of_ble_eq_true rfl) ?_
      refine r_goto X 40 dX9_pack_159 (by decide) ?_
      exact ih _ _ _ h hE
set_option maxHeartbeats 4000000 in
set_option maxRecDepth 100000 in
theorem ctX9_pack {l : Launch} {E : EE} {a1 : Int32} {s0 : St} {r9 : Int32} {t9 : St}  (h : fX9_pack a1 s0 = some (r9, t9)) : Ct l E layM yX9_pack cX9_pack 7 (some .int) 108 [.ref (ea E 0), .int a1] s0 (some (.int r9)) t9 := by
  refine Ct.of (by decide) (Nat.le_of_ble_eq_true rfl) ?_
  intro p e ms m below meth c X hlk hr
  have X : Cx E layM p ms m [.ref (ea E 0), .int a1].toArray c cX9_pack RX9 7 := X
  refine r_sub (L' := [(0, .ref (ea E 0)), (1, .int a1)]) [0, 1] rfl ?_
  unfold fX9_pack at h
  refine r_iload_n X dX9_pack_0 1 rfl rfl ?_
  refine r_iconst X dX9_pack_1 (v := 0) (by decide) ?_
  refine r_bipush X dX9_pack_2 (v := 40) (by decide) ?_
  obtain ⟨u3, s1, e2, h⟩ := bd2_ok h
  refine kX9_in X (ctX9_in e2) dX9_pack_4 g_866 (Nat.le_of_ble_eq_true rfl) (Nat.le_of_ble_eq_true rfl) ?_
  refine r_if_ne X 17 dX9_pack_7 (by decide) (fun c40 => ?_) (fun c40 => ?_)
  · rw [if_neg c40] at h
    refine r_iconst X dX9_pack_17 (v := 0) (by decide) ?_
    refine r_istore_n (L' := [(0, .ref (ea E 0)), (1, .int a1), (2, .int 0)]) X dX9_pack_18 [1, 2, 0] rfl rfl (Nat.le_of_ble_eq_true rfl) ?_
    obtain ⟨s7, eo, h⟩ := bd1_ok h
    refine LX9_pack_19 X FU _ _ _ eo ?_
    refine r_iconst X dX9_pack_38 (v := 0) (by decide) ?_
    refine r_istore_n (L' := [(0, .ref (ea E 0)), (1, .int a1), (2, .int 0)]) X dX9_pack_39 [1, 2, 0] rfl rfl (Nat.le_of_ble_eq_true rfl) ?_
    obtain ⟨s34, eo, h⟩ := bd1_ok h
    refine LX9_pack_40 X FU _ _ _ eo ?_
    refine r_aload_n X dX9_pack_162 0 rfl rfl ?_
    refine r_getr X dX9_pack_163 i_X9 v_X9 lM_0 21 rfl (Nat.le_of_ble_eq_true rfl) g_795 ?_
    refine r_iload_n X dX9_pack_166 1 rfl rfl ?_
    obtain ⟨g35, v36, ev36, h⟩ := ld_ok h
    refine s_iald X dX9_pack_167 lM_11 g35 ev36 ?_
    exact s_iret X hlk hr dX9_pack_168 h
  · rw [if_pos c40] at h
    refine r_aload_n X dX9_pack_10 0 rfl rfl ?_
    refine r_ldc X dX9_pack_11 g_873 ?_
    obtain ⟨u39, s37, e38, h⟩ := bd2_ok h
    refine kX9_errs X (ctX9_errs e38) dX9_pack_13 lM_0 g_874 (Nat.le_of_ble_eq_true rfl) (Nat.le_of_ble_eq_true rfl) ?_
    exact s_iret X hlk hr dX9_pack_16 h
/-! X9_few -/
theorem nX9_few : yX9_few.cls ≠ "java/lang/invoke/MethodHandle" ∧ yX9_few.cls ≠ "java/lang/invoke/VarHandle" ∧ (parseMethodDescriptor yX9_few.desc).map (fun d => d.parameters.length) = some 1 := by decide +kernel
theorem kX9_few {l : Launch} {E : EE} {p : Program} {e : Env} {ms : State} {m : MethodId} {args : Array Value} {below : List Frame} {meth : Method} {c : Code} {cc : ByteArray} {own : String} {nL pc idx d D : Nat} {Q : State → Prop} {L : List (Nat × Value)} {rest : List Value} {σ τ : St} {a1 : Int32} {r : Int32} {fl : List (Option Nat)} (X : Cx E layM p ms m args c cc own nL) (hM : Ct l E layM yX9_few cX9_few 6 (some .int) d [.ref (ea E 0), .int a1] σ (some (.int r)) τ) (hd : decode cc pc = .ok (.invokevirtual idx, 3)) (hlay : layM[0]? = some (.inl (8, fl))) (w1 : Cond.methodLink own idx yX9_few ∈ gw) (hR : d + 1 ≤ D) (hrs : (rest.map fun v => v.category).sum ≤ 8) (k : AW E layM p l e (rmD D) ms m args below meth c nL 0 0 Q (pc + 3) L (.int r :: rest) τ) : AW E layM p l e (rmD D) ms m args below meth c nL 0 0 Q pc L (.int a1 :: .ref (ea E 0) :: rest) σ :=
  s_callV X [.int a1] rest hM hd v_X9 hlay w1 g_1130 g_1131 g_77 g_1132 nX9_few rfl rfl hrs (Nat.le_of_ble_eq_true rfl) hR k
def fX9_few_20 (a1 : Int32) : Nat → Int32 → St → Option (St)
  | 0, _, _ => none
  | n + 1, a2, s0 =>
    if 10 ≤ a2 then
    some s0
    else
    bd1 (ast s0 12 10 a2 0) fun s5 =>
    fX9_few_20 a1 n (a2 + 1) s5
def fX9_few_53 (a1 : Int32) (a2 : Int32) : Nat → Int32 → St → Option (St)
  | 0, _, _ => none
  | n + 1, a3, s0 =>
    if 6 ≤ a3 then
    some s0
    else
    bd2 (fX9_left a2 a3 s0) fun u12 s10 =>
    bd2 (fX9_taste a2 a3 u12 s10) fun u15 s13 =>
    bd1 (ald s13 12 10 u15) fun v17 =>
    bd2 (fX9_left a2 a3 s13) fun u20 s18 =>
    jn (fun (w21 : Int32) =>
    bd1 (ast s18 12 10 u15 (v17 + w21)) fun s23 =>
    fX9_few_53 a1 a2 n (a3 + 1) s23) fun j91 =>
    if u20 ≤ 0 then
    j91 0
    else
    j91 1
def fX9_few_41 (a1 : Int32) : Nat → Int32 → St → Option (St)
  | 0, _, _ => none
  | n + 1, a2, s0 =>
    bd1 (ald s0 1 257 2) fun v9 =>
    if v9 ≤ a2 then
    some s0
    else
    bd1 (fX9_few_53 a1 a2 FU 0 s0) fun s26 =>
    fX9_few_41 a1 n (a2 + 1) s26
def fX9_few_121 (a1 : Int32) (a4 : Int32) : Nat → Int32 → Int32 → Int32 → St → Option (Int32 × Int32 × St)
  | 0, _, _, _, _ => none
  | n + 1, a2, a3, a5, s0 =>
    bd1 (ald s0 12 10 a4) fun v30 =>
    if v30 ≤ a5 then
    some (a2, a3, s0)
    else
    if a1 ≤ a3 then
    some (a2, a3, s0)
    else
    fX9_few_121 a1 a4 n (a2 + 1) (a3 + a4) (a5 + 1) s0
def fX9_few_113 (a1 : Int32) : Nat → Int32 → Int32 → Int32 → St → Option (Int32 × Int32 × St)
  | 0, _, _, _, _ => none
  | n + 1, a2, a3, a4, s0 =>
    if a4 ≤ 0 then
    some (a2, a3, s0)
    else
    bd3 (fX9_few_121 a1 a4 FU a2 a3 0 s0) fun v34 v35 s33 =>
    fX9_few_113 a1 n v34 v35 (a4 + (-1)) s33
def fX9_few (a1 : Int32) (s0 : St) : Option (Int32 × St) :=
    bd2 (fX9_in a1 0 999 s0) fun u3 s1 =>
    if u3 = 0 then
    bd2 (fX9_errs (-1000000001) s1) fun u46 s44 =>
    some (u46, s44)
    else
    bd1 (fX9_few_20 a1 FU 0 s1) fun s7 =>
    bd1 (fX9_few_41 a1 FU 0 s7) fun s28 =>
    bd3 (fX9_few_113 a1 FU 0 0 9 s28) fun v38 v39 s37 =>
    if a1 ≤ v39 then
    some (v38, s37)
    else
    bd2 (fX9_errs (-1000000002) s37) fun u42 s40 =>
    some (u42, s40)
set_option maxHeartbeats 4000000 in
set_option maxRecDepth 100000 in
theorem LX9_few_20 {l : Launch} {E : EE} {p : Program} {e : Env} {ms : State} {m : MethodId} {args : Array Value} {below : List Frame} {meth : Method} {c : Code} {a1 : Int32} {Q : State → Prop} (X : Cx E layM p ms m args c cX9_few RX9 6) : ∀ (n : Nat) (a2 : Int32) (s0 : St)  (t8 : St), fX9_few_20 a1 n a2 s0 = some t8 → AW E layM p l e (rmD 108) ms m args below meth c 6 0 0 Q 39 [(0, .ref (ea E 0)), (1, .int a1)] [] t8 → AW E layM p l e (rmD 108) ms m args below meth c 6 0 0 Q 20 [(0, .ref (ea E 0)), (1, .int a1), (2, .int a2)] [] s0 := by
  intro n
  induction n with
  | zero =>
    intro a2 s0 t8 h hE
    cases h
  | succ n ih =>
    intro a2 s0 t8 h hE
    rw [fX9_few_20] at h
    refine r_iload_n X dX9_few_20 2 rfl rfl ?_
    refine r_bipush X dX9_few_21 (v := 10) (by decide) ?_
    refine r_icmp_ge X 39 dX9_few_23 (by decide) (fun c6 => ?_) (fun c6 => ?_)
    · rw [if_pos c6] at h
      refine r_sub (L' := [(0, .ref (ea E 0)), (1, .int a1)]) [0, 1] rfl ?_
      cases h
      exact hE
    · rw [if_neg c6] at h
      refine r_aload_n X dX9_few_26 0 rfl rfl ?_
      refine r_getr X dX9_few_27 i_X9 v_X9 lM_0 22 rfl (Nat.le_of_ble_eq_true rfl) g_796 ?_
      refine r_iload_n X dX9_few_30 2 rfl rfl ?_
      refine r_iconst X dX9_few_31 (v := 0) (by decide) ?_
      obtain ⟨g4, s5, es5, h⟩ := as_ok h
      refine s_iast X dX9_few_32 lM_12 g4 es5 ?_
      refine r_iinc (L' := [(0, .ref (ea E 0)), (1, .int a1), (2, .int (a2 + 1))]) (v := a2 + 1) X dX9_few_33 2 rfl rfl [1, 2, 0] rfl (Nat.le_of_ble_eq_true rfl) ?_
      refine r_goto X 20 dX9_few_36 (by decide) ?_
      exact ih _ _ _ h hE
set_option maxHeartbeats 4000000 in
set_option maxRecDepth 100000 in
theorem LX9_few_53 {l : Launch} {E : EE} {p : Program} {e : Env} {ms : State} {m : MethodId} {args : Array Value} {below : List Frame} {meth : Method} {c : Code} {a1 : Int32} {a2 : Int32} {Q : State → Prop} (X : Cx E layM p ms m args c cX9_few RX9 6) : ∀ (n : Nat) (a3 : Int32) (s0 : St)  (t8 : St), fX9_few_53 a1 a2 n a3 s0 = some t8 → AW E layM p l e (rmD 108) ms m args below meth c 6 0 0 Q 99 [(0, .ref (ea E 0)), (1, .int a1), (2, .int a2)] [] t8 → AW E layM p l e (rmD 108) ms m args below meth c 6 0 0 Q 53 [(0, .ref (ea E 0)), (1, .int a1), (2, .int a2), (3, .int a3)] [] s0 := by
  intro n
  induction n with
  | zero =>
    intro a3 s0 t8 h hE
    cases h
  | succ n ih =>
    intro a3 s0 t8 h hE
    rw [fX9_few_53] at h
    refine r_iload_n X dX9_few_53 3 rfl rfl ?_
    refine r_bipush X dX9_few_54 (v := 6) (by decide) ?_
    refine r_icmp_ge X 99 dX9_few_56 (by decide) (fun c25 => ?_) (fun c25 => ?_)
    · rw [if_pos c25] at h
      refine r_sub (L' := [(0, .ref (ea E 0)), (1, .int a1), (2, .int a2)]) [0, 1, 2] rfl ?_
      cases h
      exact hE
    · rw [if_neg c25] at h
      refine r_aload_n X dX9_few_59 0 rfl rfl ?_
      refine r_getr X dX9_few_60 i_X9 v_X9 lM_0 22 rfl (Nat.le_of_ble_eq_true rfl) g_796 ?_
      refine r_aload_n X dX9_few_63 0 rfl rfl ?_
      refine r_iload_n X dX9_few_64 2 rfl rfl ?_
      refine r_iload_n X dX9_few_65 3 rfl rfl ?_
      refine r_aload_n X dX9_few_66 0 rfl rfl ?_
      refine r_iload_n X dX9_few_67 2 rfl rfl ?_
      refine r_iload_n X dX9_few_68 3 rfl rfl ?_
      obtain ⟨u12, s10, e11, h⟩ := bd2_ok h
      refine kX9_left X (ctX9_left e11) dX9_few_69 lM_0 g_924 (Nat.le_of_ble_eq_true rfl) (Nat.le_of_ble_eq_true rfl) ?_
      obtain ⟨u15, s13, e14, h⟩ := bd2_ok h
      refine kX9_taste X (ctX9_taste e14) dX9_few_72 lM_0 g_1048 (Nat.le_of_ble_eq_true rfl) (Nat.le_of_ble_eq_true rfl) ?_
      refine r_dup2 X dX9_few_75 rfl rfl ?_
      obtain ⟨g16, v17, ev17, h⟩ := ld_ok h
      refine s_iald X dX9_few_76 lM_12 g16 ev17 ?_
      refine r_aload_n X dX9_few_77 0 rfl rfl ?_
      refine r_iload_n X dX9_few_78 2 rfl rfl ?_
      refine r_iload_n X dX9_few_79 3 rfl rfl ?_
      obtain ⟨u20, s18, e19, h⟩ := bd2_ok h
      refine kX9_left X (ctX9_left e19) dX9_few_80 lM_0 g_924 (Nat.le_of_ble_eq_true rfl) (Nat.le_of_ble_eq_true rfl) ?_
      obtain ⟨j91, ej91, h⟩ := jn1_ok h
      have hj91 : ∀ (w21 : Int32), j91 w21 = some t8 → AW E layM p l e (rmD 108) ms m args below meth c 6 0 0 Q 91 [(0, .ref (ea E 0)), (1, .int a1), (2, .int a2), (3, .int a3)] [.int w21, .int v17, .int u15, .ref (ea E 12)] s18 := by
        intro w21 h
        rw [ej91] at h
        refine r_iadd X dX9_few_91 ?_
        obtain ⟨g22, s23, es23, h⟩ := as_ok h
        refine s_iast X dX9_few_92 lM_12 g22 es23 ?_
        refine r_iinc (L' := [(0, .ref (ea E 0)), (1, .int a1), (2, .int a2), (3, .int (a3 + 1))]) (v := a3 + 1) X dX9_few_93 3 rfl rfl [1, 2, 3, 0] rfl (Nat.le_of_ble_eq_true rfl) ?_
        refine r_goto X 53 dX9_few_96 (by decide) ?_
        exact ih _ _ _ h hE
      refine r_if_le X 90 dX9_few_83 (by decide) (fun c24 => ?_) (fun c24 => ?_)
      · rw [if_pos c24] at h
        refine r_iconst X dX9_few_90 (v := 0) (by decide) ?_
        exact hj91 _ h
      · rw [if_neg c24] at h
        refine r_iconst X dX9_few_86 (v := 1) (by decide) ?_
        refine r_goto X 91 dX9_few_87 (by decide) ?_
        exact hj91 _ h
set_option maxHeartbeats 4000000 in
set_option maxRecDepth 100000 in
theorem LX9_few_41 {l : Launch} {E : EE} {p : Program} {e : Env} {ms : State} {m : MethodId} {args : Array Value} {below : List Frame} {meth : Method} {c : Code} {a1 : Int32} {Q : State → Prop} (X : Cx E layM p ms m args c cX9_few RX9 6) : ∀ (n : Nat) (a2 : Int32) (s0 : St)  (t8 : St), fX9_few_41 a1 n a2 s0 = some t8 → AW E layM p l e (rmD 108) ms m args below meth c 6 0 0 Q 105 [(0, .ref (ea E 0)), (1, .int a1)] [] t8 → AW E layM p l e (rmD 108) ms m args below meth c 6 0 0 Q 41 [(0, .ref (ea E 0)), (1, .int a1), (2, .int a2)] [] s0 := by
  intro n
  induction n with
  | zero =>
    intro a2 s0 t8 h hE
    cases h
  | succ n ih =>
    intro a2 s0 t8 h hE
    rw [fX9_few_41] at h
    refine r_iload_n X dX9_few_41 2 rfl rfl ?_
    refine r_aload_n X dX9_few_42 0 rfl rfl ?_
    refine r_getr X dX9_few_43 i_X9 v_X9 lM_0 0 rfl (Nat.le_of_ble_eq_true rfl) g_774 ?_
    refine r_iconst X dX9_few_46 (v := 2) (by decide) ?_
    obtain ⟨g8, v9, ev9, h⟩ := ld_ok h
    refine s_iald X dX9_few_47 lM_1 g8 ev9 ?_
    refine r_icmp_ge X 105 dX9_few_48 (by decide) (fun c27 => ?_) (fun c27 => ?_)
    · rw [if_pos c27] at h
      refine r_sub (L' := [(0, .ref (ea E 0)), (1, .int a1)]) [0, 1] rfl ?_
      cases h
      exact hE
    · rw [if_neg c27] at h
      refine r_iconst X dX9_few_51 (v := 0) (by decide) ?_
      refine r_istore_n (L' := [(0, .ref (ea E 0)), (1, .int a1), (2, .int a2), (3, .int 0)]) X dX9_few_52 [1, 2, 3, 0] rfl rfl (Nat.le_of_ble_eq_true rfl) ?_
      obtain ⟨s26, eo, h⟩ := bd1_ok h
      refine LX9_few_53 X FU _ _ _ eo ?_
      refine r_iinc (L' := [(0, .ref (ea E 0)), (1, .int a1), (2, .int (a2 + 1))]) (v := a2 + 1) X dX9_few_99 2 rfl rfl [1, 2, 0] rfl (Nat.le_of_ble_eq_true rfl) ?_
      refine r_goto X 41 dX9_few_102 (by decide) ?_
      exact ih _ _ _ h hE
set_option maxHeartbeats 4000000 in
set_option maxRecDepth 100000 in
theorem LX9_few_121 {l : Launch} {E : EE} {p : Program} {e : Env} {ms : State} {m : MethodId} {args : Array Value} {below : List Frame} {meth : Method} {c : Code} {a1 : Int32} {a4 : Int32} {Q : State → Prop} (X : Cx E layM p ms m args c cX9_few RX9 6) : ∀ (n : Nat) (a2 : Int32) (a3 : Int32) (a5 : Int32) (s0 : St) (q2 : Int32) (q3 : Int32) (t8 : St), fX9_few_121 a1 a4 n a2 a3 a5 s0 = some (q2, q3, t8) → AW E layM p l e (rmD 108) ms m args below meth c 6 0 0 Q 152 [(0, .ref (ea E 0)), (1, .int a1), (2, .int q2), (3, .int q3), (4, .int a4)] [] t8 → AW E layM p l e (rmD 108) ms m args below meth c 6 0 0 Q 121 [(0, .ref (ea E 0)), (1, .int a1), (2, .int a2), (3, .int a3), (4, .int a4), (5, .int a5)] [] s0 := by
  intro n
  induction n with
  | zero =>
    intro a2 a3 a5 s0 q2 q3 t8 h hE
    cases h
  | succ n ih =>
    intro a2 a3 a5 s0 q2 q3 t8 h hE
    rw [fX9_few_121] at h
    refine r_iload X dX9_few_121 5 rfl ?_
    refine r_aload_n X dX9_few_123 0 rfl rfl ?_
    refine r_getr X dX9_few_124 i_X9 v_X9 lM_0 22 rfl (Nat.le_of_ble_eq_true rfl) g_796 ?_
    refine r_iload X dX9_few_127 4 rfl ?_
    obtain ⟨g29, v30, ev30, h⟩ := ld_ok h
    refine s_iald X dX9_few_129 lM_12 g29 ev30 ?_
    refine r_icmp_ge X 152 dX9_few_130 (by decide) (fun c32 => ?_) (fun c32 => ?_)
    · rw [if_pos c32] at h
      refine r_sub (L' := [(0, .ref (ea E 0)), (1, .int a1), (2, .int a2), (3, .int a3), (4, .int a4)]) [0, 1, 2, 3, 4] rfl ?_
      cases h
      exact hE
    · rw [if_neg c32] at h
      refine r_iload_n X dX9_few_133 3 rfl rfl ?_
      refine r_iload_n X dX9_few_134 1 rfl rfl ?_
      refine r_icmp_ge X 152 dX9_few_135 (by decide) (fun c31 => ?_) (fun c31 => ?_)
      · rw [if_pos c31] at h
        refine r_sub (L' := [(0, .ref (ea E 0)), (1, .int a1), (2, .int a2), (3, .int a3), (4, .int a4)]) [0, 1, 2, 3, 4] rfl ?_
        cases h
        exact hE
      · rw [if_neg c31] at h
        refine r_iload_n X dX9_few_138 3 rfl rfl ?_
        refine r_iload X dX9_few_139 4 rfl ?_
        refine r_iadd X dX9_few_141 ?_
        refine r_istore_n (L' := [(0, .ref (ea E 0)), (1, .int a1), (2, .int a2), (3, .int (a3 + a4)), (4, .int a4), (5, .int a5)]) X dX9_few_142 [1, 2, 3, 0, 4, 5] rfl rfl (Nat.le_of_ble_eq_true rfl) ?_
        refine r_iinc (L' := [(0, .ref (ea E 0)), (1, .int a1), (2, .int (a2 + 1)), (3, .int (a3 + a4)), (4, .int a4), (5, .int a5)]) (v := a2 + 1) X dX9_few_143 2 rfl rfl [1, 2, 0, 3, 4, 5] rfl (Nat.le_of_ble_eq_true rfl) ?_
        refine r_iinc (L' := [(0, .ref (ea E 0)), (1, .int a1), (2, .int (a2 + 1)), (3, .int (a3 + a4)), (4, .int a4), (5, .int (a5 + 1))]) (v := a5 + 1) X dX9_few_146 5 rfl rfl [1, 2, 3, 4, 5, 0] rfl (Nat.le_of_ble_eq_true rfl) ?_
        refine r_goto X 121 dX9_few_149 (by decide) ?_
        exact ih _ _ _ _ _ _ _ h hE
set_option maxHeartbeats 4000000 in
set_option maxRecDepth 100000 in
theorem LX9_few_113 {l : Launch} {E : EE} {p : Program} {e : Env} {ms : State} {m : MethodId} {args : Array Value} {below : List Frame} {meth : Method} {c : Code} {a1 : Int32} {Q : State → Prop} (X : Cx E layM p ms m args c cX9_few RX9 6) : ∀ (n : Nat) (a2 : Int32) (a3 : Int32) (a4 : Int32) (s0 : St) (q2 : Int32) (q3 : Int32) (t8 : St), fX9_few_113 a1 n a2 a3 a4 s0 = some (q2, q3, t8) → AW E layM p l e (rmD 108) ms m args below meth c 6 0 0 Q 158 [(0, .ref (ea E 0)), (1, .int a1), (2, .int q2), (3, .int q3)] [] t8 → AW E layM p l e (rmD 108) ms m args below meth c 6 0 0 Q 113 [(0, .ref (ea E 0)), (1, .int a1), (2, .int a2), (3, .int a3), (4, .int a4)] [] s0 := by
  intro n
  induction n with
  | zero =>
    intro a2 a3 a4 s0 q2 q3 t8 h hE
    cases h
  | succ n ih =>
    intro a2 a3 a4 s0 q2 q3 t8 h hE
    rw [fX9_few_113] at h
    refine r_iload X dX9_few_113 4 rfl ?_
    refine r_if_le X 158 dX9_few_115 (by decide) (fun c36 => ?_) (fun c36 => ?_)
    · rw [if_pos c36] at h
      refine r_sub (L' := [(0, .ref (ea E 0)), (1, .int a1), (2, .int a2), (3, .int a3)]) [0, 1, 2, 3] rfl ?_
      cases h
      exact hE
    · rw [if_neg c36] at h
      refine r_iconst X dX9_few_118 (v := 0) (by decide) ?_
      refine r_istore (L' := [(0, .ref (ea E 0)), (1, .int a1), (2, .int a2), (3, .int a3), (4, .int a4), (5, .int 0)]) X dX9_few_119 [1, 2, 3, 4, 5, 0] rfl (Nat.le_of_ble_eq_true rfl) ?_
      obtain ⟨v34, v35, s33, eo, h⟩ := bd3_ok h
      refine LX9_few_121 X FU _ _ _ _ _ _ _ eo ?_
      refine r_iinc (L' := [(0, .ref (ea E 0)), (1, .int a1), (2, .int v34), (3, .int v35), (4, .int (a4 + (-1)))]) (v := a4 + (-1)) X dX9_few_152 4 rfl rfl [1, 2, 3, 4, 0] rfl (Nat.le_of_ble_eq_true rfl) ?_
      refine r_goto X 113 dX9_few_155 (by decide) ?_
      exact ih _ _ _ _ _ _ _ h hE
set_option maxHeartbeats 4000000 in
set_option maxRecDepth 100000 in
theorem ctX9_few {l : Launch} {E : EE} {a1 : Int32} {s0 : St} {r9 : Int32} {t9 : St}  (h : fX9_few a1 s0 = some (r9, t9)) : Ct l E layM yX9_few cX9_few 6 (some .int) 108 [.ref (ea E 0), .int a1] s0 (some (.int r9)) t9 := by
  refine Ct.of (by decide) (Nat.le_of_ble_eq_true rfl) ?_
  intro p e ms m below meth c X hlk hr
  have X : Cx E layM p ms m [.ref (ea E 0), .int a1].toArray c cX9_few RX9 6 := X
  refine r_sub (L' := [(0, .ref (ea E 0)), (1, .int a1)]) [0, 1] rfl ?_
  unfold fX9_few at h
  refine r_iload_n X dX9_few_0 1 rfl rfl ?_
  refine r_iconst X dX9_few_1 (v := 0) (by decide) ?_
  refine r_sipush X dX9_few_2 (v := 999) (by decide) ?_
  obtain ⟨u3, s1, e2, h⟩ := bd2_ok h
  refine kX9_in X (ctX9_in e2) dX9_few_5 g_866 (Nat.le_of_ble_eq_true rfl) (Nat.le_of_ble_eq_true rfl) ?_
  refine r_if_ne X 18 dX9_few_8 (by decide) (fun c47 => ?_) (fun c47 => ?_)
  · rw [if_neg c47] at h
    refine r_iconst X dX9_few_18 (v := 0) (by decide) ?_
    refine r_istore_n (L' := [(0, .ref (ea E 0)), (1, .int a1), (2, .int 0)]) X dX9_few_19 [1, 2, 0] rfl rfl (Nat.le_of_ble_eq_true rfl) ?_
    obtain ⟨s7, eo, h⟩ := bd1_ok h
    refine LX9_few_20 X FU _ _ _ eo ?_
    refine r_iconst X dX9_few_39 (v := 0) (by decide) ?_
    refine r_istore_n (L' := [(0, .ref (ea E 0)), (1, .int a1), (2, .int 0)]) X dX9_few_40 [1, 2, 0] rfl rfl (Nat.le_of_ble_eq_true rfl) ?_
    obtain ⟨s28, eo, h⟩ := bd1_ok h
    refine LX9_few_41 X FU _ _ _ eo ?_
    refine r_iconst X dX9_few_105 (v := 0) (by decide) ?_
    refine r_istore_n (L' := [(0, .ref (ea E 0)), (1, .int a1), (2, .int 0)]) X dX9_few_106 [1, 2, 0] rfl rfl (Nat.le_of_ble_eq_true rfl) ?_
    refine r_iconst X dX9_few_107 (v := 0) (by decide) ?_
    refine r_istore_n (L' := [(0, .ref (ea E 0)), (1, .int a1), (2, .int 0), (3, .int 0)]) X dX9_few_108 [1, 2, 3, 0] rfl rfl (Nat.le_of_ble_eq_true rfl) ?_
    refine r_bipush X dX9_few_109 (v := 9) (by decide) ?_
    refine r_istore (L' := [(0, .ref (ea E 0)), (1, .int a1), (2, .int 0), (3, .int 0), (4, .int 9)]) X dX9_few_111 [1, 2, 3, 4, 0] rfl (Nat.le_of_ble_eq_true rfl) ?_
    obtain ⟨v38, v39, s37, eo, h⟩ := bd3_ok h
    refine LX9_few_113 X FU _ _ _ _ _ _ _ eo ?_
    refine r_iload_n X dX9_few_158 3 rfl rfl ?_
    refine r_iload_n X dX9_few_159 1 rfl rfl ?_
    refine r_icmp_ge X 172 dX9_few_160 (by decide) (fun c43 => ?_) (fun c43 => ?_)
    · rw [if_pos c43] at h
      refine r_iload_n X dX9_few_172 2 rfl rfl ?_
      exact s_iret X hlk hr dX9_few_173 h
    · rw [if_neg c43] at h
      refine r_aload_n X dX9_few_163 0 rfl rfl ?_
      refine r_ldc X dX9_few_164 g_1077 ?_
      obtain ⟨u42, s40, e41, h⟩ := bd2_ok h
      refine kX9_errs X (ctX9_errs e41) dX9_few_166 lM_0 g_874 (Nat.le_of_ble_eq_true rfl) (Nat.le_of_ble_eq_true rfl) ?_
      refine r_goto X 173 dX9_few_169 (by decide) ?_
      exact s_iret X hlk hr dX9_few_173 h
  · rw [if_pos c47] at h
    refine r_aload_n X dX9_few_11 0 rfl rfl ?_
    refine r_ldc X dX9_few_12 g_873 ?_
    obtain ⟨u46, s44, e45, h⟩ := bd2_ok h
    refine kX9_errs X (ctX9_errs e45) dX9_few_14 lM_0 g_874 (Nat.le_of_ble_eq_true rfl) (Nat.le_of_ble_eq_true rfl) ?_
    exact s_iret X hlk hr dX9_few_17 h
/-! X9_brokenSet -/
theorem nX9_brokenSet : yX9_brokenSet.cls ≠ "java/lang/invoke/MethodHandle" ∧ yX9_brokenSet.cls ≠ "java/lang/invoke/VarHandle" ∧ (parseMethodDescriptor yX9_brokenSet.desc).map (fun d => d.parameters.length) = some 0 := by decide +kernel
theorem kX9_brokenSet {l : Launch} {E : EE} {p : Program} {e : Env} {ms : State} {m : MethodId} {args : Array Value} {below : List Frame} {meth : Method} {c : Code} {cc : ByteArray} {own : String} {nL pc idx d D : Nat} {Q : State → Prop} {L : List (Nat × Value)} {rest : List Value} {σ τ : St}  {r : Int32} {fl : List (Option Nat)} (X : Cx E layM p ms m args c cc own nL) (hM : Ct l E layM yX9_brokenSet cX9_brokenSet 3 (some .int) d [.ref (ea E 0)] σ (some (.int r)) τ) (hd : decode cc pc = .ok (.invokevirtual idx, 3)) (hlay : layM[0]? = some (.inl (8, fl))) (w1 : Cond.methodLink own idx yX9_brokenSet ∈ gw) (hR : d + 1 ≤ D) (hrs : (rest.map fun v => v.category).sum ≤ 8) (k : AW E layM p l e (rmD D) ms m args below meth c nL 0 0 Q (pc + 3) L (.int r :: rest) τ) : AW E layM p l e (rmD D) ms m args below meth c nL 0 0 Q pc L (.ref (ea E 0) :: rest) σ :=
  s_callV X [] rest hM hd v_X9 hlay w1 g_1139 g_58 g_77 g_1140 nX9_brokenSet rfl rfl hrs (Nat.le_of_ble_eq_true rfl) hR k
def fX9_brokenSet_4  : Nat → Int32 → Int32 → St → Option (Int32 × St)
  | 0, _, _, _ => none
  | n + 1, a1, a2, s0 =>
    bd1 (ald s0 1 257 2) fun v2 =>
    if v2 ≤ a2 then
    some (a1, s0)
    else
    bd2 (fX9_its a2 2 s0) fun u5 s3 =>
    jn (fun (w6 : Int32) =>
    fX9_brokenSet_4 n (a1 ||| w6) (a2 + 1) s3) fun j33 =>
    if u5 = 9 then
    j33 (shl 1 a2)
    else
    j33 0
def fX9_brokenSet  (s0 : St) : Option (Int32 × St) :=
    bd2 (fX9_brokenSet_4 FU 0 0 s0) fun v10 s9 =>
    some (v10, s9)
set_option maxHeartbeats 4000000 in
set_option maxRecDepth 100000 in
theorem LX9_brokenSet_4 {l : Launch} {E : EE} {p : Program} {e : Env} {ms : State} {m : MethodId} {args : Array Value} {below : List Frame} {meth : Method} {c : Code}  {Q : State → Prop} (X : Cx E layM p ms m args c cX9_brokenSet RX9 3) : ∀ (n : Nat) (a1 : Int32) (a2 : Int32) (s0 : St) (q1 : Int32) (t8 : St), fX9_brokenSet_4 n a1 a2 s0 = some (q1, t8) → AW E layM p l e (rmD 1) ms m args below meth c 3 0 0 Q 41 [(1, .int q1)] [] t8 → AW E layM p l e (rmD 1) ms m args below meth c 3 0 0 Q 4 [(0, .ref (ea E 0)), (1, .int a1), (2, .int a2)] [] s0 := by
  intro n
  induction n with
  | zero =>
    intro a1 a2 s0 q1 t8 h hE
    cases h
  | succ n ih =>
    intro a1 a2 s0 q1 t8 h hE
    rw [fX9_brokenSet_4] at h
    refine r_iload_n X dX9_brokenSet_4 2 rfl rfl ?_
    refine r_aload_n X dX9_brokenSet_5 0 rfl rfl ?_
    refine r_getr X dX9_brokenSet_6 i_X9 v_X9 lM_0 0 rfl (Nat.le_of_ble_eq_true rfl) g_774 ?_
    refine r_iconst X dX9_brokenSet_9 (v := 2) (by decide) ?_
    obtain ⟨g1, v2, ev2, h⟩ := ld_ok h
    refine s_iald X dX9_brokenSet_10 lM_1 g1 ev2 ?_
    refine r_icmp_ge X 41 dX9_brokenSet_11 (by decide) (fun c8 => ?_) (fun c8 => ?_)
    · rw [if_pos c8] at h
      refine r_sub (L' := [(1, .int a1)]) [1] rfl ?_
      cases h
      exact hE
    · rw [if_neg c8] at h
      refine r_iload_n X dX9_brokenSet_14 1 rfl rfl ?_
      refine r_aload_n X dX9_brokenSet_15 0 rfl rfl ?_
      refine r_iload_n X dX9_brokenSet_16 2 rfl rfl ?_
      refine r_iconst X dX9_brokenSet_17 (v := 2) (by decide) ?_
      obtain ⟨u5, s3, e4, h⟩ := bd2_ok h
      refine kX9_its X (ctX9_its e4) dX9_brokenSet_18 lM_0 g_916 (Nat.le_of_ble_eq_true rfl) (Nat.le_of_ble_eq_true rfl) ?_
      refine r_bipush X dX9_brokenSet_21 (v := 9) (by decide) ?_
      obtain ⟨j33, ej33, h⟩ := jn1_ok h
      have hj33 : ∀ (w6 : Int32), j33 w6 = some (q1, t8) → AW E layM p l e (rmD 1) ms m args below meth c 3 0 0 Q 33 [(0, .ref (ea E 0)), (2, .int a2)] [.int w6, .int a1] s3 := by
        intro w6 h
        rw [ej33] at h
        refine r_ior X dX9_brokenSet_33 ?_
        refine r_istore_n (L' := [(0, .ref (ea E 0)), (1, .int (a1 ||| w6)), (2, .int a2)]) X dX9_brokenSet_34 [1, 0, 2] rfl rfl (Nat.le_of_ble_eq_true rfl) ?_
        refine r_iinc (L' := [(0, .ref (ea E 0)), (1, .int (a1 ||| w6)), (2, .int (a2 + 1))]) (v := a2 + 1) X dX9_brokenSet_35 2 rfl rfl [1, 2, 0] rfl (Nat.le_of_ble_eq_true rfl) ?_
        refine r_goto X 4 dX9_brokenSet_38 (by decide) ?_
        exact ih _ _ _ _ _ h hE
      refine r_icmp_ne X 32 dX9_brokenSet_23 (by decide) (fun c7 => ?_) (fun c7 => ?_)
      · rw [if_neg c7] at h
        refine r_iconst X dX9_brokenSet_32 (v := 0) (by decide) ?_
        refine r_sub (L' := [(0, .ref (ea E 0)), (2, .int a2)]) [0, 2] rfl ?_
        exact hj33 _ h
      · rw [if_pos c7] at h
        refine r_iconst X dX9_brokenSet_26 (v := 1) (by decide) ?_
        refine r_iload_n X dX9_brokenSet_27 2 rfl rfl ?_
        refine s_ishl X dX9_brokenSet_28 ?_
        refine r_goto X 33 dX9_brokenSet_29 (by decide) ?_
        refine r_sub (L' := [(0, .ref (ea E 0)), (2, .int a2)]) [0, 2] rfl ?_
        exact hj33 _ h
set_option maxHeartbeats 4000000 in
set_option maxRecDepth 100000 in
theorem ctX9_brokenSet {l : Launch} {E : EE}  {s0 : St} {r9 : Int32} {t9 : St}  (h : fX9_brokenSet  s0 = some (r9, t9)) : Ct l E layM yX9_brokenSet cX9_brokenSet 3 (some .int) 1 [.ref (ea E 0)] s0 (some (.int r9)) t9 := by
  refine Ct.of (by decide) (Nat.le_of_ble_eq_true rfl) ?_
  intro p e ms m below meth c X hlk hr
  have X : Cx E layM p ms m [.ref (ea E 0)].toArray c cX9_brokenSet RX9 3 := X
  refine r_sub (L' := [(0, .ref (ea E 0))]) [0] rfl ?_
  unfold fX9_brokenSet at h
  refine r_iconst X dX9_brokenSet_0 (v := 0) (by decide) ?_
  refine r_istore_n (L' := [(0, .ref (ea E 0)), (1, .int 0)]) X dX9_brokenSet_1 [1, 0] rfl rfl (Nat.le_of_ble_eq_true rfl) ?_
  refine r_iconst X dX9_brokenSet_2 (v := 0) (by decide) ?_
  refine r_istore_n (L' := [(0, .ref (ea E 0)), (1, .int 0), (2, .int 0)]) X dX9_brokenSet_3 [1, 2, 0] rfl rfl (Nat.le_of_ble_eq_true rfl) ?_
  obtain ⟨v10, s9, eo, h⟩ := bd2_ok h
  refine LX9_brokenSet_4 X FU _ _ _ _ _ eo ?_
  refine r_iload_n X dX9_brokenSet_41 0 rfl rfl ?_
  exact s_iret X hlk hr dX9_brokenSet_42 h
/-! X9_broken -/
theorem nX9_broken : yX9_broken.cls ≠ "java/lang/invoke/MethodHandle" ∧ yX9_broken.cls ≠ "java/lang/invoke/VarHandle" ∧ (parseMethodDescriptor yX9_broken.desc).map (fun d => d.parameters.length) = some 1 := by decide +kernel
theorem kX9_broken {l : Launch} {E : EE} {p : Program} {e : Env} {ms : State} {m : MethodId} {args : Array Value} {below : List Frame} {meth : Method} {c : Code} {cc : ByteArray} {own : String} {nL pc idx d D : Nat} {Q : State → Prop} {L : List (Nat × Value)} {rest : List Value} {σ τ : St} {a1 : Int32} {r : Int32} {fl : List (Option Nat)} (X : Cx E layM p ms m args c cc own nL) (hM : Ct l E layM yX9_broken cX9_broken 3 (some .int) d [.ref (ea E 0), .int a1] σ (some (.int r)) τ) (hd : decode cc pc = .ok (.invokevirtual idx, 3)) (hlay : layM[0]? = some (.inl (8, fl))) (w1 : Cond.methodLink own idx yX9_broken ∈ gw) (hR : d + 1 ≤ D) (hrs : (rest.map fun v => v.category).sum ≤ 8) (k : AW E layM p l e (rmD D) ms m args below meth c nL 0 0 Q (pc + 3) L (.int r :: rest) τ) : AW E layM p l e (rmD D) ms m args below meth c nL 0 0 Q pc L (.int a1 :: .ref (ea E 0) :: rest) σ :=
  s_callV X [.int a1] rest hM hd v_X9 hlay w1 g_1134 g_1135 g_77 g_1136 nX9_broken rfl rfl hrs (Nat.le_of_ble_eq_true rfl) hR k
def fX9_broken (a1 : Int32) (s0 : St) : Option (Int32 × St) :=
    bd2 (fX9_in a1 0 60 s0) fun u3 s1 =>
    if u3 = 0 then
    bd2 (fX9_errs (-1000000001) s1) fun u15 s13 =>
    some (u15, s13)
    else
    bd1 (fX9_moveAll 1 257 3 257 s1) fun s4 =>
    bd1 (fX9_passes a1 s4) fun s6 =>
    bd2 (fX9_brokenSet  s6) fun u10 s8 =>
    bd1 (fX9_moveAll 3 257 1 257 s8) fun s11 =>
    some (u10, s11)
set_option maxHeartbeats 4000000 in
set_option maxRecDepth 100000 in
theorem ctX9_broken {l : Launch} {E : EE} {a1 : Int32} {s0 : St} {r9 : Int32} {t9 : St}  (h : fX9_broken a1 s0 = some (r9, t9)) : Ct l E layM yX9_broken cX9_broken 3 (some .int) 111 [.ref (ea E 0), .int a1] s0 (some (.int r9)) t9 := by
  refine Ct.of (by decide) (Nat.le_of_ble_eq_true rfl) ?_
  intro p e ms m below meth c X hlk hr
  have X : Cx E layM p ms m [.ref (ea E 0), .int a1].toArray c cX9_broken RX9 3 := X
  refine r_sub (L' := [(0, .ref (ea E 0)), (1, .int a1)]) [0, 1] rfl ?_
  unfold fX9_broken at h
  refine r_iload_n X dX9_broken_0 1 rfl rfl ?_
  refine r_iconst X dX9_broken_1 (v := 0) (by decide) ?_
  refine r_bipush X dX9_broken_2 (v := 60) (by decide) ?_
  obtain ⟨u3, s1, e2, h⟩ := bd2_ok h
  refine kX9_in X (ctX9_in e2) dX9_broken_4 g_866 (Nat.le_of_ble_eq_true rfl) (Nat.le_of_ble_eq_true rfl) ?_
  refine r_if_ne X 17 dX9_broken_7 (by decide) (fun c16 => ?_) (fun c16 => ?_)
  · rw [if_neg c16] at h
    refine r_aload_n X dX9_broken_17 0 rfl rfl ?_
    refine r_aload_n X dX9_broken_18 0 rfl rfl ?_
    refine r_getr X dX9_broken_19 i_X9 v_X9 lM_0 0 rfl (Nat.le_of_ble_eq_true rfl) g_774 ?_
    refine r_aload_n X dX9_broken_22 0 rfl rfl ?_
    refine r_getr X dX9_broken_23 i_X9 v_X9 lM_0 2 rfl (Nat.le_of_ble_eq_true rfl) g_776 ?_
    obtain ⟨s4, e5, h⟩ := bd1_ok h
    refine kX9_moveAll X (ctX9_moveAll lM_1 lM_3 e5) dX9_broken_26 lM_0 g_1027 (Nat.le_of_ble_eq_true rfl) (Nat.le_of_ble_eq_true rfl) ?_
    refine r_aload_n X dX9_broken_29 0 rfl rfl ?_
    refine r_iload_n X dX9_broken_30 1 rfl rfl ?_
    obtain ⟨s6, e7, h⟩ := bd1_ok h
    refine kX9_passes X (ctX9_passes e7) dX9_broken_31 lM_0 g_1036 (Nat.le_of_ble_eq_true rfl) (Nat.le_of_ble_eq_true rfl) ?_
    refine r_aload_n X dX9_broken_34 0 rfl rfl ?_
    obtain ⟨u10, s8, e9, h⟩ := bd2_ok h
    refine kX9_brokenSet X (ctX9_brokenSet e9) dX9_broken_35 lM_0 g_1137 (Nat.le_of_ble_eq_true rfl) (Nat.le_of_ble_eq_true rfl) ?_
    refine r_istore_n (L' := [(0, .ref (ea E 0)), (2, .int u10)]) X dX9_broken_38 [1, 0] rfl rfl (Nat.le_of_ble_eq_true rfl) ?_
    refine r_aload_n X dX9_broken_39 0 rfl rfl ?_
    refine r_aload_n X dX9_broken_40 0 rfl rfl ?_
    refine r_getr X dX9_broken_41 i_X9 v_X9 lM_0 2 rfl (Nat.le_of_ble_eq_true rfl) g_776 ?_
    refine r_aload_n X dX9_broken_44 0 rfl rfl ?_
    refine r_getr X dX9_broken_45 i_X9 v_X9 lM_0 0 rfl (Nat.le_of_ble_eq_true rfl) g_774 ?_
    obtain ⟨s11, e12, h⟩ := bd1_ok h
    refine kX9_moveAll X (ctX9_moveAll lM_3 lM_1 e12) dX9_broken_48 lM_0 g_1027 (Nat.le_of_ble_eq_true rfl) (Nat.le_of_ble_eq_true rfl) ?_
    refine r_iload_n X dX9_broken_51 1 rfl rfl ?_
    exact s_iret X hlk hr dX9_broken_52 h
  · rw [if_pos c16] at h
    refine r_aload_n X dX9_broken_10 0 rfl rfl ?_
    refine r_ldc X dX9_broken_11 g_873 ?_
    obtain ⟨u15, s13, e14, h⟩ := bd2_ok h
    refine kX9_errs X (ctX9_errs e14) dX9_broken_13 lM_0 g_874 (Nat.le_of_ble_eq_true rfl) (Nat.le_of_ble_eq_true rfl) ?_
    exact s_iret X hlk hr dX9_broken_16 h
/-! X9_swill -/
theorem nX9_swill : yX9_swill.cls ≠ "java/lang/invoke/MethodHandle" ∧ yX9_swill.cls ≠ "java/lang/invoke/VarHandle" ∧ (parseMethodDescriptor yX9_swill.desc).map (fun d => d.parameters.length) = some 1 := by decide +kernel
theorem kX9_swill {l : Launch} {E : EE} {p : Program} {e : Env} {ms : State} {m : MethodId} {args : Array Value} {below : List Frame} {meth : Method} {c : Code} {cc : ByteArray} {own : String} {nL pc idx d D : Nat} {Q : State → Prop} {L : List (Nat × Value)} {rest : List Value} {σ τ : St} {a1 : Int32} {r : Int32} {fl : List (Option Nat)} (X : Cx E layM p ms m args c cc own nL) (hM : Ct l E layM yX9_swill cX9_swill 3 (some .int) d [.ref (ea E 0), .int a1] σ (some (.int r)) τ) (hd : decode cc pc = .ok (.invokevirtual idx, 3)) (hlay : layM[0]? = some (.inl (8, fl))) (w1 : Cond.methodLink own idx yX9_swill ∈ gw) (hR : d + 1 ≤ D) (hrs : (rest.map fun v => v.category).sum ≤ 8) (k : AW E layM p l e (rmD D) ms m args below meth c nL 0 0 Q (pc + 3) L (.int r :: rest) τ) : AW E layM p l e (rmD D) ms m args below meth c nL 0 0 Q pc L (.int a1 :: .ref (ea E 0) :: rest) σ :=
  s_callV X [.int a1] rest hM hd v_X9 hlay w1 g_1142 g_1143 g_77 g_1144 nX9_swill rfl rfl hrs (Nat.le_of_ble_eq_true rfl) hR k
def fX9_swill (a1 : Int32) (s0 : St) : Option (Int32 × St) :=
    bd2 (fX9_in a1 0 60 s0) fun u3 s1 =>
    if u3 = 0 then
    bd2 (fX9_errs (-1000000001) s1) fun u16 s14 =>
    some (u16, s14)
    else
    bd1 (fX9_moveAll 1 257 3 257 s1) fun s4 =>
    bd1 (fX9_passes a1 s4) fun s6 =>
    bd1 (ald s6 1 257 4) fun v9 =>
    bd1 (ald s6 3 257 4) fun v11 =>
    bd1 (fX9_moveAll 3 257 1 257 s6) fun s12 =>
    some (v9 - v11, s12)
set_option maxHeartbeats 4000000 in
set_option maxRecDepth 100000 in
theorem ctX9_swill {l : Launch} {E : EE} {a1 : Int32} {s0 : St} {r9 : Int32} {t9 : St}  (h : fX9_swill a1 s0 = some (r9, t9)) : Ct l E layM yX9_swill cX9_swill 3 (some .int) 111 [.ref (ea E 0), .int a1] s0 (some (.int r9)) t9 := by
  refine Ct.of (by decide) (Nat.le_of_ble_eq_true rfl) ?_
  intro p e ms m below meth c X hlk hr
  have X : Cx E layM p ms m [.ref (ea E 0), .int a1].toArray c cX9_swill RX9 3 := X
  refine r_sub (L' := [(0, .ref (ea E 0)), (1, .int a1)]) [0, 1] rfl ?_
  unfold fX9_swill at h
  refine r_iload_n X dX9_swill_0 1 rfl rfl ?_
  refine r_iconst X dX9_swill_1 (v := 0) (by decide) ?_
  refine r_bipush X dX9_swill_2 (v := 60) (by decide) ?_
  obtain ⟨u3, s1, e2, h⟩ := bd2_ok h
  refine kX9_in X (ctX9_in e2) dX9_swill_4 g_866 (Nat.le_of_ble_eq_true rfl) (Nat.le_of_ble_eq_true rfl) ?_
  refine r_if_ne X 17 dX9_swill_7 (by decide) (fun c17 => ?_) (fun c17 => ?_)
  · rw [if_neg c17] at h
    refine r_aload_n X dX9_swill_17 0 rfl rfl ?_
    refine r_aload_n X dX9_swill_18 0 rfl rfl ?_
    refine r_getr X dX9_swill_19 i_X9 v_X9 lM_0 0 rfl (Nat.le_of_ble_eq_true rfl) g_774 ?_
    refine r_aload_n X dX9_swill_22 0 rfl rfl ?_
    refine r_getr X dX9_swill_23 i_X9 v_X9 lM_0 2 rfl (Nat.le_of_ble_eq_true rfl) g_776 ?_
    obtain ⟨s4, e5, h⟩ := bd1_ok h
    refine kX9_moveAll X (ctX9_moveAll lM_1 lM_3 e5) dX9_swill_26 lM_0 g_1027 (Nat.le_of_ble_eq_true rfl) (Nat.le_of_ble_eq_true rfl) ?_
    refine r_aload_n X dX9_swill_29 0 rfl rfl ?_
    refine r_iload_n X dX9_swill_30 1 rfl rfl ?_
    obtain ⟨s6, e7, h⟩ := bd1_ok h
    refine kX9_passes X (ctX9_passes e7) dX9_swill_31 lM_0 g_1036 (Nat.le_of_ble_eq_true rfl) (Nat.le_of_ble_eq_true rfl) ?_
    refine r_aload_n X dX9_swill_34 0 rfl rfl ?_
    refine r_getr X dX9_swill_35 i_X9 v_X9 lM_0 0 rfl (Nat.le_of_ble_eq_true rfl) g_774 ?_
    refine r_iconst X dX9_swill_38 (v := 4) (by decide) ?_
    obtain ⟨g8, v9, ev9, h⟩ := ld_ok h
    refine s_iald X dX9_swill_39 lM_1 g8 ev9 ?_
    refine r_aload_n X dX9_swill_40 0 rfl rfl ?_
    refine r_getr X dX9_swill_41 i_X9 v_X9 lM_0 2 rfl (Nat.le_of_ble_eq_true rfl) g_776 ?_
    refine r_iconst X dX9_swill_44 (v := 4) (by decide) ?_
    obtain ⟨g10, v11, ev11, h⟩ := ld_ok h
    refine s_iald X dX9_swill_45 lM_3 g10 ev11 ?_
    refine r_isub X dX9_swill_46 ?_
    refine r_istore_n (L' := [(0, .ref (ea E 0)), (2, .int (v9 - v11))]) X dX9_swill_47 [1, 0] rfl rfl (Nat.le_of_ble_eq_true rfl) ?_
    refine r_aload_n X dX9_swill_48 0 rfl rfl ?_
    refine r_aload_n X dX9_swill_49 0 rfl rfl ?_
    refine r_getr X dX9_swill_50 i_X9 v_X9 lM_0 2 rfl (Nat.le_of_ble_eq_true rfl) g_776 ?_
    refine r_aload_n X dX9_swill_53 0 rfl rfl ?_
    refine r_getr X dX9_swill_54 i_X9 v_X9 lM_0 0 rfl (Nat.le_of_ble_eq_true rfl) g_774 ?_
    obtain ⟨s12, e13, h⟩ := bd1_ok h
    refine kX9_moveAll X (ctX9_moveAll lM_3 lM_1 e13) dX9_swill_57 lM_0 g_1027 (Nat.le_of_ble_eq_true rfl) (Nat.le_of_ble_eq_true rfl) ?_
    refine r_iload_n X dX9_swill_60 1 rfl rfl ?_
    exact s_iret X hlk hr dX9_swill_61 h
  · rw [if_pos c17] at h
    refine r_aload_n X dX9_swill_10 0 rfl rfl ?_
    refine r_ldc X dX9_swill_11 g_873 ?_
    obtain ⟨u16, s14, e15, h⟩ := bd2_ok h
    refine kX9_errs X (ctX9_errs e15) dX9_swill_13 lM_0 g_874 (Nat.le_of_ble_eq_true rfl) (Nat.le_of_ble_eq_true rfl) ?_
    exact s_iret X hlk hr dX9_swill_16 h
/-! X9_leftOfAll -/
theorem nX9_leftOfAll : yX9_leftOfAll.cls ≠ "java/lang/invoke/MethodHandle" ∧ yX9_leftOfAll.cls ≠ "java/lang/invoke/VarHandle" ∧ (parseMethodDescriptor yX9_leftOfAll.desc).map (fun d => d.parameters.length) = some 1 := by decide +kernel
theorem kX9_leftOfAll {l : Launch} {E : EE} {p : Program} {e : Env} {ms : State} {m : MethodId} {args : Array Value} {below : List Frame} {meth : Method} {c : Code} {cc : ByteArray} {own : String} {nL pc idx d D : Nat} {Q : State → Prop} {L : List (Nat × Value)} {rest : List Value} {σ τ : St} {a1 : Int32} {r : Int32} {fl : List (Option Nat)} (X : Cx E layM p ms m args c cc own nL) (hM : Ct l E layM yX9_leftOfAll cX9_leftOfAll 4 (some .int) d [.ref (ea E 0), .int a1] σ (some (.int r)) τ) (hd : decode cc pc = .ok (.invokevirtual idx, 3)) (hlay : layM[0]? = some (.inl (8, fl))) (w1 : Cond.methodLink own idx yX9_leftOfAll ∈ gw) (hR : d + 1 ≤ D) (hrs : (rest.map fun v => v.category).sum ≤ 8) (k : AW E layM p l e (rmD D) ms m args below meth c nL 0 0 Q (pc + 3) L (.int r :: rest) τ) : AW E layM p l e (rmD D) ms m args below meth c nL 0 0 Q pc L (.int a1 :: .ref (ea E 0) :: rest) σ :=
  s_callV X [.int a1] rest hM hd v_X9 hlay w1 g_1151 g_59 g_77 g_1152 nX9_leftOfAll rfl rfl hrs (Nat.le_of_ble_eq_true rfl) hR k
def fX9_leftOfAll_4 (a1 : Int32) : Nat → Int32 → Int32 → St → Option (Int32 × St)
  | 0, _, _, _ => none
  | n + 1, a2, a3, s0 =>
    if 6 ≤ a3 then
    some (a2, s0)
    else
    bd2 (fX9_left a1 a3 s0) fun u3 s1 =>
    fX9_leftOfAll_4 a1 n (a2 + u3) (a3 + 1) s1
def fX9_leftOfAll (a1 : Int32) (s0 : St) : Option (Int32 × St) :=
    bd2 (fX9_leftOfAll_4 a1 FU 0 0 s0) fun v6 s5 =>
    some (v6, s5)
set_option maxHeartbeats 4000000 in
set_option maxRecDepth 100000 in
theorem LX9_leftOfAll_4 {l : Launch} {E : EE} {p : Program} {e : Env} {ms : State} {m : MethodId} {args : Array Value} {below : List Frame} {meth : Method} {c : Code} {a1 : Int32} {Q : State → Prop} (X : Cx E layM p ms m args c cX9_leftOfAll RX9 4) : ∀ (n : Nat) (a2 : Int32) (a3 : Int32) (s0 : St) (q2 : Int32) (t8 : St), fX9_leftOfAll_4 a1 n a2 a3 s0 = some (q2, t8) → AW E layM p l e (rmD 108) ms m args below meth c 4 0 0 Q 25 [(2, .int q2)] [] t8 → AW E layM p l e (rmD 108) ms m args below meth c 4 0 0 Q 4 [(0, .ref (ea E 0)), (1, .int a1), (2, .int a2), (3, .int a3)] [] s0 := by
  intro n
  induction n with
  | zero =>
    intro a2 a3 s0 q2 t8 h hE
    cases h
  | succ n ih =>
    intro a2 a3 s0 q2 t8 h hE
    rw [fX9_leftOfAll_4] at h
    refine r_iload_n X dX9_leftOfAll_4 3 rfl rfl ?_
    refine r_bipush X dX9_leftOfAll_5 (v := 6) (by decide) ?_
    refine r_icmp_ge X 25 dX9_leftOfAll_7 (by decide) (fun c4 => ?_) (fun c4 => ?_)
    · rw [if_pos c4] at h
      refine r_sub (L' := [(2, .int a2)]) [2] rfl ?_
      cases h
      exact hE
    · rw [if_neg c4] at h
      refine r_iload_n X dX9_leftOfAll_10 2 rfl rfl ?_
      refine r_aload_n X dX9_leftOfAll_11 0 rfl rfl ?_
      refine r_iload_n X dX9_leftOfAll_12 1 rfl rfl ?_
      refine r_iload_n X dX9_leftOfAll_13 3 rfl rfl ?_
      obtain ⟨u3, s1, e2, h⟩ := bd2_ok h
      refine kX9_left X (ctX9_left e2) dX9_leftOfAll_14 lM_0 g_924 (Nat.le_of_ble_eq_true rfl) (Nat.le_of_ble_eq_true rfl) ?_
      refine r_iadd X dX9_leftOfAll_17 ?_
      refine r_istore_n (L' := [(0, .ref (ea E 0)), (1, .int a1), (2, .int (a2 + u3)), (3, .int a3)]) X dX9_leftOfAll_18 [1, 2, 0, 3] rfl rfl (Nat.le_of_ble_eq_true rfl) ?_
      refine r_iinc (L' := [(0, .ref (ea E 0)), (1, .int a1), (2, .int (a2 + u3)), (3, .int (a3 + 1))]) (v := a3 + 1) X dX9_leftOfAll_19 3 rfl rfl [1, 2, 3, 0] rfl (Nat.le_of_ble_eq_true rfl) ?_
      refine r_goto X 4 dX9_leftOfAll_22 (by decide) ?_
      exact ih _ _ _ _ _ h hE
set_option maxHeartbeats 4000000 in
set_option maxRecDepth 100000 in
theorem ctX9_leftOfAll {l : Launch} {E : EE} {a1 : Int32} {s0 : St} {r9 : Int32} {t9 : St}  (h : fX9_leftOfAll a1 s0 = some (r9, t9)) : Ct l E layM yX9_leftOfAll cX9_leftOfAll 4 (some .int) 108 [.ref (ea E 0), .int a1] s0 (some (.int r9)) t9 := by
  refine Ct.of (by decide) (Nat.le_of_ble_eq_true rfl) ?_
  intro p e ms m below meth c X hlk hr
  have X : Cx E layM p ms m [.ref (ea E 0), .int a1].toArray c cX9_leftOfAll RX9 4 := X
  refine r_sub (L' := [(0, .ref (ea E 0)), (1, .int a1)]) [0, 1] rfl ?_
  unfold fX9_leftOfAll at h
  refine r_iconst X dX9_leftOfAll_0 (v := 0) (by decide) ?_
  refine r_istore_n (L' := [(0, .ref (ea E 0)), (1, .int a1), (2, .int 0)]) X dX9_leftOfAll_1 [1, 2, 0] rfl rfl (Nat.le_of_ble_eq_true rfl) ?_
  refine r_iconst X dX9_leftOfAll_2 (v := 0) (by decide) ?_
  refine r_istore_n (L' := [(0, .ref (ea E 0)), (1, .int a1), (2, .int 0), (3, .int 0)]) X dX9_leftOfAll_3 [1, 2, 3, 0] rfl rfl (Nat.le_of_ble_eq_true rfl) ?_
  obtain ⟨v6, s5, eo, h⟩ := bd2_ok h
  refine LX9_leftOfAll_4 X FU _ _ _ _ _ eo ?_
  refine r_iload_n X dX9_leftOfAll_25 0 rfl rfl ?_
  exact s_iret X hlk hr dX9_leftOfAll_26 h
/-! X9_cheer -/
theorem nX9_cheer : yX9_cheer.cls ≠ "java/lang/invoke/MethodHandle" ∧ yX9_cheer.cls ≠ "java/lang/invoke/VarHandle" ∧ (parseMethodDescriptor yX9_cheer.desc).map (fun d => d.parameters.length) = some 2 := by decide +kernel
theorem kX9_cheer {l : Launch} {E : EE} {p : Program} {e : Env} {ms : State} {m : MethodId} {args : Array Value} {below : List Frame} {meth : Method} {c : Code} {cc : ByteArray} {own : String} {nL pc idx d D : Nat} {Q : State → Prop} {L : List (Nat × Value)} {rest : List Value} {σ τ : St} {a1 : Int32} {a2 : Int32} {r : Int32} {fl : List (Option Nat)} (X : Cx E layM p ms m args c cc own nL) (hM : Ct l E layM yX9_cheer cX9_cheer 6 (some .int) d [.ref (ea E 0), .int a1, .int a2] σ (some (.int r)) τ) (hd : decode cc pc = .ok (.invokevirtual idx, 3)) (hlay : layM[0]? = some (.inl (8, fl))) (w1 : Cond.methodLink own idx yX9_cheer ∈ gw) (hR : d + 1 ≤ D) (hrs : (rest.map fun v => v.category).sum ≤ 8) (k : AW E layM p l e (rmD D) ms m args below meth c nL 0 0 Q (pc + 3) L (.int r :: rest) τ) : AW E layM p l e (rmD D) ms m args below meth c nL 0 0 Q pc L (.int a2 :: .int a1 :: .ref (ea E 0) :: rest) σ :=
  s_callV X [.int a1, .int a2] rest hM hd v_X9 hlay w1 g_1146 g_1147 g_77 g_1148 nX9_cheer rfl rfl hrs (Nat.le_of_ble_eq_true rfl) hR k
def fX9_cheer_38 (a1 : Int32) (a2 : Int32) (a3 : Int32) : Nat → Int32 → Int32 → St → Option (Int32 × St)
  | 0, _, _, _ => none
  | n + 1, a4, a5, s0 =>
    if 9 < a5 then
    some (a4, s0)
    else
    bd1 (fX9_puts a1 2 a5 s0) fun s14 =>
    bd2 (fX9_leftOfAll a1 s14) fun u18 s16 =>
    jn (fun (w19 : Int32) =>
    fX9_cheer_38 a1 a2 a3 n w19 (a5 + 1) s16) fun j69 =>
    if a2 < u18 then
    j69 a4
    else
    j69 a5
def fX9_cheer (a1 : Int32) (a2 : Int32) (s0 : St) : Option (Int32 × St) :=
    bd2 (fX9_isDiner a1 s0) fun u3 s1 =>
    jn (fun (s4 : St) =>
    bd2 (fX9_errs (-1000000001) s4) fun u7 s5 =>
    some (u7, s5)) fun j18 =>
    if u3 = 0 then
    j18 s1
    else
    bd2 (fX9_in a2 0 24 s1) fun u10 s8 =>
    if u10 = 0 then
    j18 s8
    else
    bd2 (fX9_its a1 2 s8) fun u13 s11 =>
    bd2 (fX9_cheer_38 a1 a2 u13 FU (-1) 0 s11) fun v23 s22 =>
    bd1 (fX9_puts a1 2 u13 s22) fun s24 =>
    if 0 ≤ v23 then
    some (v23, s24)
    else
    bd2 (fX9_errs (-1000000002) s24) fun u28 s26 =>
    some (u28, s26)
set_option maxHeartbeats 4000000 in
set_option maxRecDepth 100000 in
theorem LX9_cheer_38 {l : Launch} {E : EE} {p : Program} {e : Env} {ms : State} {m : MethodId} {args : Array Value} {below : List Frame} {meth : Method} {c : Code} {a1 : Int32} {a2 : Int32} {a3 : Int32} {Q : State → Prop} (X : Cx E layM p ms m args c cX9_cheer RX9 6) : ∀ (n : Nat) (a4 : Int32) (a5 : Int32) (s0 : St) (q4 : Int32) (t8 : St), fX9_cheer_38 a1 a2 a3 n a4 a5 s0 = some (q4, t8) → AW E layM p l e (rmD 109) ms m args below meth c 6 0 0 Q 77 [(0, .ref (ea E 0)), (1, .int a1), (3, .int a3), (4, .int q4)] [] t8 → AW E layM p l e (rmD 109) ms m args below meth c 6 0 0 Q 38 [(0, .ref (ea E 0)), (1, .int a1), (2, .int a2), (3, .int a3), (4, .int a4), (5, .int a5)] [] s0 := by
  intro n
  induction n with
  | zero =>
    intro a4 a5 s0 q4 t8 h hE
    cases h
  | succ n ih =>
    intro a4 a5 s0 q4 t8 h hE
    rw [fX9_cheer_38] at h
    refine r_iload X dX9_cheer_38 5 rfl ?_
    refine r_bipush X dX9_cheer_40 (v := 9) (by decide) ?_
    refine r_icmp_gt X 77 dX9_cheer_42 (by decide) (fun c21 => ?_) (fun c21 => ?_)
    · rw [if_pos c21] at h
      refine r_sub (L' := [(0, .ref (ea E 0)), (1, .int a1), (3, .int a3), (4, .int a4)]) [0, 1, 3, 4] rfl ?_
      cases h
      exact hE
    · rw [if_neg c21] at h
      refine r_aload_n X dX9_cheer_45 0 rfl rfl ?_
      refine r_iload_n X dX9_cheer_46 1 rfl rfl ?_
      refine r_iconst X dX9_cheer_47 (v := 2) (by decide) ?_
      refine r_iload X dX9_cheer_48 5 rfl ?_
      obtain ⟨s14, e15, h⟩ := bd1_ok h
      refine kX9_puts X (ctX9_puts e15) dX9_cheer_50 lM_0 g_904 (Nat.le_of_ble_eq_true rfl) (Nat.le_of_ble_eq_true rfl) ?_
      refine r_aload_n X dX9_cheer_53 0 rfl rfl ?_
      refine r_iload_n X dX9_cheer_54 1 rfl rfl ?_
      obtain ⟨u18, s16, e17, h⟩ := bd2_ok h
      refine kX9_leftOfAll X (ctX9_leftOfAll e17) dX9_cheer_55 lM_0 g_1149 (Nat.le_of_ble_eq_true rfl) (Nat.le_of_ble_eq_true rfl) ?_
      refine r_iload_n X dX9_cheer_58 2 rfl rfl ?_
      obtain ⟨j69, ej69, h⟩ := jn1_ok h
      have hj69 : ∀ (w19 : Int32), j69 w19 = some (q4, t8) → AW E layM p l e (rmD 109) ms m args below meth c 6 0 0 Q 69 [(0, .ref (ea E 0)), (1, .int a1), (2, .int a2), (3, .int a3), (5, .int a5)] [.int w19] s16 := by
        intro w19 h
        rw [ej69] at h
        refine r_istore (L' := [(0, .ref (ea E 0)), (1, .int a1), (2, .int a2), (3, .int a3), (4, .int w19), (5, .int a5)]) X dX9_cheer_69 [1, 2, 3, 4, 0, 5] rfl (Nat.le_of_ble_eq_true rfl) ?_
        refine r_iinc (L' := [(0, .ref (ea E 0)), (1, .int a1), (2, .int a2), (3, .int a3), (4, .int w19), (5, .int (a5 + 1))]) (v := a5 + 1) X dX9_cheer_71 5 rfl rfl [1, 2, 3, 4, 5, 0] rfl (Nat.le_of_ble_eq_true rfl) ?_
        refine r_goto X 38 dX9_cheer_74 (by decide) ?_
        exact ih _ _ _ _ _ h hE
      refine r_icmp_gt X 67 dX9_cheer_59 (by decide) (fun c20 => ?_) (fun c20 => ?_)
      · rw [if_pos c20] at h
        refine r_iload X dX9_cheer_67 4 rfl ?_
        refine r_sub (L' := [(0, .ref (ea E 0)), (1, .int a1), (2, .int a2), (3, .int a3), (5, .int a5)]) [0, 1, 2, 3, 5] rfl ?_
        exact hj69 _ h
      · rw [if_neg c20] at h
        refine r_iload X dX9_cheer_62 5 rfl ?_
        refine r_goto X 69 dX9_cheer_64 (by decide) ?_
        refine r_sub (L' := [(0, .ref (ea E 0)), (1, .int a1), (2, .int a2), (3, .int a3), (5, .int a5)]) [0, 1, 2, 3, 5] rfl ?_
        exact hj69 _ h
set_option maxHeartbeats 4000000 in
set_option maxRecDepth 100000 in
theorem ctX9_cheer {l : Launch} {E : EE} {a1 : Int32} {a2 : Int32} {s0 : St} {r9 : Int32} {t9 : St}  (h : fX9_cheer a1 a2 s0 = some (r9, t9)) : Ct l E layM yX9_cheer cX9_cheer 6 (some .int) 109 [.ref (ea E 0), .int a1, .int a2] s0 (some (.int r9)) t9 := by
  refine Ct.of (by decide) (Nat.le_of_ble_eq_true rfl) ?_
  intro p e ms m below meth c X hlk hr
  have X : Cx E layM p ms m [.ref (ea E 0), .int a1, .int a2].toArray c cX9_cheer RX9 6 := X
  refine r_sub (L' := [(0, .ref (ea E 0)), (1, .int a1), (2, .int a2)]) [0, 1, 2] rfl ?_
  unfold fX9_cheer at h
  refine r_aload_n X dX9_cheer_0 0 rfl rfl ?_
  refine r_iload_n X dX9_cheer_1 1 rfl rfl ?_
  obtain ⟨u3, s1, e2, h⟩ := bd2_ok h
  refine kX9_isDiner X (ctX9_isDiner e2) dX9_cheer_2 lM_0 g_912 (Nat.le_of_ble_eq_true rfl) (Nat.le_of_ble_eq_true rfl) ?_
  obtain ⟨j18, ej18, h⟩ := jn1_ok h
  have hj18 : ∀ (s4 : St), j18 s4 = some (r9, t9) → AW E layM p l e (rmD 109) ms m [.ref (ea E 0), .int a1, .int a2].toArray below meth c 6 0 0 (MQc E layM below [.ref (ea E 0), .int a1, .int a2].toArray ms (some (.int r9)) t9) 18 [(0, .ref (ea E 0))] [] s4 := by
    intro s4 h
    rw [ej18] at h
    refine r_aload_n X dX9_cheer_18 0 rfl rfl ?_
    refine r_ldc X dX9_cheer_19 g_873 ?_
    obtain ⟨u7, s5, e6, h⟩ := bd2_ok h
    refine kX9_errs X (ctX9_errs e6) dX9_cheer_21 lM_0 g_874 (Nat.le_of_ble_eq_true rfl) (Nat.le_of_ble_eq_true rfl) ?_
    exact s_iret X hlk hr dX9_cheer_24 h
  refine r_if_eq X 18 dX9_cheer_5 (by decide) (fun c31 => ?_) (fun c31 => ?_)
  · rw [if_pos c31] at h
    refine r_sub (L' := [(0, .ref (ea E 0))]) [0] rfl ?_
    exact hj18 _ h
  · rw [if_neg c31] at h
    refine r_iload_n X dX9_cheer_8 2 rfl rfl ?_
    refine r_iconst X dX9_cheer_9 (v := 0) (by decide) ?_
    refine r_bipush X dX9_cheer_10 (v := 24) (by decide) ?_
    obtain ⟨u10, s8, e9, h⟩ := bd2_ok h
    refine kX9_in X (ctX9_in e9) dX9_cheer_12 g_866 (Nat.le_of_ble_eq_true rfl) (Nat.le_of_ble_eq_true rfl) ?_
    refine r_if_ne X 25 dX9_cheer_15 (by decide) (fun c30 => ?_) (fun c30 => ?_)
    · rw [if_neg c30] at h
      refine r_aload_n X dX9_cheer_25 0 rfl rfl ?_
      refine r_iload_n X dX9_cheer_26 1 rfl rfl ?_
      refine r_iconst X dX9_cheer_27 (v := 2) (by decide) ?_
      obtain ⟨u13, s11, e12, h⟩ := bd2_ok h
      refine kX9_its X (ctX9_its e12) dX9_cheer_28 lM_0 g_916 (Nat.le_of_ble_eq_true rfl) (Nat.le_of_ble_eq_true rfl) ?_
      refine r_istore_n (L' := [(0, .ref (ea E 0)), (1, .int a1), (2, .int a2), (3, .int u13)]) X dX9_cheer_31 [1, 2, 3, 0] rfl rfl (Nat.le_of_ble_eq_true rfl) ?_
      refine r_iconst X dX9_cheer_32 (v := (-1)) (by decide) ?_
      refine r_istore (L' := [(0, .ref (ea E 0)), (1, .int a1), (2, .int a2), (3, .int u13), (4, .int (-1))]) X dX9_cheer_33 [1, 2, 3, 4, 0] rfl (Nat.le_of_ble_eq_true rfl) ?_
      refine r_iconst X dX9_cheer_35 (v := 0) (by decide) ?_
      refine r_istore (L' := [(0, .ref (ea E 0)), (1, .int a1), (2, .int a2), (3, .int u13), (4, .int (-1)), (5, .int 0)]) X dX9_cheer_36 [1, 2, 3, 4, 5, 0] rfl (Nat.le_of_ble_eq_true rfl) ?_
      obtain ⟨v23, s22, eo, h⟩ := bd2_ok h
      refine LX9_cheer_38 X FU _ _ _ _ _ eo ?_
      refine r_aload_n X dX9_cheer_77 0 rfl rfl ?_
      refine r_iload_n X dX9_cheer_78 1 rfl rfl ?_
      refine r_iconst X dX9_cheer_79 (v := 2) (by decide) ?_
      refine r_iload_n X dX9_cheer_80 2 rfl rfl ?_
      obtain ⟨s24, e25, h⟩ := bd1_ok h
      refine kX9_puts X (ctX9_puts e25) dX9_cheer_81 lM_0 g_904 (Nat.le_of_ble_eq_true rfl) (Nat.le_of_ble_eq_true rfl) ?_
      refine r_iload X dX9_cheer_84 3 rfl ?_
      refine r_if_ge X 98 dX9_cheer_86 (by decide) (fun c29 => ?_) (fun c29 => ?_)
      · rw [if_pos c29] at h
        refine r_iload X dX9_cheer_98 3 rfl ?_
        exact s_iret X hlk hr dX9_cheer_100 h
      · rw [if_neg c29] at h
        refine r_aload_n X dX9_cheer_89 0 rfl rfl ?_
        refine r_ldc X dX9_cheer_90 g_1077 ?_
        obtain ⟨u28, s26, e27, h⟩ := bd2_ok h
        refine kX9_errs X (ctX9_errs e27) dX9_cheer_92 lM_0 g_874 (Nat.le_of_ble_eq_true rfl) (Nat.le_of_ble_eq_true rfl) ?_
        refine r_goto X 100 dX9_cheer_95 (by decide) ?_
        exact s_iret X hlk hr dX9_cheer_100 h
    · rw [if_pos c30] at h
      refine r_sub (L' := [(0, .ref (ea E 0))]) [0] rfl ?_
      exact hj18 _ h
/-! X9_odds -/
theorem nX9_odds : yX9_odds.cls ≠ "java/lang/invoke/MethodHandle" ∧ yX9_odds.cls ≠ "java/lang/invoke/VarHandle" ∧ (parseMethodDescriptor yX9_odds.desc).map (fun d => d.parameters.length) = some 4 := by decide +kernel
theorem kX9_odds {l : Launch} {E : EE} {p : Program} {e : Env} {ms : State} {m : MethodId} {args : Array Value} {below : List Frame} {meth : Method} {c : Code} {cc : ByteArray} {own : String} {nL pc idx d D : Nat} {Q : State → Prop} {L : List (Nat × Value)} {rest : List Value} {σ τ : St} {a1 : Int32} {a2 : Int32} {a3 : Int32} {a4 : Int32} {r : Int32} {fl : List (Option Nat)} (X : Cx E layM p ms m args c cc own nL) (hM : Ct l E layM yX9_odds cX9_odds 7 (some .int) d [.ref (ea E 0), .int a1, .int a2, .int a3, .int a4] σ (some (.int r)) τ) (hd : decode cc pc = .ok (.invokevirtual idx, 3)) (hlay : layM[0]? = some (.inl (8, fl))) (w1 : Cond.methodLink own idx yX9_odds ∈ gw) (hR : d + 1 ≤ D) (hrs : (rest.map fun v => v.category).sum ≤ 8) (k : AW E layM p l e (rmD D) ms m args below meth c nL 0 0 Q (pc + 3) L (.int r :: rest) τ) : AW E layM p l e (rmD D) ms m args below meth c nL 0 0 Q pc L (.int a4 :: .int a3 :: .int a2 :: .int a1 :: .ref (ea E 0) :: rest) σ :=
  s_callV X [.int a1, .int a2, .int a3, .int a4] rest hM hd v_X9 hlay w1 g_1154 g_1155 g_77 g_1156 nX9_odds rfl rfl hrs (Nat.le_of_ble_eq_true rfl) hR k
def fX9_odds_63 (a1 : Int32) (a2 : Int32) (a3 : Int32) (a4 : Int32) : Nat → Int32 → Int32 → St → Option (Int32 × St)
  | 0, _, _, _ => none
  | n + 1, a5, a6, s0 =>
    if 10 ≤ a6 then
    some (a5, s0)
    else
    bd2 (fX9_isKnown a1 (4 * a6) a2 a3 s0) fun u21 s19 =>
    jn (fun (w22 : Int32) =>
    fX9_odds_63 a1 a2 a3 a4 n (a5 + w22) (a6 + 1) s19) fun j91 =>
    if u21 = 0 then
    j91 0
    else
    j91 1
def fX9_odds (a1 : Int32) (a2 : Int32) (a3 : Int32) (a4 : Int32) (s0 : St) : Option (Int32 × St) :=
    bd2 (fX9_isDiner a1 s0) fun u3 s1 =>
    jn (fun (s4 : St) =>
    bd2 (fX9_errs (-1000000001) s4) fun u7 s5 =>
    some (u7, s5)) fun j38 =>
    if u3 = 0 then
    j38 s1
    else
    bd2 (fX9_in a2 0 30 s1) fun u10 s8 =>
    if u10 = 0 then
    j38 s8
    else
    bd2 (fX9_in a3 0 99 s8) fun u13 s11 =>
    if u13 = 0 then
    j38 s11
    else
    bd2 (fX9_in a4 0 1 s11) fun u16 s14 =>
    if u16 = 0 then
    j38 s14
    else
    bd1 (fX9_moveAll 1 257 3 257 s14) fun s17 =>
    bd2 (fX9_odds_63 a1 a2 a3 a4 FU 0 0 s17) fun v26 s25 =>
    jn (fun (w27 : Int32) =>
    if a4 = 0 then
    gz w27 <| some (v26 / w27, s25)
    else
    gz w27 <| some (10 / w27, s25)) fun j135 =>
    if (irm v26 10) = 0 then
    j135 10
    else
    if v26 = 5 then
    j135 5
    else
    if (irm v26 2) = 0 then
    j135 2
    else
    j135 1
set_option maxHeartbeats 4000000 in
set_option maxRecDepth 100000 in
theorem LX9_odds_63 {l : Launch} {E : EE} {p : Program} {e : Env} {ms : State} {m : MethodId} {args : Array Value} {below : List Frame} {meth : Method} {c : Code} {a1 : Int32} {a2 : Int32} {a3 : Int32} {a4 : Int32} {Q : State → Prop} (X : Cx E layM p ms m args c cX9_odds RX9 7) : ∀ (n : Nat) (a5 : Int32) (a6 : Int32) (s0 : St) (q5 : Int32) (t8 : St), fX9_odds_63 a1 a2 a3 a4 n a5 a6 s0 = some (q5, t8) → AW E layM p l e (rmD 112) ms m args below meth c 7 0 0 Q 100 [(4, .int a4), (5, .int q5)] [] t8 → AW E layM p l e (rmD 112) ms m args below meth c 7 0 0 Q 63 [(0, .ref (ea E 0)), (1, .int a1), (2, .int a2), (3, .int a3), (4, .int a4), (5, .int a5), (6, .int a6)] [] s0 := by
  intro n
  induction n with
  | zero =>
    intro a5 a6 s0 q5 t8 h hE
    cases h
  | succ n ih =>
    intro a5 a6 s0 q5 t8 h hE
    rw [fX9_odds_63] at h
    refine r_iload X dX9_odds_63 6 rfl ?_
    refine r_bipush X dX9_odds_65 (v := 10) (by decide) ?_
    refine r_icmp_ge X 100 dX9_odds_67 (by decide) (fun c24 => ?_) (fun c24 => ?_)
    · rw [if_pos c24] at h
      refine r_sub (L' := [(4, .int a4), (5, .int a5)]) [4, 5] rfl ?_
      cases h
      exact hE
    · rw [if_neg c24] at h
      refine r_iload X dX9_odds_70 5 rfl ?_
      refine r_aload_n X dX9_odds_72 0 rfl rfl ?_
      refine r_iload_n X dX9_odds_73 1 rfl rfl ?_
      refine r_iconst X dX9_odds_74 (v := 4) (by decide) ?_
      refine r_iload X dX9_odds_75 6 rfl ?_
      refine r_imul X dX9_odds_77 ?_
      refine r_iload_n X dX9_odds_78 2 rfl rfl ?_
      refine r_iload_n X dX9_odds_79 3 rfl rfl ?_
      obtain ⟨u21, s19, e20, h⟩ := bd2_ok h
      refine kX9_isKnown X (ctX9_isKnown e20) dX9_odds_80 lM_0 g_1086 (Nat.le_of_ble_eq_true rfl) (Nat.le_of_ble_eq_true rfl) ?_
      obtain ⟨j91, ej91, h⟩ := jn1_ok h
      have hj91 : ∀ (w22 : Int32), j91 w22 = some (q5, t8) → AW E layM p l e (rmD 112) ms m args below meth c 7 0 0 Q 91 [(0, .ref (ea E 0)), (1, .int a1), (2, .int a2), (3, .int a3), (4, .int a4), (6, .int a6)] [.int w22, .int a5] s19 := by
        intro w22 h
        rw [ej91] at h
        refine r_iadd X dX9_odds_91 ?_
        refine r_istore (L' := [(0, .ref (ea E 0)), (1, .int a1), (2, .int a2), (3, .int a3), (4, .int a4), (5, .int (a5 + w22)), (6, .int a6)]) X dX9_odds_92 [1, 2, 3, 4, 5, 0, 6] rfl (Nat.le_of_ble_eq_true rfl) ?_
        refine r_iinc (L' := [(0, .ref (ea E 0)), (1, .int a1), (2, .int a2), (3, .int a3), (4, .int a4), (5, .int (a5 + w22)), (6, .int (a6 + 1))]) (v := a6 + 1) X dX9_odds_94 6 rfl rfl [1, 2, 3, 4, 5, 6, 0] rfl (Nat.le_of_ble_eq_true rfl) ?_
        refine r_goto X 63 dX9_odds_97 (by decide) ?_
        exact ih _ _ _ _ _ h hE
      refine r_if_eq X 90 dX9_odds_83 (by decide) (fun c23 => ?_) (fun c23 => ?_)
      · rw [if_pos c23] at h
        refine r_iconst X dX9_odds_90 (v := 0) (by decide) ?_
        refine r_sub (L' := [(0, .ref (ea E 0)), (1, .int a1), (2, .int a2), (3, .int a3), (4, .int a4), (6, .int a6)]) [0, 1, 2, 3, 4, 6] rfl ?_
        exact hj91 _ h
      · rw [if_neg c23] at h
        refine r_iconst X dX9_odds_86 (v := 1) (by decide) ?_
        refine r_goto X 91 dX9_odds_87 (by decide) ?_
        refine r_sub (L' := [(0, .ref (ea E 0)), (1, .int a1), (2, .int a2), (3, .int a3), (4, .int a4), (6, .int a6)]) [0, 1, 2, 3, 4, 6] rfl ?_
        exact hj91 _ h
set_option maxHeartbeats 4000000 in
set_option maxRecDepth 100000 in
theorem ctX9_odds {l : Launch} {E : EE} {a1 : Int32} {a2 : Int32} {a3 : Int32} {a4 : Int32} {s0 : St} {r9 : Int32} {t9 : St}  (h : fX9_odds a1 a2 a3 a4 s0 = some (r9, t9)) : Ct l E layM yX9_odds cX9_odds 7 (some .int) 112 [.ref (ea E 0), .int a1, .int a2, .int a3, .int a4] s0 (some (.int r9)) t9 := by
  refine Ct.of (by decide) (Nat.le_of_ble_eq_true rfl) ?_
  intro p e ms m below meth c X hlk hr
  have X : Cx E layM p ms m [.ref (ea E 0), .int a1, .int a2, .int a3, .int a4].toArray c cX9_odds RX9 7 := X
  refine r_sub (L' := [(0, .ref (ea E 0)), (1, .int a1), (2, .int a2), (3, .int a3), (4, .int a4)]) [0, 1, 2, 3, 4] rfl ?_
  unfold fX9_odds at h
  refine r_aload_n X dX9_odds_0 0 rfl rfl ?_
  refine r_iload_n X dX9_odds_1 1 rfl rfl ?_
  obtain ⟨u3, s1, e2, h⟩ := bd2_ok h
  refine kX9_isDiner X (ctX9_isDiner e2) dX9_odds_2 lM_0 g_912 (Nat.le_of_ble_eq_true rfl) (Nat.le_of_ble_eq_true rfl) ?_
  obtain ⟨j38, ej38, h⟩ := jn1_ok h
  have hj38 : ∀ (s4 : St), j38 s4 = some (r9, t9) → AW E layM p l e (rmD 112) ms m [.ref (ea E 0), .int a1, .int a2, .int a3, .int a4].toArray below meth c 7 0 0 (MQc E layM below [.ref (ea E 0), .int a1, .int a2, .int a3, .int a4].toArray ms (some (.int r9)) t9) 38 [(0, .ref (ea E 0))] [] s4 := by
    intro s4 h
    rw [ej38] at h
    refine r_aload_n X dX9_odds_38 0 rfl rfl ?_
    refine r_ldc X dX9_odds_39 g_873 ?_
    obtain ⟨u7, s5, e6, h⟩ := bd2_ok h
    refine kX9_errs X (ctX9_errs e6) dX9_odds_41 lM_0 g_874 (Nat.le_of_ble_eq_true rfl) (Nat.le_of_ble_eq_true rfl) ?_
    exact s_iret X hlk hr dX9_odds_44 h
  refine r_if_eq X 38 dX9_odds_5 (by decide) (fun c37 => ?_) (fun c37 => ?_)
  · rw [if_pos c37] at h
    refine r_sub (L' := [(0, .ref (ea E 0))]) [0] rfl ?_
    exact hj38 _ h
  · rw [if_neg c37] at h
    refine r_iload_n X dX9_odds_8 2 rfl rfl ?_
    refine r_iconst X dX9_odds_9 (v := 0) (by decide) ?_
    refine r_bipush X dX9_odds_10 (v := 30) (by decide) ?_
    obtain ⟨u10, s8, e9, h⟩ := bd2_ok h
    refine kX9_in X (ctX9_in e9) dX9_odds_12 g_866 (Nat.le_of_ble_eq_true rfl) (Nat.le_of_ble_eq_true rfl) ?_
    refine r_if_eq X 38 dX9_odds_15 (by decide) (fun c36 => ?_) (fun c36 => ?_)
    · rw [if_pos c36] at h
      refine r_sub (L' := [(0, .ref (ea E 0))]) [0] rfl ?_
      exact hj38 _ h
    · rw [if_neg c36] at h
      refine r_iload_n X dX9_odds_18 3 rfl rfl ?_
      refine r_iconst X dX9_odds_19 (v := 0) (by decide) ?_
      refine r_bipush X dX9_odds_20 (v := 99) (by decide) ?_
      obtain ⟨u13, s11, e12, h⟩ := bd2_ok h
      refine kX9_in X (ctX9_in e12) dX9_odds_22 g_866 (Nat.le_of_ble_eq_true rfl) (Nat.le_of_ble_eq_true rfl) ?_
      refine r_if_eq X 38 dX9_odds_25 (by decide) (fun c35 => ?_) (fun c35 => ?_)
      · rw [if_pos c35] at h
        refine r_sub (L' := [(0, .ref (ea E 0))]) [0] rfl ?_
        exact hj38 _ h
      · rw [if_neg c35] at h
        refine r_iload X dX9_odds_28 4 rfl ?_
        refine r_iconst X dX9_odds_30 (v := 0) (by decide) ?_
        refine r_iconst X dX9_odds_31 (v := 1) (by decide) ?_
        obtain ⟨u16, s14, e15, h⟩ := bd2_ok h
        refine kX9_in X (ctX9_in e15) dX9_odds_32 g_866 (Nat.le_of_ble_eq_true rfl) (Nat.le_of_ble_eq_true rfl) ?_
        refine r_if_ne X 45 dX9_odds_35 (by decide) (fun c34 => ?_) (fun c34 => ?_)
        · rw [if_neg c34] at h
          refine r_aload_n X dX9_odds_45 0 rfl rfl ?_
          refine r_aload_n X dX9_odds_46 0 rfl rfl ?_
          refine r_getr X dX9_odds_47 i_X9 v_X9 lM_0 0 rfl (Nat.le_of_ble_eq_true rfl) g_774 ?_
          refine r_aload_n X dX9_odds_50 0 rfl rfl ?_
          refine r_getr X dX9_odds_51 i_X9 v_X9 lM_0 2 rfl (Nat.le_of_ble_eq_true rfl) g_776 ?_
          obtain ⟨s17, e18, h⟩ := bd1_ok h
          refine kX9_moveAll X (ctX9_moveAll lM_1 lM_3 e18) dX9_odds_54 lM_0 g_1027 (Nat.le_of_ble_eq_true rfl) (Nat.le_of_ble_eq_true rfl) ?_
          refine r_iconst X dX9_odds_57 (v := 0) (by decide) ?_
          refine r_istore (L' := [(0, .ref (ea E 0)), (1, .int a1), (2, .int a2), (3, .int a3), (4, .int a4), (5, .int 0)]) X dX9_odds_58 [1, 2, 3, 4, 5, 0] rfl (Nat.le_of_ble_eq_true rfl) ?_
          refine r_iconst X dX9_odds_60 (v := 0) (by decide) ?_
          refine r_istore (L' := [(0, .ref (ea E 0)), (1, .int a1), (2, .int a2), (3, .int a3), (4, .int a4), (5, .int 0), (6, .int 0)]) X dX9_odds_61 [1, 2, 3, 4, 5, 6, 0] rfl (Nat.le_of_ble_eq_true rfl) ?_
          obtain ⟨v26, s25, eo, h⟩ := bd2_ok h
          refine LX9_odds_63 X FU _ _ _ _ _ eo ?_
          refine r_iload X dX9_odds_100 1 rfl ?_
          refine r_bipush X dX9_odds_102 (v := 10) (by decide) ?_
          refine s_irem X dX9_odds_104 (by decide) ?_
          obtain ⟨j135, ej135, h⟩ := jn1_ok h
          have hj135 : ∀ (w27 : Int32), j135 w27 = some (r9, t9) → AW E layM p l e (rmD 112) ms m [.ref (ea E 0), .int a1, .int a2, .int a3, .int a4].toArray below meth c 7 0 0 (MQc E layM below [.ref (ea E 0), .int a1, .int a2, .int a3, .int a4].toArray ms (some (.int r9)) t9) 135 [(4, .int a4), (5, .int v26)] [.int w27] s25 := by
            intro w27 h
            rw [ej135] at h
            refine r_istore (L' := [(4, .int a4), (5, .int v26), (6, .int w27)]) X dX9_odds_135 [1, 2, 0] rfl (Nat.le_of_ble_eq_true rfl) ?_
            refine r_iload X dX9_odds_137 0 rfl ?_
            refine r_if_ne X 150 dX9_odds_139 (by decide) (fun c30 => ?_) (fun c30 => ?_)
            · rw [if_neg c30] at h
              refine r_bipush X dX9_odds_150 (v := 10) (by decide) ?_
              refine r_iload X dX9_odds_152 2 rfl ?_
              obtain ⟨g28, h⟩ := gz_ok h
              refine r_idiv X dX9_odds_154 g28 ?_
              exact s_iret X hlk hr dX9_odds_155 h
            · rw [if_pos c30] at h
              refine r_iload X dX9_odds_142 1 rfl ?_
              refine r_iload X dX9_odds_144 2 rfl ?_
              obtain ⟨g29, h⟩ := gz_ok h
              refine r_idiv X dX9_odds_146 g29 ?_
              refine r_goto X 155 dX9_odds_147 (by decide) ?_
              exact s_iret X hlk hr dX9_odds_155 h
          refine r_if_ne X 113 dX9_odds_105 (by decide) (fun c33 => ?_) (fun c33 => ?_)
          · rw [if_neg c33] at h
            refine r_iload X dX9_odds_113 1 rfl ?_
            refine r_iconst X dX9_odds_115 (v := 5) (by decide) ?_
            refine r_icmp_ne X 123 dX9_odds_116 (by decide) (fun c32 => ?_) (fun c32 => ?_)
            · rw [if_neg c32] at h
              refine r_iload X dX9_odds_123 1 rfl ?_
              refine r_iconst X dX9_odds_125 (v := 2) (by decide) ?_
              refine s_irem X dX9_odds_126 (by decide) ?_
              refine r_if_ne X 134 dX9_odds_127 (by decide) (fun c31 => ?_) (fun c31 => ?_)
              · rw [if_neg c31] at h
                refine r_iconst X dX9_odds_134 (v := 1) (by decide) ?_
                exact hj135 _ h
              · rw [if_pos c31] at h
                refine r_iconst X dX9_odds_130 (v := 2) (by decide) ?_
                refine r_goto X 135 dX9_odds_131 (by decide) ?_
                exact hj135 _ h
            · rw [if_pos c32] at h
              refine r_iconst X dX9_odds_119 (v := 5) (by decide) ?_
              refine r_goto X 135 dX9_odds_120 (by decide) ?_
              exact hj135 _ h
          · rw [if_pos c33] at h
            refine r_bipush X dX9_odds_108 (v := 10) (by decide) ?_
            refine r_goto X 135 dX9_odds_110 (by decide) ?_
            exact hj135 _ h
        · rw [if_pos c34] at h
          refine r_sub (L' := [(0, .ref (ea E 0))]) [0] rfl ?_
          exact hj38 _ h
/-! X9_seed -/
theorem nX9_seed : yX9_seed.cls ≠ "java/lang/invoke/MethodHandle" ∧ yX9_seed.cls ≠ "java/lang/invoke/VarHandle" ∧ (parseMethodDescriptor yX9_seed.desc).map (fun d => d.parameters.length) = some 1 := by decide +kernel
theorem kX9_seed {l : Launch} {E : EE} {p : Program} {e : Env} {ms : State} {m : MethodId} {args : Array Value} {below : List Frame} {meth : Method} {c : Code} {cc : ByteArray} {own : String} {nL pc idx d D : Nat} {Q : State → Prop} {L : List (Nat × Value)} {rest : List Value} {σ τ : St} {a1 : Int32} {r : Int32} {fl : List (Option Nat)} (X : Cx E layM p ms m args c cc own nL) (hM : Ct l E layM yX9_seed cX9_seed 3 (some .int) d [.ref (ea E 0), .int a1] σ (some (.int r)) τ) (hd : decode cc pc = .ok (.invokevirtual idx, 3)) (hlay : layM[0]? = some (.inl (8, fl))) (w1 : Cond.methodLink own idx yX9_seed ∈ gw) (hR : d + 1 ≤ D) (hrs : (rest.map fun v => v.category).sum ≤ 8) (k : AW E layM p l e (rmD D) ms m args below meth c nL 0 0 Q (pc + 3) L (.int r :: rest) τ) : AW E layM p l e (rmD D) ms m args below meth c nL 0 0 Q pc L (.int a1 :: .ref (ea E 0) :: rest) σ :=
  s_callV X [.int a1] rest hM hd v_X9 hlay w1 g_1158 g_1159 g_77 g_1160 nX9_seed rfl rfl hrs (Nat.le_of_ble_eq_true rfl) hR k
def fX9_seed (a1 : Int32) (s0 : St) : Option (Int32 × St) :=
    bd1 (ald s0 1 257 1) fun v2 =>
    bd1 (ast s0 1 257 1 a1) fun s4 =>
    some (v2, s4)
set_option maxHeartbeats 4000000 in
set_option maxRecDepth 100000 in
theorem ctX9_seed {l : Launch} {E : EE} {a1 : Int32} {s0 : St} {r9 : Int32} {t9 : St}  (h : fX9_seed a1 s0 = some (r9, t9)) : Ct l E layM yX9_seed cX9_seed 3 (some .int) 0 [.ref (ea E 0), .int a1] s0 (some (.int r9)) t9 := by
  refine Ct.of (by decide) (Nat.le_of_ble_eq_true rfl) ?_
  intro p e ms m below meth c X hlk hr
  have X : Cx E layM p ms m [.ref (ea E 0), .int a1].toArray c cX9_seed RX9 3 := X
  refine r_sub (L' := [(0, .ref (ea E 0)), (1, .int a1)]) [0, 1] rfl ?_
  unfold fX9_seed at h
  refine r_aload_n X dX9_seed_0 0 rfl rfl ?_
  refine r_getr X dX9_seed_1 i_X9 v_X9 lM_0 0 rfl (Nat.le_of_ble_eq_true rfl) g_774 ?_
  refine r_iconst X dX9_seed_4 (v := 1) (by decide) ?_
  obtain ⟨g1, v2, ev2, h⟩ := ld_ok h
  refine s_iald X dX9_seed_5 lM_1 g1 ev2 ?_
  refine r_istore_n (L' := [(0, .ref (ea E 0)), (1, .int a1), (2, .int v2)]) X dX9_seed_6 [1, 2, 0] rfl rfl (Nat.le_of_ble_eq_true rfl) ?_
  refine r_aload_n X dX9_seed_7 0 rfl rfl ?_
  refine r_getr X dX9_seed_8 i_X9 v_X9 lM_0 0 rfl (Nat.le_of_ble_eq_true rfl) g_774 ?_
  refine r_iconst X dX9_seed_11 (v := 1) (by decide) ?_
  refine r_iload_n X dX9_seed_12 1 rfl rfl ?_
  obtain ⟨g3, s4, es4, h⟩ := as_ok h
  refine s_iast X dX9_seed_13 lM_1 g3 es4 ?_
  refine r_iload_n X dX9_seed_14 2 rfl rfl ?_
  exact s_iret X hlk hr dX9_seed_15 h
/-! X9_ran -/
theorem nX9_ran : yX9_ran.cls ≠ "java/lang/invoke/MethodHandle" ∧ yX9_ran.cls ≠ "java/lang/invoke/VarHandle" ∧ (parseMethodDescriptor yX9_ran.desc).map (fun d => d.parameters.length) = some 1 := by decide +kernel
theorem kX9_ran {l : Launch} {E : EE} {p : Program} {e : Env} {ms : State} {m : MethodId} {args : Array Value} {below : List Frame} {meth : Method} {c : Code} {cc : ByteArray} {own : String} {nL pc idx d D : Nat} {Q : State → Prop} {L : List (Nat × Value)} {rest : List Value} {σ τ : St} {a1 : Int32}  {fl : List (Option Nat)} (X : Cx E layM p ms m args c cc own nL) (hM : Ct l E layM yX9_ran cX9_ran 2 none d [.ref (ea E 0), .int a1] σ none τ) (hd : decode cc pc = .ok (.invokevirtual idx, 3)) (hlay : layM[0]? = some (.inl (8, fl))) (w1 : Cond.methodLink own idx yX9_ran ∈ gw) (hR : d + 1 ≤ D) (hrs : (rest.map fun v => v.category).sum ≤ 8) (k : AW E layM p l e (rmD D) ms m args below meth c nL 0 0 Q (pc + 3) L rest τ) : AW E layM p l e (rmD D) ms m args below meth c nL 0 0 Q pc L (.int a1 :: .ref (ea E 0) :: rest) σ :=
  s_callV X [.int a1] rest hM hd v_X9 hlay w1 g_1171 g_61 g_77 g_1172 nX9_ran rfl rfl hrs (Nat.le_of_ble_eq_true rfl) hR k
def fX9_ran (a1 : Int32) (s0 : St) : Option (St) :=
    if 40 ≤ (s0 0 24) then
    some s0
    else
    bd1 (ast s0 13 40 (s0 0 24) a1) fun s2 =>
    bd1 (ptf s2 0 24 ((s2 0 24) + 1)) fun s3 =>
    some s3
set_option maxHeartbeats 4000000 in
set_option maxRecDepth 100000 in
theorem ctX9_ran {l : Launch} {E : EE} {a1 : Int32} {s0 : St} {t9 : St}  (h : fX9_ran a1 s0 = some t9) : Ct l E layM yX9_ran cX9_ran 2 none 0 [.ref (ea E 0), .int a1] s0 none t9 := by
  refine Ct.of (by decide) (Nat.le_of_ble_eq_true rfl) ?_
  intro p e ms m below meth c X hlk hr
  have X : Cx E layM p ms m [.ref (ea E 0), .int a1].toArray c cX9_ran RX9 2 := X
  refine r_sub (L' := [(0, .ref (ea E 0)), (1, .int a1)]) [0, 1] rfl ?_
  unfold fX9_ran at h
  refine r_aload_n X dX9_ran_0 0 rfl rfl ?_
  refine r_geti X dX9_ran_1 i_X9 v_X9 lM_0 24 rfl (Nat.le_of_ble_eq_true rfl) g_798 ?_
  refine r_bipush X dX9_ran_4 (v := 40) (by decide) ?_
  refine r_icmp_ge X 29 dX9_ran_6 (by decide) (fun c4 => ?_) (fun c4 => ?_)
  · rw [if_pos c4] at h
    exact s_vret X hlk hr dX9_ran_29 h
  · rw [if_neg c4] at h
    refine r_aload_n X dX9_ran_9 0 rfl rfl ?_
    refine r_getr X dX9_ran_10 i_X9 v_X9 lM_0 23 rfl (Nat.le_of_ble_eq_true rfl) g_797 ?_
    refine r_aload_n X dX9_ran_13 0 rfl rfl ?_
    refine r_geti X dX9_ran_14 i_X9 v_X9 lM_0 24 rfl (Nat.le_of_ble_eq_true rfl) g_798 ?_
    refine r_iload_n X dX9_ran_17 1 rfl rfl ?_
    obtain ⟨g1, s2, es2, h⟩ := as_ok h
    refine s_iast X dX9_ran_18 lM_13 g1 es2 ?_
    refine r_aload_n X dX9_ran_19 0 rfl rfl ?_
    refine r_dup X dX9_ran_20 rfl ?_
    refine r_geti X dX9_ran_21 i_X9 v_X9 lM_0 24 rfl (Nat.le_of_ble_eq_true rfl) g_798 ?_
    refine r_iconst X dX9_ran_24 (v := 1) (by decide) ?_
    refine r_iadd X dX9_ran_25 ?_
    obtain ⟨s3, es3, h⟩ := pt_ok h
    refine s_puti X dX9_ran_26 i_X9 tyX9_ok nmX9 v_X9 lM_0 24 rfl (Nat.le_of_ble_eq_true rfl) g_798 rfl rfl ⟨rfl, rfl⟩ es3 ?_
    exact s_vret X hlk hr dX9_ran_29 h
/-! X9_leavesIn -/
theorem nX9_leavesIn : yX9_leavesIn.cls ≠ "java/lang/invoke/MethodHandle" ∧ yX9_leavesIn.cls ≠ "java/lang/invoke/VarHandle" ∧ (parseMethodDescriptor yX9_leavesIn.desc).map (fun d => d.parameters.length) = some 2 := by decide +kernel
theorem kX9_leavesIn {l : Launch} {E : EE} {p : Program} {e : Env} {ms : State} {m : MethodId} {args : Array Value} {below : List Frame} {meth : Method} {c : Code} {cc : ByteArray} {own : String} {nL pc idx d D : Nat} {Q : State → Prop} {L : List (Nat × Value)} {rest : List Value} {σ τ : St} {a1 : Int32} {a2 : Int32} {r : Int32} {fl : List (Option Nat)} (X : Cx E layM p ms m args c cc own nL) (hM : Ct l E layM yX9_leavesIn cX9_leavesIn 3 (some .int) d [.ref (ea E 0), .int a1, .int a2] σ (some (.int r)) τ) (hd : decode cc pc = .ok (.invokevirtual idx, 3)) (hlay : layM[0]? = some (.inl (8, fl))) (w1 : Cond.methodLink own idx yX9_leavesIn ∈ gw) (hR : d + 1 ≤ D) (hrs : (rest.map fun v => v.category).sum ≤ 8) (k : AW E layM p l e (rmD D) ms m args below meth c nL 0 0 Q (pc + 3) L (.int r :: rest) τ) : AW E layM p l e (rmD D) ms m args below meth c nL 0 0 Q pc L (.int a2 :: .int a1 :: .ref (ea E 0) :: rest) σ :=
  s_callV X [.int a1, .int a2] rest hM hd v_X9 hlay w1 g_1167 g_60 g_77 g_1168 nX9_leavesIn rfl rfl hrs (Nat.le_of_ble_eq_true rfl) hR k
def fX9_leavesIn (rec : Nat → List Int32 → St → Option (Int32 × St)) (a1 : Int32) (a2 : Int32) (s0 : St) : Option (Int32 × St) :=
    if a1 = 0 then
    bd1 (fX9_ran 10 s0) fun s13 =>
    some (a2 + (s13 0 26), s13)
    else
    if a1 = 1 then
    bd1 (fX9_ran 20 s0) fun s7 =>
    bd2 (rec 0 [0, a2] s7) fun u11 s9 =>
    some (u11 * 3, s9)
    else
    bd2 (fX9_above a1 s0) fun u3 s1 =>
    bd2 (rec 0 [u3, a2] s1) fun u6 s4 =>
    some (u6, s4)
set_option maxHeartbeats 4000000 in
set_option maxRecDepth 100000 in
theorem ctX9_leavesIn_s {l : Launch} {E : EE} {d : Nat} {rec : Nat → List Int32 → St → Option (Int32 × St)} {a1 : Int32} {a2 : Int32} {s0 : St} {r9 : Int32} {t9 : St} (hd : 1 ≤ d) (hrec0 : ∀ (a1 : Int32) (a2 : Int32) (s : St) (r : Int32) (t : St), rec 0 [a1, a2] s = some (r, t) → Ct l E layM yX9_leavesIn cX9_leavesIn 3 (some .int) d [.ref (ea E 0), .int a1, .int a2] s (some (.int r)) t) (h : fX9_leavesIn rec a1 a2 s0 = some (r9, t9)) : Ct l E layM yX9_leavesIn cX9_leavesIn 3 (some .int) (d + 1) [.ref (ea E 0), .int a1, .int a2] s0 (some (.int r9)) t9 := by
  refine Ct.of (by decide) (Nat.le_of_ble_eq_true rfl) ?_
  intro p e ms m below meth c X hlk hr
  have X : Cx E layM p ms m [.ref (ea E 0), .int a1, .int a2].toArray c cX9_leavesIn RX9 3 := X
  refine r_sub (L' := [(0, .ref (ea E 0)), (1, .int a1), (2, .int a2)]) [0, 1, 2] rfl ?_
  unfold fX9_leavesIn at h
  refine r_iload_n X dX9_leavesIn_0 1 rfl rfl ?_
  refine r_if_ne X 17 dX9_leavesIn_1 (by decide) (fun c15 => ?_) (fun c15 => ?_)
  · rw [if_neg c15] at h
    refine r_iload_n X dX9_leavesIn_17 1 rfl rfl ?_
    refine r_iconst X dX9_leavesIn_18 (v := 1) (by decide) ?_
    refine r_icmp_ne X 37 dX9_leavesIn_19 (by decide) (fun c12 => ?_) (fun c12 => ?_)
    · rw [if_neg c12] at h
      refine r_aload_n X dX9_leavesIn_37 0 rfl rfl ?_
      refine r_iload_n X dX9_leavesIn_38 1 rfl rfl ?_
      obtain ⟨u3, s1, e2, h⟩ := bd2_ok h
      refine kX9_above X (ctX9_above e2) dX9_leavesIn_39 g_1010 (by omega) (Nat.le_of_ble_eq_true rfl) ?_
      refine r_iload_n X dX9_leavesIn_42 2 rfl rfl ?_
      obtain ⟨u6, s4, e5, h⟩ := bd2_ok h
      refine kX9_leavesIn X (hrec0 _ _ _ _ _ e5) dX9_leavesIn_43 lM_0 g_1165 (by omega) (Nat.le_of_ble_eq_true rfl) ?_
      exact s_iret X hlk hr dX9_leavesIn_46 h
    · rw [if_pos c12] at h
      refine r_aload_n X dX9_leavesIn_22 0 rfl rfl ?_
      refine r_bipush X dX9_leavesIn_23 (v := 20) (by decide) ?_
      obtain ⟨s7, e8, h⟩ := bd1_ok h
      refine kX9_ran X (ctX9_ran e8) dX9_leavesIn_25 lM_0 g_1169 (by omega) (Nat.le_of_ble_eq_true rfl) ?_
      refine r_aload_n X dX9_leavesIn_28 0 rfl rfl ?_
      refine r_iconst X dX9_leavesIn_29 (v := 0) (by decide) ?_
      refine r_iload_n X dX9_leavesIn_30 2 rfl rfl ?_
      obtain ⟨u11, s9, e10, h⟩ := bd2_ok h
      refine kX9_leavesIn X (hrec0 _ _ _ _ _ e10) dX9_leavesIn_31 lM_0 g_1165 (by omega) (Nat.le_of_ble_eq_true rfl) ?_
      refine r_iconst X dX9_leavesIn_34 (v := 3) (by decide) ?_
      refine r_imul X dX9_leavesIn_35 ?_
      exact s_iret X hlk hr dX9_leavesIn_36 h
  · rw [if_pos c15] at h
    refine r_aload_n X dX9_leavesIn_4 0 rfl rfl ?_
    refine r_bipush X dX9_leavesIn_5 (v := 10) (by decide) ?_
    obtain ⟨s13, e14, h⟩ := bd1_ok h
    refine kX9_ran X (ctX9_ran e14) dX9_leavesIn_7 lM_0 g_1169 (by omega) (Nat.le_of_ble_eq_true rfl) ?_
    refine r_iload_n X dX9_leavesIn_10 2 rfl rfl ?_
    refine r_aload_n X dX9_leavesIn_11 0 rfl rfl ?_
    refine r_geti X dX9_leavesIn_12 i_X9 v_X9 lM_0 26 rfl (Nat.le_of_ble_eq_true rfl) g_800 ?_
    refine r_iadd X dX9_leavesIn_15 ?_
    exact s_iret X hlk hr dX9_leavesIn_16 h
def grp_X9_leavesIn : Nat → Nat → List Int32 → St → Option (Int32 × St)
  | 0, _, _, _ => none
  | n + 1, 0, [a1, a2], s => fX9_leavesIn (grp_X9_leavesIn n) a1 a2 s
  | _ + 1, _, _, _ => none
set_option maxHeartbeats 4000000 in
set_option maxRecDepth 100000 in
theorem grp_X9_leavesIn_ok (l : Launch) (E : EE) : ∀ n : Nat, (∀ (a1 : Int32) (a2 : Int32) (s : St) (r : Int32) (t : St), grp_X9_leavesIn n 0 [a1, a2] s = some (r, t) → Ct l E layM yX9_leavesIn cX9_leavesIn 3 (some .int) (n + 1) [.ref (ea E 0), .int a1, .int a2] s (some (.int r)) t) := by
  intro n
  induction n with
  | zero =>
    exact fun _ _ _ _ _ h => by cases h
  | succ n ih =>
    have h0 := ih
    intro z0 z1 s r t h
    rw [show n + 1 + 1 = n + 1 + 1 by omega]
    exact ctX9_leavesIn_s (Nat.le_add_left _ _) h0 h
theorem ctX9_leavesIn {l : Launch} {E : EE} {a1 : Int32} {a2 : Int32} {s t : St} {r : Int32} (h : grp_X9_leavesIn RF 0 [a1, a2] s = some (r, t)) : Ct l E layM yX9_leavesIn cX9_leavesIn 3 (some .int) 101 [.ref (ea E 0), .int a1, .int a2] s (some (.int r)) t := (grp_X9_leavesIn_ok l E RF) _ _ _ _ _ h
/-! X9_grievesIn -/
theorem nX9_grievesIn : yX9_grievesIn.cls ≠ "java/lang/invoke/MethodHandle" ∧ yX9_grievesIn.cls ≠ "java/lang/invoke/VarHandle" ∧ (parseMethodDescriptor yX9_grievesIn.desc).map (fun d => d.parameters.length) = some 2 := by decide +kernel
theorem kX9_grievesIn {l : Launch} {E : EE} {p : Program} {e : Env} {ms : State} {m : MethodId} {args : Array Value} {below : List Frame} {meth : Method} {c : Code} {cc : ByteArray} {own : String} {nL pc idx d D : Nat} {Q : State → Prop} {L : List (Nat × Value)} {rest : List Value} {σ τ : St} {a1 : Int32} {a2 : Int32} {r : Int32} {fl : List (Option Nat)} (X : Cx E layM p ms m args c cc own nL) (hM : Ct l E layM yX9_grievesIn cX9_grievesIn 3 (some .int) d [.ref (ea E 0), .int a1, .int a2] σ (some (.int r)) τ) (hd : decode cc pc = .ok (.invokevirtual idx, 3)) (hlay : layM[0]? = some (.inl (8, fl))) (w1 : Cond.methodLink own idx yX9_grievesIn ∈ gw) (hR : d + 1 ≤ D) (hrs : (rest.map fun v => v.category).sum ≤ 8) (k : AW E layM p l e (rmD D) ms m args below meth c nL 0 0 Q (pc + 3) L (.int r :: rest) τ) : AW E layM p l e (rmD D) ms m args below meth c nL 0 0 Q pc L (.int a2 :: .int a1 :: .ref (ea E 0) :: rest) σ :=
  s_callV X [.int a1, .int a2] rest hM hd v_X9 hlay w1 g_1179 g_63 g_77 g_1180 nX9_grievesIn rfl rfl hrs (Nat.le_of_ble_eq_true rfl) hR k
def fX9_grievesIn (rec : Nat → List Int32 → St → Option (Int32 × St)) (a1 : Int32) (a2 : Int32) (s0 : St) : Option (Int32 × St) :=
    if a1 = 0 then
    bd1 (fX9_ran 12 s0) fun s19 =>
    some (a2 - (s19 0 27), s19)
    else
    if a1 = 3 then
    bd1 (fX9_ran 40 s0) fun s13 =>
    bd2 (rec 0 [0, a2] s13) fun u17 s15 =>
    some (-u17, s15)
    else
    if a1 = 6 then
    bd1 (fX9_ran 70 s0) fun s7 =>
    bd2 (rec 0 [3, a2] s7) fun u11 s9 =>
    some (u11 ^^^ (s9 0 26), s9)
    else
    bd2 (fX9_above a1 s0) fun u3 s1 =>
    bd2 (rec 0 [u3, a2] s1) fun u6 s4 =>
    some (u6, s4)
set_option maxHeartbeats 4000000 in
set_option maxRecDepth 100000 in
theorem ctX9_grievesIn_s {l : Launch} {E : EE} {d : Nat} {rec : Nat → List Int32 → St → Option (Int32 × St)} {a1 : Int32} {a2 : Int32} {s0 : St} {r9 : Int32} {t9 : St} (hd : 1 ≤ d) (hrec0 : ∀ (a1 : Int32) (a2 : Int32) (s : St) (r : Int32) (t : St), rec 0 [a1, a2] s = some (r, t) → Ct l E layM yX9_grievesIn cX9_grievesIn 3 (some .int) d [.ref (ea E 0), .int a1, .int a2] s (some (.int r)) t) (h : fX9_grievesIn rec a1 a2 s0 = some (r9, t9)) : Ct l E layM yX9_grievesIn cX9_grievesIn 3 (some .int) (d + 1) [.ref (ea E 0), .int a1, .int a2] s0 (some (.int r9)) t9 := by
  refine Ct.of (by decide) (Nat.le_of_ble_eq_true rfl) ?_
  intro p e ms m below meth c X hlk hr
  have X : Cx E layM p ms m [.ref (ea E 0), .int a1, .int a2].toArray c cX9_grievesIn RX9 3 := X
  refine r_sub (L' := [(0, .ref (ea E 0)), (1, .int a1), (2, .int a2)]) [0, 1, 2] rfl ?_
  unfold fX9_grievesIn at h
  refine r_iload_n X dX9_grievesIn_0 1 rfl rfl ?_
  refine r_if_ne X 17 dX9_grievesIn_1 (by decide) (fun c21 => ?_) (fun c21 => ?_)
  · rw [if_neg c21] at h
    refine r_iload_n X dX9_grievesIn_17 1 rfl rfl ?_
    refine r_iconst X dX9_grievesIn_18 (v := 3) (by decide) ?_
    refine r_icmp_ne X 36 dX9_grievesIn_19 (by decide) (fun c18 => ?_) (fun c18 => ?_)
    · rw [if_neg c18] at h
      refine r_iload_n X dX9_grievesIn_36 1 rfl rfl ?_
      refine r_bipush X dX9_grievesIn_37 (v := 6) (by decide) ?_
      refine r_icmp_ne X 60 dX9_grievesIn_39 (by decide) (fun c12 => ?_) (fun c12 => ?_)
      · rw [if_neg c12] at h
        refine r_aload_n X dX9_grievesIn_60 0 rfl rfl ?_
        refine r_iload_n X dX9_grievesIn_61 1 rfl rfl ?_
        obtain ⟨u3, s1, e2, h⟩ := bd2_ok h
        refine kX9_above X (ctX9_above e2) dX9_grievesIn_62 g_1010 (by omega) (Nat.le_of_ble_eq_true rfl) ?_
        refine r_iload_n X dX9_grievesIn_65 2 rfl rfl ?_
        obtain ⟨u6, s4, e5, h⟩ := bd2_ok h
        refine kX9_grievesIn X (hrec0 _ _ _ _ _ e5) dX9_grievesIn_66 lM_0 g_1177 (by omega) (Nat.le_of_ble_eq_true rfl) ?_
        exact s_iret X hlk hr dX9_grievesIn_69 h
      · rw [if_pos c12] at h
        refine r_aload_n X dX9_grievesIn_42 0 rfl rfl ?_
        refine r_bipush X dX9_grievesIn_43 (v := 70) (by decide) ?_
        obtain ⟨s7, e8, h⟩ := bd1_ok h
        refine kX9_ran X (ctX9_ran e8) dX9_grievesIn_45 lM_0 g_1169 (by omega) (Nat.le_of_ble_eq_true rfl) ?_
        refine r_aload_n X dX9_grievesIn_48 0 rfl rfl ?_
        refine r_iconst X dX9_grievesIn_49 (v := 3) (by decide) ?_
        refine r_iload_n X dX9_grievesIn_50 2 rfl rfl ?_
        obtain ⟨u11, s9, e10, h⟩ := bd2_ok h
        refine kX9_grievesIn X (hrec0 _ _ _ _ _ e10) dX9_grievesIn_51 lM_0 g_1177 (by omega) (Nat.le_of_ble_eq_true rfl) ?_
        refine r_aload_n X dX9_grievesIn_54 0 rfl rfl ?_
        refine r_geti X dX9_grievesIn_55 i_X9 v_X9 lM_0 26 rfl (Nat.le_of_ble_eq_true rfl) g_800 ?_
        refine r_ixor X dX9_grievesIn_58 ?_
        exact s_iret X hlk hr dX9_grievesIn_59 h
    · rw [if_pos c18] at h
      refine r_aload_n X dX9_grievesIn_22 0 rfl rfl ?_
      refine r_bipush X dX9_grievesIn_23 (v := 40) (by decide) ?_
      obtain ⟨s13, e14, h⟩ := bd1_ok h
      refine kX9_ran X (ctX9_ran e14) dX9_grievesIn_25 lM_0 g_1169 (by omega) (Nat.le_of_ble_eq_true rfl) ?_
      refine r_aload_n X dX9_grievesIn_28 0 rfl rfl ?_
      refine r_iconst X dX9_grievesIn_29 (v := 0) (by decide) ?_
      refine r_iload_n X dX9_grievesIn_30 2 rfl rfl ?_
      obtain ⟨u17, s15, e16, h⟩ := bd2_ok h
      refine kX9_grievesIn X (hrec0 _ _ _ _ _ e16) dX9_grievesIn_31 lM_0 g_1177 (by omega) (Nat.le_of_ble_eq_true rfl) ?_
      refine r_ineg X dX9_grievesIn_34 ?_
      exact s_iret X hlk hr dX9_grievesIn_35 h
  · rw [if_pos c21] at h
    refine r_aload_n X dX9_grievesIn_4 0 rfl rfl ?_
    refine r_bipush X dX9_grievesIn_5 (v := 12) (by decide) ?_
    obtain ⟨s19, e20, h⟩ := bd1_ok h
    refine kX9_ran X (ctX9_ran e20) dX9_grievesIn_7 lM_0 g_1169 (by omega) (Nat.le_of_ble_eq_true rfl) ?_
    refine r_iload_n X dX9_grievesIn_10 2 rfl rfl ?_
    refine r_aload_n X dX9_grievesIn_11 0 rfl rfl ?_
    refine r_geti X dX9_grievesIn_12 i_X9 v_X9 lM_0 27 rfl (Nat.le_of_ble_eq_true rfl) g_801 ?_
    refine r_isub X dX9_grievesIn_15 ?_
    exact s_iret X hlk hr dX9_grievesIn_16 h
def grp_X9_grievesIn : Nat → Nat → List Int32 → St → Option (Int32 × St)
  | 0, _, _, _ => none
  | n + 1, 0, [a1, a2], s => fX9_grievesIn (grp_X9_grievesIn n) a1 a2 s
  | _ + 1, _, _, _ => none
set_option maxHeartbeats 4000000 in
set_option maxRecDepth 100000 in
theorem grp_X9_grievesIn_ok (l : Launch) (E : EE) : ∀ n : Nat, (∀ (a1 : Int32) (a2 : Int32) (s : St) (r : Int32) (t : St), grp_X9_grievesIn n 0 [a1, a2] s = some (r, t) → Ct l E layM yX9_grievesIn cX9_grievesIn 3 (some .int) (n + 1) [.ref (ea E 0), .int a1, .int a2] s (some (.int r)) t) := by
  intro n
  induction n with
  | zero =>
    exact fun _ _ _ _ _ h => by cases h
  | succ n ih =>
    have h0 := ih
    intro z0 z1 s r t h
    rw [show n + 1 + 1 = n + 1 + 1 by omega]
    exact ctX9_grievesIn_s (Nat.le_add_left _ _) h0 h
theorem ctX9_grievesIn {l : Launch} {E : EE} {a1 : Int32} {a2 : Int32} {s t : St} {r : Int32} (h : grp_X9_grievesIn RF 0 [a1, a2] s = some (r, t)) : Ct l E layM yX9_grievesIn cX9_grievesIn 3 (some .int) 101 [.ref (ea E 0), .int a1, .int a2] s (some (.int r)) t := (grp_X9_grievesIn_ok l E RF) _ _ _ _ _ h
