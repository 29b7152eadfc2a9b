/-! X0_whoLeavesSweet -/
theorem nX0_whoLeavesSweet : yX0_whoLeavesSweet.cls ≠ "java/lang/invoke/MethodHandle" ∧ yX0_whoLeavesSweet.cls ≠ "java/lang/invoke/VarHandle" ∧ (parseMethodDescriptor yX0_whoLeavesSweet.desc).map (fun d => d.parameters.length) = some 1 := by decide +kernel
theorem kX0_whoLeavesSweet {l : Launch} {E : EE} {p : Program} {e : Env} {ms : State} {m : MethodId} {args : Array Value} {below : List Frame} {meth : Method} {c : Code} {cc : ByteArray} {own : String} {nL pc idx d D : Nat} {Q : State → Prop} {L : List (Nat × Value)} {rest : List Value} {σ τ : St} {b0 : Nat} {r : Int32} {fl : List (Option Nat)} (X : Cx E layC p ms m args c cc own nL) (hM : Ct l E layC yX0_whoLeavesSweet cX0_whoLeavesSweet 3 (some .int) d [.ref (ea E b0), .ref (ea E 49)] σ (some (.int r)) τ) (hd : decode cc pc = .ok (.invokevirtual idx, 3)) (hlay : layC[b0]? = some (.inl (0, fl))) (w1 : Cond.methodLink own idx yX0_whoLeavesSweet ∈ gw) (hR : d + 1 ≤ D) (hrs : (rest.map fun v => v.category).sum ≤ 8) (k : AW E layC p l e (rmD D) ms m args below meth c nL 0 0 Q (pc + 3) L (.int r :: rest) τ) : AW E layC p l e (rmD D) ms m args below meth c nL 0 0 Q pc L (.ref (ea E 49) :: .ref (ea E b0) :: rest) σ :=
  s_callV X [.ref (ea E 49)] rest hM hd v_X0 hlay w1 g_577 g_578 g_69 g_579 nX0_whoLeavesSweet rfl rfl hrs (Nat.le_of_ble_eq_true rfl) hR k
def fX0_whoLeavesSweet_2 (b0 : Nat) : Nat → Int32 → St → Option ((Int32 × St) ⊕ (St))
  | 0, _, _ => none
  | n + 1, a2, s0 =>
    if (s0 b0 12) ≤ a2 then
    some (.inr s0)
    else
    bd2 (fX0_leftOf b0 5 a2 s0) fun u3 s1 =>
    if u3 = 4 then
    some (.inl (a2, s1))
    else
    fX0_whoLeavesSweet_2 b0 n (a2 + 1) s1
def fX0_whoLeavesSweet (b0 : Nat) (s0 : St) : Option (Int32 × St) :=
    bS1 (fX0_whoLeavesSweet_2 b0 FU 0 s0) (fun u7 => some u7) fun s6 =>
    some ((-1), s6)
set_option maxHeartbeats 4000000 in
set_option maxRecDepth 100000 in
theorem LX0_whoLeavesSweet_2 {l : Launch} {E : EE} {p : Program} {e : Env} {ms : State} {m : MethodId} {args : Array Value} {below : List Frame} {meth : Method} {c : Code} {b0 : Nat} {r9 : Int32} {t9 : St} (X : Cx E layC p ms m args c cX0_whoLeavesSweet RX0 3) (hb0 : isH b0) (hlk : meth.locks = false) (hr : meth.sig.returnType = (some .int)) : ∀ (n : Nat) (a2 : Int32) (s0 : St) (o : (Int32 × St) ⊕ (St)), fX0_whoLeavesSweet_2 b0 n a2 s0 = some o → (∀ r, o = .inl r → r = (r9, t9)) → (∀  (t8 : St), o = .inr t8 → AW E layC p l e (rmD 4) ms m args below meth c 3 0 0 (MQc E layC below args ms (some (.int r9)) t9) 29 [] [] t8) → AW E layC p l e (rmD 4) ms m args below meth c 3 0 0 (MQc E layC below args ms (some (.int r9)) t9) 2 [(0, .ref (ea E b0)), (1, .ref (ea E 49)), (2, .int a2)] [] s0 := by
  intro n
  induction n with
  | zero =>
    intro a2 s0 o h hR hE
    cases h
  | succ n ih =>
    intro a2 s0 o h hR hE
    rw [fX0_whoLeavesSweet_2] at h
    refine r_iload_n X dX0_whoLeavesSweet_2 2 rfl rfl ?_
    refine r_aload_n X dX0_whoLeavesSweet_3 0 rfl rfl ?_
    refine r_geti X dX0_whoLeavesSweet_4 i_X0 v_X0 (lH0 hb0) 12 rfl (Nat.le_of_ble_eq_true rfl) g_123 ?_
    refine r_icmp_ge X 29 dX0_whoLeavesSweet_7 (by decide) (fun c5 => ?_) (fun c5 => ?_)
    · rw [if_pos c5] at h
      refine r_sub (L' := []) [] rfl ?_
      cases h
      exact hE _ rfl
    · rw [if_neg c5] at h
      refine r_aload_n X dX0_whoLeavesSweet_10 0 rfl rfl ?_
      refine r_aload_n X dX0_whoLeavesSweet_11 1 rfl rfl ?_
      refine r_iconst X dX0_whoLeavesSweet_12 (v := 5) (by decide) ?_
      refine r_iload_n X dX0_whoLeavesSweet_13 2 rfl rfl ?_
      obtain ⟨u3, s1, e2, h⟩ := bd2_ok h
      refine kX0_leftOf X (ctX0_leftOf hb0 e2) dX0_whoLeavesSweet_14 (lH0 hb0) g_530 (Nat.le_of_ble_eq_true rfl) (Nat.le_of_ble_eq_true rfl) ?_
      refine r_iconst X dX0_whoLeavesSweet_17 (v := 4) (by decide) ?_
      refine r_icmp_ne X 23 dX0_whoLeavesSweet_18 (by decide) (fun c4 => ?_) (fun c4 => ?_)
      · rw [if_neg c4] at h
        refine r_iinc (L' := [(0, .ref (ea E b0)), (1, .ref (ea E 49)), (2, .int (a2 + 1))]) (v := a2 + 1) X dX0_whoLeavesSweet_23 2 rfl rfl [1, 2, 0] rfl (Nat.le_of_ble_eq_true rfl) ?_
        refine r_goto X 2 dX0_whoLeavesSweet_26 (by decide) ?_
        exact ih _ _ _ h hR hE
      · rw [if_pos c4] at h
        refine r_iload_n X dX0_whoLeavesSweet_21 2 rfl rfl ?_
        exact s_iret X hlk hr dX0_whoLeavesSweet_22 (inl_ok h hR)
set_option maxHeartbeats 4000000 in
set_option maxRecDepth 100000 in
theorem LX0_whoLeavesSweet_2_x {l : Launch} {E : EE} {p : Program} {e : Env} {ms : State} {m : MethodId} {args : Array Value} {below : List Frame} {meth : Method} {c : Code} {b0 : Nat} {r9 : Int32} {t9 : St} (X : Cx E layC p ms m args c cX0_whoLeavesSweet RX0 3) (hb0 : isH b0) (hlk : meth.locks = false) (hr : meth.sig.returnType = (some .int)) (n : Nat) (a2 : Int32) (s0 : St)  (t8 : St) (h : fX0_whoLeavesSweet_2 b0 n a2 s0 = some (.inr t8)) (hE : AW E layC p l e (rmD 4) ms m args below meth c 3 0 0 (MQc E layC below args ms (some (.int r9)) t9) 29 [] [] t8) : AW E layC p l e (rmD 4) ms m args below meth c 3 0 0 (MQc E layC below args ms (some (.int r9)) t9) 2 [(0, .ref (ea E b0)), (1, .ref (ea E 49)), (2, .int a2)] [] s0 :=
  LX0_whoLeavesSweet_2 X hb0 hlk hr n a2 s0 _ h (fun r he => by cases he) (fun _ he => by cases he; exact hE)
set_option maxHeartbeats 4000000 in
set_option maxRecDepth 100000 in
theorem LX0_whoLeavesSweet_2_r {l : Launch} {E : EE} {p : Program} {e : Env} {ms : State} {m : MethodId} {args : Array Value} {below : List Frame} {meth : Method} {c : Code} {b0 : Nat} {r9 : Int32} {t9 : St} (X : Cx E layC p ms m args c cX0_whoLeavesSweet RX0 3) (hb0 : isH b0) (hlk : meth.locks = false) (hr : meth.sig.returnType = (some .int)) (n : Nat) (a2 : Int32) (s0 : St) {r8 : Int32 × St} (h : fX0_whoLeavesSweet_2 b0 n a2 s0 = some (.inl r8)) (hR : ∀ r, (.inl r8 : (Int32 × St) ⊕ (St)) = .inl r → r = (r9, t9)) : AW E layC p l e (rmD 4) ms m args below meth c 3 0 0 (MQc E layC below args ms (some (.int r9)) t9) 2 [(0, .ref (ea E b0)), (1, .ref (ea E 49)), (2, .int a2)] [] s0 :=
  LX0_whoLeavesSweet_2 X hb0 hlk hr n a2 s0 _ h hR (fun _ he => by cases he)
set_option maxHeartbeats 4000000 in
set_option maxRecDepth 100000 in
theorem ctX0_whoLeavesSweet {l : Launch} {E : EE} {b0 : Nat} {s0 : St} {r9 : Int32} {t9 : St} (hb0 : isH b0) (h : fX0_whoLeavesSweet b0 s0 = some (r9, t9)) : Ct l E layC yX0_whoLeavesSweet cX0_whoLeavesSweet 3 (some .int) 4 [.ref (ea E b0), .ref (ea E 49)] s0 (some (.int r9)) t9 := by
  refine Ct.of (by decide) (Nat.le_of_ble_eq_true rfl) ?_
  intro p e ms m below meth c X hlk hr
  have X : Cx E layC p ms m [.ref (ea E b0), .ref (ea E 49)].toArray c cX0_whoLeavesSweet RX0 3 := X
  refine r_sub (L' := [(0, .ref (ea E b0)), (1, .ref (ea E 49))]) [0, 1] rfl ?_
  unfold fX0_whoLeavesSweet at h
  refine r_iconst X dX0_whoLeavesSweet_0 (v := 0) (by decide) ?_
  refine r_istore_n (L' := [(0, .ref (ea E b0)), (1, .ref (ea E 49)), (2, .int 0)]) X dX0_whoLeavesSweet_1 [1, 2, 0] rfl rfl (Nat.le_of_ble_eq_true rfl) ?_
  obtain ⟨o8, eo, ho⟩ := bS1_ok h
  rcases ho with ⟨u7, rfl, h⟩ | ⟨s6, rfl, h⟩
  · exact LX0_whoLeavesSweet_2_r X hb0 hlk hr FU _ _ eo (fun r hr1 => by cases hr1; exact Option.some.inj h)
  · refine LX0_whoLeavesSweet_2_x X hb0 hlk hr FU _ _ _ eo ?_
    refine r_iconst X dX0_whoLeavesSweet_29 (v := (-1)) (by decide) ?_
    exact s_iret X hlk hr dX0_whoLeavesSweet_30 h
/-! X0_dine -/
theorem nX0_dine : yX0_dine.cls ≠ "java/lang/invoke/MethodHandle" ∧ yX0_dine.cls ≠ "java/lang/invoke/VarHandle" ∧ (parseMethodDescriptor yX0_dine.desc).map (fun d => d.parameters.length) = some 1 := by decide +kernel
theorem kX0_dine {l : Launch} {E : EE} {p : Program} {e : Env} {ms : State} {m : MethodId} {args : Array Value} {below : List Frame} {meth : Method} {c : Code} {cc : ByteArray} {own : String} {nL pc idx d D : Nat} {Q : State → Prop} {L : List (Nat × Value)} {rest : List Value} {σ τ : St} {b0 : Nat}  {fl : List (Option Nat)} (X : Cx E layC p ms m args c cc own nL) (hM : Ct l E layC yX0_dine cX0_dine 8 none d [.ref (ea E b0), .ref (ea E 49)] σ none τ) (hd : decode cc pc = .ok (.invokevirtual idx, 3)) (hlay : layC[b0]? = some (.inl (0, fl))) (w1 : Cond.methodLink own idx yX0_dine ∈ gw) (hR : d + 1 ≤ D) (hrs : (rest.map fun v => v.category).sum ≤ 8) (k : AW E layC p l e (rmD D) ms m args below meth c nL 0 0 Q (pc + 3) L rest τ) : AW E layC p l e (rmD D) ms m args below meth c nL 0 0 Q pc L (.ref (ea E 49) :: .ref (ea E b0) :: rest) σ :=
  s_callV X [.ref (ea E 49)] rest hM hd v_X0 hlay w1 g_528 g_10 g_69 g_529 nX0_dine rfl rfl hrs (Nat.le_of_ble_eq_true rfl) hR k
def fX0_dine_16 (b0 : Nat) (a3 : Int32) : Nat → Int32 → Int32 → St → Option (Int32 × St)
  | 0, _, _, _ => none
  | n + 1, a2, a4, s0 =>
    if (s0 b0 12) ≤ a4 then
    some (a2, s0)
    else
    bd2 (fX0_leftOf b0 a3 a4 s0) fun u3 s1 =>
    jn (fun (s4 : St) =>
    bd1 (ptf s4 b0 10 (imn 99999 (((s4 b0 10) + u3) - (imn u3 a2)))) fun s5 =>
    bd1 (ast s5 (b0 + 9) 8 a4 u3) fun s7 =>
    fX0_dine_16 b0 a3 n (a2 - (imn u3 a2)) (a4 + 1) s7) fun j87 =>
    if (imn u3 a2) ≤ 0 then
    j87 s1
    else
    bd1 (ald s1 (b0 + 8) 8 a4) fun v9 =>
    bd2 (fX0_tasteOf b0 a3 a4 (imn u3 a2) s1) fun u12 s10 =>
    bd1 (ast s10 (b0 + 8) 8 a4 (imn 99 (v9 + u12))) fun s14 =>
    j87 s14
def fX0_dine_7 (b0 : Nat) : Nat → Int32 → Int32 → St → Option (St)
  | 0, _, _, _ => none
  | n + 1, a2, a3, s0 =>
    if 6 ≤ a3 then
    some s0
    else
    bd2 (fX0_dine_16 b0 a3 FU a2 0 s0) fun v18 s17 =>
    fX0_dine_7 b0 n v18 (a3 + 1) s17
def fX0_dine (b0 : Nat) (s0 : St) : Option (St) :=
    bd1 (fX0_dine_7 b0 FU (s0 b0 9) 0 s0) fun s20 =>
    some s20
set_option maxHeartbeats 4000000 in
set_option maxRecDepth 100000 in
theorem LX0_dine_16 {l : Launch} {E : EE} {p : Program} {e : Env} {ms : State} {m : MethodId} {args : Array Value} {below : List Frame} {meth : Method} {c : Code} {b0 : Nat} {a3 : Int32} {Q : State → Prop} (X : Cx E layC p ms m args c cX0_dine RX0 8) (hb0 : isH b0) : ∀ (n : Nat) (a2 : Int32) (a4 : Int32) (s0 : St) (q2 : Int32) (t8 : St), fX0_dine_16 b0 a3 n a2 a4 s0 = some (q2, t8) → AW E layC p l e (rmD 4) ms m args below meth c 8 0 0 Q 121 [(0, .ref (ea E b0)), (1, .ref (ea E 49)), (2, .int q2), (3, .int a3)] [] t8 → AW E layC p l e (rmD 4) ms m args below meth c 8 0 0 Q 16 [(0, .ref (ea E b0)), (1, .ref (ea E 49)), (2, .int a2), (3, .int a3), (4, .int a4)] [] s0 := by
  intro n
  induction n with
  | zero =>
    intro a2 a4 s0 q2 t8 h hE
    cases h
  | succ n ih =>
    intro a2 a4 s0 q2 t8 h hE
    rw [fX0_dine_16] at h
    refine r_iload X dX0_dine_16 4 rfl ?_
    refine r_aload_n X dX0_dine_18 0 rfl rfl ?_
    refine r_geti X dX0_dine_19 i_X0 v_X0 (lH0 hb0) 12 rfl (Nat.le_of_ble_eq_true rfl) g_123 ?_
    refine r_icmp_ge X 121 dX0_dine_22 (by decide) (fun c16 => ?_) (fun c16 => ?_)
    · rw [if_pos c16] at h
      refine r_sub (L' := [(0, .ref (ea E b0)), (1, .ref (ea E 49)), (2, .int a2), (3, .int a3)]) [0, 1, 2, 3] rfl ?_
      cases h
      exact hE
    · rw [if_neg c16] at h
      refine r_aload_n X dX0_dine_25 0 rfl rfl ?_
      refine r_aload_n X dX0_dine_26 1 rfl rfl ?_
      refine r_iload_n X dX0_dine_27 3 rfl rfl ?_
      refine r_iload X dX0_dine_28 4 rfl ?_
      obtain ⟨u3, s1, e2, h⟩ := bd2_ok h
      refine kX0_leftOf X (ctX0_leftOf hb0 e2) dX0_dine_30 (lH0 hb0) g_530 (Nat.le_of_ble_eq_true rfl) (Nat.le_of_ble_eq_true rfl) ?_
      refine r_istore (L' := [(0, .ref (ea E b0)), (1, .ref (ea E 49)), (2, .int a2), (3, .int a3), (4, .int a4), (5, .int u3)]) X dX0_dine_33 [1, 2, 3, 4, 5, 0] rfl (Nat.le_of_ble_eq_true rfl) ?_
      refine r_iload X dX0_dine_35 5 rfl ?_
      refine r_iload_n X dX0_dine_37 2 rfl rfl ?_
      refine s_mmin X dX0_dine_38 g_531 g_419 g_71 g_420 (Nat.le_of_ble_eq_true rfl) (Nat.le_of_ble_eq_true rfl) ?_
      refine r_istore (L' := [(0, .ref (ea E b0)), (1, .ref (ea E 49)), (2, .int a2), (3, .int a3), (4, .int a4), (5, .int u3), (6, .int (imn u3 a2))]) X dX0_dine_41 [1, 2, 3, 4, 5, 6, 0] rfl (Nat.le_of_ble_eq_true rfl) ?_
      refine r_iload_n X dX0_dine_43 2 rfl rfl ?_
      refine r_iload X dX0_dine_44 6 rfl ?_
      refine r_isub X dX0_dine_46 ?_
      refine r_istore_n (L' := [(0, .ref (ea E b0)), (1, .ref (ea E 49)), (2, .int (a2 - (imn u3 a2))), (3, .int a3), (4, .int a4), (5, .int u3), (6, .int (imn u3 a2))]) X dX0_dine_47 [1, 2, 0, 3, 4, 5, 6] rfl rfl (Nat.le_of_ble_eq_true rfl) ?_
      refine r_iload X dX0_dine_48 6 rfl ?_
      obtain ⟨j87, ej87, h⟩ := jn1_ok h
      have hj87 : ∀ (s4 : St), j87 s4 = some (q2, t8) → AW E layC p l e (rmD 4) ms m args below meth c 8 0 0 Q 87 [(0, .ref (ea E b0)), (1, .ref (ea E 49)), (2, .int (a2 - (imn u3 a2))), (3, .int a3), (4, .int a4), (5, .int u3), (6, .int (imn u3 a2))] [] s4 := by
        intro s4 h
        rw [ej87] at h
        refine r_aload_n X dX0_dine_87 0 rfl rfl ?_
        refine r_ldc X dX0_dine_88 g_536 ?_
        refine r_aload_n X dX0_dine_90 0 rfl rfl ?_
        refine r_geti X dX0_dine_91 i_X0 v_X0 (lH0 hb0) 10 rfl (Nat.le_of_ble_eq_true rfl) g_119 ?_
        refine r_iload X dX0_dine_94 5 rfl ?_
        refine r_iadd X dX0_dine_96 ?_
        refine r_iload X dX0_dine_97 6 rfl ?_
        refine r_isub X dX0_dine_99 ?_
        refine s_mmin X dX0_dine_100 g_531 g_419 g_71 g_420 (Nat.le_of_ble_eq_true rfl) (Nat.le_of_ble_eq_true rfl) ?_
        obtain ⟨s5, es5, h⟩ := pt_ok h
        refine s_puti X dX0_dine_103 i_X0 tyX0_ok nmX0 v_X0 (lH0 hb0) 10 rfl (Nat.le_of_ble_eq_true rfl) g_119 rfl rfl ⟨rfl, rfl⟩ es5 ?_
        refine r_aload_n X dX0_dine_106 0 rfl rfl ?_
        refine r_getr X dX0_dine_107 i_X0 v_X0 (lH0 hb0) 8 rfl (Nat.le_of_ble_eq_true rfl) g_116 ?_
        refine r_iload X dX0_dine_110 4 rfl ?_
        refine r_iload X dX0_dine_112 5 rfl ?_
        obtain ⟨g6, s7, es7, h⟩ := as_ok h
        refine s_iast X dX0_dine_114 (lH9 hb0) g6 es7 ?_
        refine r_iinc (L' := [(0, .ref (ea E b0)), (1, .ref (ea E 49)), (2, .int (a2 - (imn u3 a2))), (3, .int a3), (4, .int (a4 + 1)), (5, .int u3), (6, .int (imn u3 a2))]) (v := a4 + 1) X dX0_dine_115 4 rfl rfl [1, 2, 3, 4, 0, 5, 6] rfl (Nat.le_of_ble_eq_true rfl) ?_
        refine r_goto X 16 dX0_dine_118 (by decide) ?_
        refine r_sub (L' := [(0, .ref (ea E b0)), (1, .ref (ea E 49)), (2, .int (a2 - (imn u3 a2))), (3, .int a3), (4, .int (a4 + 1))]) [0, 1, 2, 3, 4] rfl ?_
        exact ih _ _ _ _ _ h hE
      refine r_if_le X 87 dX0_dine_50 (by decide) (fun c15 => ?_) (fun c15 => ?_)
      · rw [if_pos c15] at h
        exact hj87 _ h
      · rw [if_neg c15] at h
        refine r_aload_n X dX0_dine_53 0 rfl rfl ?_
        refine r_getr X dX0_dine_54 i_X0 v_X0 (lH0 hb0) 7 rfl (Nat.le_of_ble_eq_true rfl) g_114 ?_
        refine r_iload X dX0_dine_57 4 rfl ?_
        obtain ⟨g8, v9, ev9, h⟩ := ld_ok h
        refine s_iald X dX0_dine_59 (lH8 hb0) g8 ev9 ?_
        refine r_aload_n X dX0_dine_60 0 rfl rfl ?_
        refine r_aload_n X dX0_dine_61 1 rfl rfl ?_
        refine r_iload_n X dX0_dine_62 3 rfl rfl ?_
        refine r_iload X dX0_dine_63 4 rfl ?_
        refine r_iload X dX0_dine_65 6 rfl ?_
        obtain ⟨u12, s10, e11, h⟩ := bd2_ok h
        refine kX0_tasteOf X (ctX0_tasteOf hb0 e11) dX0_dine_67 (lH0 hb0) g_532 (Nat.le_of_ble_eq_true rfl) (Nat.le_of_ble_eq_true rfl) ?_
        refine r_iadd X dX0_dine_70 ?_
        refine r_istore (L' := [(0, .ref (ea E b0)), (1, .ref (ea E 49)), (2, .int (a2 - (imn u3 a2))), (3, .int a3), (4, .int a4), (5, .int u3), (6, .int (imn u3 a2)), (7, .int (v9 + u12))]) X dX0_dine_71 [1, 2, 3, 4, 5, 6, 7, 0] rfl (Nat.le_of_ble_eq_true rfl) ?_
        refine r_aload_n X dX0_dine_73 0 rfl rfl ?_
        refine r_getr X dX0_dine_74 i_X0 v_X0 (lH0 hb0) 7 rfl (Nat.le_of_ble_eq_true rfl) g_114 ?_
        refine r_iload X dX0_dine_77 4 rfl ?_
        refine r_bipush X dX0_dine_79 (v := 99) (by decide) ?_
        refine r_iload X dX0_dine_81 7 rfl ?_
        refine s_mmin X dX0_dine_83 g_531 g_419 g_71 g_420 (Nat.le_of_ble_eq_true rfl) (Nat.le_of_ble_eq_true rfl) ?_
        obtain ⟨g13, s14, es14, h⟩ := as_ok h
        refine s_iast X dX0_dine_86 (lH8 hb0) g13 es14 ?_
        refine r_sub (L' := [(0, .ref (ea E b0)), (1, .ref (ea E 49)), (2, .int (a2 - (imn u3 a2))), (3, .int a3), (4, .int a4), (5, .int u3), (6, .int (imn u3 a2))]) [0, 1, 2, 3, 4, 5, 6] rfl ?_
        exact hj87 _ h
set_option maxHeartbeats 4000000 in
set_option maxRecDepth 100000 in
theorem LX0_dine_7 {l : Launch} {E : EE} {p : Program} {e : Env} {ms : State} {m : MethodId} {args : Array Value} {below : List Frame} {meth : Method} {c : Code} {b0 : Nat} {Q : State → Prop} (X : Cx E layC p ms m args c cX0_dine RX0 8) (hb0 : isH b0) : ∀ (n : Nat) (a2 : Int32) (a3 : Int32) (s0 : St)  (t8 : St), fX0_dine_7 b0 n a2 a3 s0 = some t8 → AW E layC p l e (rmD 4) ms m args below meth c 8 0 0 Q 127 [] [] t8 → AW E layC p l e (rmD 4) ms m args below meth c 8 0 0 Q 7 [(0, .ref (ea E b0)), (1, .ref (ea E 49)), (2, .int a2), (3, .int a3)] [] s0 := by
  intro n
  induction n with
  | zero =>
    intro a2 a3 s0 t8 h hE
    cases h
  | succ n ih =>
    intro a2 a3 s0 t8 h hE
    rw [fX0_dine_7] at h
    refine r_iload_n X dX0_dine_7 3 rfl rfl ?_
    refine r_bipush X dX0_dine_8 (v := 6) (by decide) ?_
    refine r_icmp_ge X 127 dX0_dine_10 (by decide) (fun c19 => ?_) (fun c19 => ?_)
    · rw [if_pos c19] at h
      refine r_sub (L' := []) [] rfl ?_
      cases h
      exact hE
    · rw [if_neg c19] at h
      refine r_iconst X dX0_dine_13 (v := 0) (by decide) ?_
      refine r_istore (L' := [(0, .ref (ea E b0)), (1, .ref (ea E 49)), (2, .int a2), (3, .int a3), (4, .int 0)]) X dX0_dine_14 [1, 2, 3, 4, 0] rfl (Nat.le_of_ble_eq_true rfl) ?_
      obtain ⟨v18, s17, eo, h⟩ := bd2_ok h
      refine LX0_dine_16 X hb0 FU _ _ _ _ _ eo ?_
      refine r_iinc (L' := [(0, .ref (ea E b0)), (1, .ref (ea E 49)), (2, .int v18), (3, .int (a3 + 1))]) (v := a3 + 1) X dX0_dine_121 3 rfl rfl [1, 2, 3, 0] rfl (Nat.le_of_ble_eq_true rfl) ?_
      refine r_goto X 7 dX0_dine_124 (by decide) ?_
      exact ih _ _ _ _ h hE
set_option maxHeartbeats 4000000 in
set_option maxRecDepth 100000 in
theorem ctX0_dine {l : Launch} {E : EE} {b0 : Nat} {s0 : St} {t9 : St} (hb0 : isH b0) (h : fX0_dine b0 s0 = some t9) : Ct l E layC yX0_dine cX0_dine 8 none 4 [.ref (ea E b0), .ref (ea E 49)] s0 none t9 := by
  refine Ct.of (by decide) (Nat.le_of_ble_eq_true rfl) ?_
  intro p e ms m below meth c X hlk hr
  have X : Cx E layC p ms m [.ref (ea E b0), .ref (ea E 49)].toArray c cX0_dine RX0 8 := X
  refine r_sub (L' := [(0, .ref (ea E b0)), (1, .ref (ea E 49))]) [0, 1] rfl ?_
  unfold fX0_dine at h
  refine r_aload_n X dX0_dine_0 0 rfl rfl ?_
  refine r_geti X dX0_dine_1 i_X0 v_X0 (lH0 hb0) 9 rfl (Nat.le_of_ble_eq_true rfl) g_117 ?_
  refine r_istore_n (L' := [(0, .ref (ea E b0)), (1, .ref (ea E 49)), (2, .int (s0 b0 9))]) X dX0_dine_4 [1, 2, 0] rfl rfl (Nat.le_of_ble_eq_true rfl) ?_
  refine r_iconst X dX0_dine_5 (v := 0) (by decide) ?_
  refine r_istore_n (L' := [(0, .ref (ea E b0)), (1, .ref (ea E 49)), (2, .int (s0 b0 9)), (3, .int 0)]) X dX0_dine_6 [1, 2, 3, 0] rfl rfl (Nat.le_of_ble_eq_true rfl) ?_
  obtain ⟨s20, eo, h⟩ := bd1_ok h
  refine LX0_dine_7 X hb0 FU _ _ _ _ eo ?_
  exact s_vret X hlk hr dX0_dine_127 h
/-! X0_grieve -/
theorem nX0_grieve : yX0_grieve.cls ≠ "java/lang/invoke/MethodHandle" ∧ yX0_grieve.cls ≠ "java/lang/invoke/VarHandle" ∧ (parseMethodDescriptor yX0_grieve.desc).map (fun d => d.parameters.length) = some 0 := by decide +kernel
theorem kX0_grieve {l : Launch} {E : EE} {p : Program} {e : Env} {ms : State} {m : MethodId} {args : Array Value} {below : List Frame} {meth : Method} {c : Code} {cc : ByteArray} {own : String} {nL pc idx d D : Nat} {Q : State → Prop} {L : List (Nat × Value)} {rest : List Value} {σ τ : St} {b0 : Nat}  {fl : List (Option Nat)} (X : Cx E layC p ms m args c cc own nL) (hM : Ct l E layC yX0_grieve cX0_grieve 3 none d [.ref (ea E b0)] σ none τ) (hd : decode cc pc = .ok (.invokevirtual idx, 3)) (hlay : layC[b0]? = some (.inl (0, fl))) (w1 : Cond.methodLink own idx yX0_grieve ∈ gw) (hR : d + 1 ≤ D) (hrs : (rest.map fun v => v.category).sum ≤ 8) (k : AW E layC p l e (rmD D) ms m args below meth c nL 0 0 Q (pc + 3) L rest τ) : AW E layC p l e (rmD D) ms m args below meth c nL 0 0 Q pc L (.ref (ea E b0) :: rest) σ :=
  s_callV X [] rest hM hd v_X0 hlay w1 g_539 g_11 g_69 g_540 nX0_grieve rfl rfl hrs (Nat.le_of_ble_eq_true rfl) hR k
def fX0_grieve_2 (b0 : Nat) : Nat → Int32 → St → Option (St)
  | 0, _, _ => none
  | n + 1, a1, s0 =>
    if (s0 b0 12) ≤ a1 then
    some s0
    else
    bd1 (ald s0 (b0 + 7) 8 a1) fun v2 =>
    jn (fun (s3 : St) =>
    fX0_grieve_2 b0 n (a1 + 1) s3) fun j84 =>
    jn (fun (_ : Unit) =>
    bd1 (ald s0 (b0 + 6) 8 a1) fun v5 =>
    bd2 (fX0_mendsOf b0 a1 s0) fun u8 s6 =>
    bd1 (ast s6 (b0 + 6) 8 a1 (imx 0 (v5 - u8))) fun s10 =>
    j84 s10) fun j62 =>
    if v2 = a1 then
    j62 ()
    else
    if (s0 b0 12) ≤ v2 then
    j62 ()
    else
    bd1 (ald s0 (b0 + 9) 8 v2) fun v12 =>
    if v12 = 4 then
    bd1 (ald s0 (b0 + 6) 8 a1) fun v14 =>
    bd1 (ast s0 (b0 + 6) 8 a1 (imn 9 (v14 + 1))) fun s16 =>
    j84 s16
    else
    j62 ()
def fX0_grieve (b0 : Nat) (s0 : St) : Option (St) :=
    bd1 (fX0_grieve_2 b0 FU 0 s0) fun s21 =>
    some s21
set_option maxHeartbeats 4000000 in
set_option maxRecDepth 100000 in
theorem LX0_grieve_2 {l : Launch} {E : EE} {p : Program} {e : Env} {ms : State} {m : MethodId} {args : Array Value} {below : List Frame} {meth : Method} {c : Code} {b0 : Nat} {Q : State → Prop} (X : Cx E layC p ms m args c cX0_grieve RX0 3) (hb0 : isH b0) : ∀ (n : Nat) (a1 : Int32) (s0 : St)  (t8 : St), fX0_grieve_2 b0 n a1 s0 = some t8 → AW E layC p l e (rmD 2) ms m args below meth c 3 0 0 Q 90 [] [] t8 → AW E layC p l e (rmD 2) ms m args below meth c 3 0 0 Q 2 [(0, .ref (ea E b0)), (1, .int a1)] [] s0 := by
  intro n
  induction n with
  | zero =>
    intro a1 s0 t8 h hE
    cases h
  | succ n ih =>
    intro a1 s0 t8 h hE
    rw [fX0_grieve_2] at h
    refine r_iload_n X dX0_grieve_2 1 rfl rfl ?_
    refine r_aload_n X dX0_grieve_3 0 rfl rfl ?_
    refine r_geti X dX0_grieve_4 i_X0 v_X0 (lH0 hb0) 12 rfl (Nat.le_of_ble_eq_true rfl) g_123 ?_
    refine r_icmp_ge X 90 dX0_grieve_7 (by decide) (fun c20 => ?_) (fun c20 => ?_)
    · rw [if_pos c20] at h
      refine r_sub (L' := []) [] rfl ?_
      cases h
      exact hE
    · rw [if_neg c20] at h
      refine r_aload_n X dX0_grieve_10 0 rfl rfl ?_
      refine r_getr X dX0_grieve_11 i_X0 v_X0 (lH0 hb0) 6 rfl (Nat.le_of_ble_eq_true rfl) g_112 ?_
      refine r_iload_n X dX0_grieve_14 1 rfl rfl ?_
      obtain ⟨g1, v2, ev2, h⟩ := ld_ok h
      refine s_iald X dX0_grieve_15 (lH7 hb0) g1 ev2 ?_
      refine r_istore_n (L' := [(0, .ref (ea E b0)), (1, .int a1), (2, .int v2)]) X dX0_grieve_16 [1, 2, 0] rfl rfl (Nat.le_of_ble_eq_true rfl) ?_
      refine r_iload_n X dX0_grieve_17 2 rfl rfl ?_
      refine r_iload_n X dX0_grieve_18 1 rfl rfl ?_
      obtain ⟨j84, ej84, h⟩ := jn1_ok h
      have hj84 : ∀ (s3 : St), j84 s3 = some t8 → AW E layC p l e (rmD 2) ms m args below meth c 3 0 0 Q 84 [(0, .ref (ea E b0)), (1, .int a1)] [] s3 := by
        intro s3 h
        rw [ej84] at h
        refine r_iinc (L' := [(0, .ref (ea E b0)), (1, .int (a1 + 1))]) (v := a1 + 1) X dX0_grieve_84 1 rfl rfl [1, 0] rfl (Nat.le_of_ble_eq_true rfl) ?_
        refine r_goto X 2 dX0_grieve_87 (by decide) ?_
        exact ih _ _ _ h hE
      obtain ⟨j62, ej62, h⟩ := jn1_ok h
      have hj62 : ∀ (u : Unit), j62 u = some t8 → AW E layC p l e (rmD 2) ms m args below meth c 3 0 0 Q 62 [(0, .ref (ea E b0)), (1, .int a1)] [] s0 := by
        intro u h
        rw [ej62] at h
        refine r_aload_n X dX0_grieve_62 0 rfl rfl ?_
        refine r_getr X dX0_grieve_63 i_X0 v_X0 (lH0 hb0) 5 rfl (Nat.le_of_ble_eq_true rfl) g_110 ?_
        refine r_iload_n X dX0_grieve_66 1 rfl rfl ?_
        refine r_iconst X dX0_grieve_67 (v := 0) (by decide) ?_
        refine r_aload_n X dX0_grieve_68 0 rfl rfl ?_
        refine r_getr X dX0_grieve_69 i_X0 v_X0 (lH0 hb0) 5 rfl (Nat.le_of_ble_eq_true rfl) g_110 ?_
        refine r_iload_n X dX0_grieve_72 1 rfl rfl ?_
        obtain ⟨g4, v5, ev5, h⟩ := ld_ok h
        refine s_iald X dX0_grieve_73 (lH6 hb0) g4 ev5 ?_
        refine r_aload_n X dX0_grieve_74 0 rfl rfl ?_
        refine r_iload_n X dX0_grieve_75 1 rfl rfl ?_
        obtain ⟨u8, s6, e7, h⟩ := bd2_ok h
        refine kX0_mendsOf X (ctX0_mendsOf hb0 e7) dX0_grieve_76 (lH0 hb0) g_541 (Nat.le_of_ble_eq_true rfl) (Nat.le_of_ble_eq_true rfl) ?_
        refine r_isub X dX0_grieve_79 ?_
        refine s_mmax X dX0_grieve_80 g_542 g_160 g_71 g_161 (Nat.le_of_ble_eq_true rfl) (Nat.le_of_ble_eq_true rfl) ?_
        obtain ⟨g9, s10, es10, h⟩ := as_ok h
        refine s_iast X dX0_grieve_83 (lH6 hb0) g9 es10 ?_
        exact hj84 _ h
      refine r_icmp_eq X 62 dX0_grieve_19 (by decide) (fun c19 => ?_) (fun c19 => ?_)
      · rw [if_pos c19] at h
        refine r_sub (L' := [(0, .ref (ea E b0)), (1, .int a1)]) [0, 1] rfl ?_
        exact hj62 _ h
      · rw [if_neg c19] at h
        refine r_iload_n X dX0_grieve_22 2 rfl rfl ?_
        refine r_aload_n X dX0_grieve_23 0 rfl rfl ?_
        refine r_geti X dX0_grieve_24 i_X0 v_X0 (lH0 hb0) 12 rfl (Nat.le_of_ble_eq_true rfl) g_123 ?_
        refine r_icmp_ge X 62 dX0_grieve_27 (by decide) (fun c18 => ?_) (fun c18 => ?_)
        · rw [if_pos c18] at h
          refine r_sub (L' := [(0, .ref (ea E b0)), (1, .int a1)]) [0, 1] rfl ?_
          exact hj62 _ h
        · rw [if_neg c18] at h
          refine r_aload_n X dX0_grieve_30 0 rfl rfl ?_
          refine r_getr X dX0_grieve_31 i_X0 v_X0 (lH0 hb0) 8 rfl (Nat.le_of_ble_eq_true rfl) g_116 ?_
          refine r_iload_n X dX0_grieve_34 2 rfl rfl ?_
          obtain ⟨g11, v12, ev12, h⟩ := ld_ok h
          refine s_iald X dX0_grieve_35 (lH9 hb0) g11 ev12 ?_
          refine r_iconst X dX0_grieve_36 (v := 4) (by decide) ?_
          refine r_icmp_ne X 62 dX0_grieve_37 (by decide) (fun c17 => ?_) (fun c17 => ?_)
          · rw [if_neg c17] at h
            refine r_sub (L' := [(0, .ref (ea E b0)), (1, .int a1)]) [0, 1] rfl ?_
            exact hj62 _ h
          · rw [if_pos c17] at h
            refine r_aload_n X dX0_grieve_40 0 rfl rfl ?_
            refine r_getr X dX0_grieve_41 i_X0 v_X0 (lH0 hb0) 5 rfl (Nat.le_of_ble_eq_true rfl) g_110 ?_
            refine r_iload_n X dX0_grieve_44 1 rfl rfl ?_
            refine r_bipush X dX0_grieve_45 (v := 9) (by decide) ?_
            refine r_aload_n X dX0_grieve_47 0 rfl rfl ?_
            refine r_getr X dX0_grieve_48 i_X0 v_X0 (lH0 hb0) 5 rfl (Nat.le_of_ble_eq_true rfl) g_110 ?_
            refine r_iload_n X dX0_grieve_51 1 rfl rfl ?_
            obtain ⟨g13, v14, ev14, h⟩ := ld_ok h
            refine s_iald X dX0_grieve_52 (lH6 hb0) g13 ev14 ?_
            refine r_iconst X dX0_grieve_53 (v := 1) (by decide) ?_
            refine r_iadd X dX0_grieve_54 ?_
            refine s_mmin X dX0_grieve_55 g_531 g_419 g_71 g_420 (Nat.le_of_ble_eq_true rfl) (Nat.le_of_ble_eq_true rfl) ?_
            obtain ⟨g15, s16, es16, h⟩ := as_ok h
            refine s_iast X dX0_grieve_58 (lH6 hb0) g15 es16 ?_
            refine r_goto X 84 dX0_grieve_59 (by decide) ?_
            refine r_sub (L' := [(0, .ref (ea E b0)), (1, .int a1)]) [0, 1] rfl ?_
            exact hj84 _ h
set_option maxHeartbeats 4000000 in
set_option maxRecDepth 100000 in
theorem ctX0_grieve {l : Launch} {E : EE} {b0 : Nat} {s0 : St} {t9 : St} (hb0 : isH b0) (h : fX0_grieve b0 s0 = some t9) : Ct l E layC yX0_grieve cX0_grieve 3 none 2 [.ref (ea E b0)] s0 none t9 := by
  refine Ct.of (by decide) (Nat.le_of_ble_eq_true rfl) ?_
  intro p e ms m below meth c X hlk hr
  have X : Cx E layC p ms m [.ref (ea E b0)].toArray c cX0_grieve RX0 3 := X
  refine r_sub (L' := [(0, .ref (ea E b0))]) [0] rfl ?_
  unfold fX0_grieve at h
  refine r_iconst X dX0_grieve_0 (v := 0) (by decide) ?_
  refine r_istore_n (L' := [(0, .ref (ea E b0)), (1, .int 0)]) X dX0_grieve_1 [1, 0] rfl rfl (Nat.le_of_ble_eq_true rfl) ?_
  obtain ⟨s21, eo, h⟩ := bd1_ok h
  refine LX0_grieve_2 X hb0 FU _ _ _ eo ?_
  exact s_vret X hlk hr dX0_grieve_90 h
/-! X0_spend -/
theorem nX0_spend : yX0_spend.cls ≠ "java/lang/invoke/MethodHandle" ∧ yX0_spend.cls ≠ "java/lang/invoke/VarHandle" ∧ (parseMethodDescriptor yX0_spend.desc).map (fun d => d.parameters.length) = some 2 := by decide +kernel
theorem kX0_spend {l : Launch} {E : EE} {p : Program} {e : Env} {ms : State} {m : MethodId} {args : Array Value} {below : List Frame} {meth : Method} {c : Code} {cc : ByteArray} {own : String} {nL pc idx d D : Nat} {Q : State → Prop} {L : List (Nat × Value)} {rest : List Value} {σ τ : St} {b0 : Nat} {a2 : Int32}  {fl : List (Option Nat)} (X : Cx E layC p ms m args c cc own nL) (hM : Ct l E layC yX0_spend cX0_spend 4 none d [.ref (ea E b0), .ref (ea E 49), .int a2] σ none τ) (hd : decode cc pc = .ok (.invokevirtual idx, 3)) (hlay : layC[b0]? = some (.inl (0, fl))) (w1 : Cond.methodLink own idx yX0_spend ∈ gw) (hR : d + 1 ≤ D) (hrs : (rest.map fun v => v.category).sum ≤ 8) (k : AW E layC p l e (rmD D) ms m args below meth c nL 0 0 Q (pc + 3) L rest τ) : AW E layC p l e (rmD D) ms m args below meth c nL 0 0 Q pc L (.int a2 :: .ref (ea E 49) :: .ref (ea E b0) :: rest) σ :=
  s_callV X [.ref (ea E 49), .int a2] rest hM hd v_X0 hlay w1 g_523 g_524 g_69 g_525 nX0_spend rfl rfl hrs (Nat.le_of_ble_eq_true rfl) hR k
def fX0_spend_2 (b0 : Nat) (a2 : Int32) : Nat → Int32 → St → Option (St)
  | 0, _, _ => none
  | n + 1, a3, s0 =>
    if a2 ≤ a3 then
    some s0
    else
    bd1 (fX0_dine b0 s0) fun s1 =>
    bd1 (fX0_grieve b0 s1) fun s3 =>
    bd1 (ptf s3 b0 11 ((s3 b0 11) + 1)) fun s5 =>
    fX0_spend_2 b0 a2 n (a3 + 1) s5
def fX0_spend (b0 : Nat) (a2 : Int32) (s0 : St) : Option (St) :=
    bd1 (fX0_spend_2 b0 a2 FU 0 s0) fun s7 =>
    some s7
set_option maxHeartbeats 4000000 in
set_option maxRecDepth 100000 in
theorem LX0_spend_2 {l : Launch} {E : EE} {p : Program} {e : Env} {ms : State} {m : MethodId} {args : Array Value} {below : List Frame} {meth : Method} {c : Code} {b0 : Nat} {a2 : Int32} {Q : State → Prop} (X : Cx E layC p ms m args c cX0_spend RX0 4) (hb0 : isH b0) : ∀ (n : Nat) (a3 : Int32) (s0 : St)  (t8 : St), fX0_spend_2 b0 a2 n a3 s0 = some t8 → AW E layC p l e (rmD 5) ms m args below meth c 4 0 0 Q 32 [] [] t8 → AW E layC p l e (rmD 5) ms m args below meth c 4 0 0 Q 2 [(0, .ref (ea E b0)), (1, .ref (ea E 49)), (2, .int a2), (3, .int a3)] [] s0 := by
  intro n
  induction n with
  | zero =>
    intro a3 s0 t8 h hE
    cases h
  | succ n ih =>
    intro a3 s0 t8 h hE
    rw [fX0_spend_2] at h
    refine r_iload_n X dX0_spend_2 3 rfl rfl ?_
    refine r_iload_n X dX0_spend_3 2 rfl rfl ?_
    refine r_icmp_ge X 32 dX0_spend_4 (by decide) (fun c6 => ?_) (fun c6 => ?_)
    · rw [if_pos c6] at h
      refine r_sub (L' := []) [] rfl ?_
      cases h
      exact hE
    · rw [if_neg c6] at h
      refine r_aload_n X dX0_spend_7 0 rfl rfl ?_
      refine r_aload_n X dX0_spend_8 1 rfl rfl ?_
      obtain ⟨s1, e2, h⟩ := bd1_ok h
      refine kX0_dine X (ctX0_dine hb0 e2) dX0_spend_9 (lH0 hb0) g_526 (Nat.le_of_ble_eq_true rfl) (Nat.le_of_ble_eq_true rfl) ?_
      refine r_aload_n X dX0_spend_12 0 rfl rfl ?_
      obtain ⟨s3, e4, h⟩ := bd1_ok h
      refine kX0_grieve X (ctX0_grieve hb0 e4) dX0_spend_13 (lH0 hb0) g_537 (Nat.le_of_ble_eq_true rfl) (Nat.le_of_ble_eq_true rfl) ?_
      refine r_aload_n X dX0_spend_16 0 rfl rfl ?_
      refine r_dup X dX0_spend_17 rfl ?_
      refine r_geti X dX0_spend_18 i_X0 v_X0 (lH0 hb0) 11 rfl (Nat.le_of_ble_eq_true rfl) g_121 ?_
      refine r_iconst X dX0_spend_21 (v := 1) (by decide) ?_
      refine r_iadd X dX0_spend_22 ?_
      obtain ⟨s5, es5, h⟩ := pt_ok h
      refine s_puti X dX0_spend_23 i_X0 tyX0_ok nmX0 v_X0 (lH0 hb0) 11 rfl (Nat.le_of_ble_eq_true rfl) g_121 rfl rfl ⟨rfl, rfl⟩ es5 ?_
      refine r_iinc (L' := [(0, .ref (ea E b0)), (1, .ref (ea E 49)), (2, .int a2), (3, .int (a3 + 1))]) (v := a3 + 1) X dX0_spend_26 3 rfl rfl [1, 2, 3, 0] rfl (Nat.le_of_ble_eq_true rfl) ?_
      refine r_goto X 2 dX0_spend_29 (by decide) ?_
      exact ih _ _ _ h hE
set_option maxHeartbeats 4000000 in
set_option maxRecDepth 100000 in
theorem ctX0_spend {l : Launch} {E : EE} {b0 : Nat} {a2 : Int32} {s0 : St} {t9 : St} (hb0 : isH b0) (h : fX0_spend b0 a2 s0 = some t9) : Ct l E layC yX0_spend cX0_spend 4 none 5 [.ref (ea E b0), .ref (ea E 49), .int a2] s0 none t9 := by
  refine Ct.of (by decide) (Nat.le_of_ble_eq_true rfl) ?_
  intro p e ms m below meth c X hlk hr
  have X : Cx E layC p ms m [.ref (ea E b0), .ref (ea E 49), .int a2].toArray c cX0_spend RX0 4 := X
  refine r_sub (L' := [(0, .ref (ea E b0)), (1, .ref (ea E 49)), (2, .int a2)]) [0, 1, 2] rfl ?_
  unfold fX0_spend at h
  refine r_iconst X dX0_spend_0 (v := 0) (by decide) ?_
  refine r_istore_n (L' := [(0, .ref (ea E b0)), (1, .ref (ea E 49)), (2, .int a2), (3, .int 0)]) X dX0_spend_1 [1, 2, 3, 0] rfl rfl (Nat.le_of_ble_eq_true rfl) ?_
  obtain ⟨s7, eo, h⟩ := bd1_ok h
  refine LX0_spend_2 X hb0 FU _ _ _ eo ?_
  exact s_vret X hlk hr dX0_spend_32 h
/-! X0_griefOfAll -/
theorem nX0_griefOfAll : yX0_griefOfAll.cls ≠ "java/lang/invoke/MethodHandle" ∧ yX0_griefOfAll.cls ≠ "java/lang/invoke/VarHandle" ∧ (parseMethodDescriptor yX0_griefOfAll.desc).map (fun d => d.parameters.length) = some 0 := by decide +kernel
theorem kX0_griefOfAll {l : Launch} {E : EE} {p : Program} {e : Env} {ms : State} {m : MethodId} {args : Array Value} {below : List Frame} {meth : Method} {c : Code} {cc : ByteArray} {own : String} {nL pc idx d D : Nat} {Q : State → Prop} {L : List (Nat × Value)} {rest : List Value} {σ τ : St} {b0 : Nat} {r : Int32} {fl : List (Option Nat)} (X : Cx E layC p ms m args c cc own nL) (hM : Ct l E layC yX0_griefOfAll cX0_griefOfAll 3 (some .int) d [.ref (ea E b0)] σ (some (.int r)) τ) (hd : decode cc pc = .ok (.invokevirtual idx, 3)) (hlay : layC[b0]? = some (.inl (0, fl))) (w1 : Cond.methodLink own idx yX0_griefOfAll ∈ gw) (hR : d + 1 ≤ D) (hrs : (rest.map fun v => v.category).sum ≤ 8) (k : AW E layC p l e (rmD D) ms m args below meth c nL 0 0 Q (pc + 3) L (.int r :: rest) τ) : AW E layC p l e (rmD D) ms m args below meth c nL 0 0 Q pc L (.ref (ea E b0) :: rest) σ :=
  s_callV X [] rest hM hd v_X0 hlay w1 g_753 g_754 g_69 g_755 nX0_griefOfAll rfl rfl hrs (Nat.le_of_ble_eq_true rfl) hR k
def fX0_griefOfAll_4 (b0 : Nat) : Nat → Int32 → Int32 → St → Option (Int32 × St)
  | 0, _, _, _ => none
  | n + 1, a1, a2, s0 =>
    if (s0 b0 12) ≤ a2 then
    some (a1, s0)
    else
    bd1 (ald s0 (b0 + 6) 8 a2) fun v2 =>
    fX0_griefOfAll_4 b0 n (a1 + v2) (a2 + 1) s0
def fX0_griefOfAll (b0 : Nat) (s0 : St) : Option (Int32 × St) :=
    bd2 (fX0_griefOfAll_4 b0 FU 0 0 s0) fun v5 s4 =>
    some (v5, s4)
set_option maxHeartbeats 4000000 in
set_option maxRecDepth 100000 in
theorem LX0_griefOfAll_4 {l : Launch} {E : EE} {p : Program} {e : Env} {ms : State} {m : MethodId} {args : Array Value} {below : List Frame} {meth : Method} {c : Code} {b0 : Nat} {Q : State → Prop} (X : Cx E layC p ms m args c cX0_griefOfAll RX0 3) (hb0 : isH b0) : ∀ (n : Nat) (a1 : Int32) (a2 : Int32) (s0 : St) (q1 : Int32) (t8 : St), fX0_griefOfAll_4 b0 n a1 a2 s0 = some (q1, t8) → AW E layC p l e (rmD 0) ms m args below meth c 3 0 0 Q 27 [(1, .int q1)] [] t8 → AW E layC p l e (rmD 0) ms m args below meth c 3 0 0 Q 4 [(0, .ref (ea E b0)), (1, .int a1), (2, .int a2)] [] s0 := by
  intro n
  induction n with
  | zero =>
    intro a1 a2 s0 q1 t8 h hE
    cases h
  | succ n ih =>
    intro a1 a2 s0 q1 t8 h hE
    rw [fX0_griefOfAll_4] at h
    refine r_iload_n X dX0_griefOfAll_4 2 rfl rfl ?_
    refine r_aload_n X dX0_griefOfAll_5 0 rfl rfl ?_
    refine r_geti X dX0_griefOfAll_6 i_X0 v_X0 (lH0 hb0) 12 rfl (Nat.le_of_ble_eq_true rfl) g_123 ?_
    refine r_icmp_ge X 27 dX0_griefOfAll_9 (by decide) (fun c3 => ?_) (fun c3 => ?_)
    · rw [if_pos c3] at h
      refine r_sub (L' := [(1, .int a1)]) [1] rfl ?_
      cases h
      exact hE
    · rw [if_neg c3] at h
      refine r_iload_n X dX0_griefOfAll_12 1 rfl rfl ?_
      refine r_aload_n X dX0_griefOfAll_13 0 rfl rfl ?_
      refine r_getr X dX0_griefOfAll_14 i_X0 v_X0 (lH0 hb0) 5 rfl (Nat.le_of_ble_eq_true rfl) g_110 ?_
      refine r_iload_n X dX0_griefOfAll_17 2 rfl rfl ?_
      obtain ⟨g1, v2, ev2, h⟩ := ld_ok h
      refine s_iald X dX0_griefOfAll_18 (lH6 hb0) g1 ev2 ?_
      refine r_iadd X dX0_griefOfAll_19 ?_
      refine r_istore_n (L' := [(0, .ref (ea E b0)), (1, .int (a1 + v2)), (2, .int a2)]) X dX0_griefOfAll_20 [1, 0, 2] rfl rfl (Nat.le_of_ble_eq_true rfl) ?_
      refine r_iinc (L' := [(0, .ref (ea E b0)), (1, .int (a1 + v2)), (2, .int (a2 + 1))]) (v := a2 + 1) X dX0_griefOfAll_21 2 rfl rfl [1, 2, 0] rfl (Nat.le_of_ble_eq_true rfl) ?_
      refine r_goto X 4 dX0_griefOfAll_24 (by decide) ?_
      exact ih _ _ _ _ _ h hE
set_option maxHeartbeats 4000000 in
set_option maxRecDepth 100000 in
theorem ctX0_griefOfAll {l : Launch} {E : EE} {b0 : Nat} {s0 : St} {r9 : Int32} {t9 : St} (hb0 : isH b0) (h : fX0_griefOfAll b0 s0 = some (r9, t9)) : Ct l E layC yX0_griefOfAll cX0_griefOfAll 3 (some .int) 0 [.ref (ea E b0)] s0 (some (.int r9)) t9 := by
  refine Ct.of (by decide) (Nat.le_of_ble_eq_true rfl) ?_
  intro p e ms m below meth c X hlk hr
  have X : Cx E layC p ms m [.ref (ea E b0)].toArray c cX0_griefOfAll RX0 3 := X
  refine r_sub (L' := [(0, .ref (ea E b0))]) [0] rfl ?_
  unfold fX0_griefOfAll at h
  refine r_iconst X dX0_griefOfAll_0 (v := 0) (by decide) ?_
  refine r_istore_n (L' := [(0, .ref (ea E b0)), (1, .int 0)]) X dX0_griefOfAll_1 [1, 0] rfl rfl (Nat.le_of_ble_eq_true rfl) ?_
  refine r_iconst X dX0_griefOfAll_2 (v := 0) (by decide) ?_
  refine r_istore_n (L' := [(0, .ref (ea E b0)), (1, .int 0), (2, .int 0)]) X dX0_griefOfAll_3 [1, 2, 0] rfl rfl (Nat.le_of_ble_eq_true rfl) ?_
  obtain ⟨v5, s4, eo, h⟩ := bd2_ok h
  refine LX0_griefOfAll_4 X hb0 FU _ _ _ _ _ eo ?_
  refine r_iload_n X dX0_griefOfAll_27 0 rfl rfl ?_
  exact s_iret X hlk hr dX0_griefOfAll_28 h
/-! X0_knownOfAll -/
theorem nX0_knownOfAll : yX0_knownOfAll.cls ≠ "java/lang/invoke/MethodHandle" ∧ yX0_knownOfAll.cls ≠ "java/lang/invoke/VarHandle" ∧ (parseMethodDescriptor yX0_knownOfAll.desc).map (fun d => d.parameters.length) = some 0 := by decide +kernel
theorem kX0_knownOfAll {l : Launch} {E : EE} {p : Program} {e : Env} {ms : State} {m : MethodId} {args : Array Value} {below : List Frame} {meth : Method} {c : Code} {cc : ByteArray} {own : String} {nL pc idx d D : Nat} {Q : State → Prop} {L : List (Nat × Value)} {rest : List Value} {σ τ : St} {b0 : Nat} {r : Int32} {fl : List (Option Nat)} (X : Cx E layC p ms m args c cc own nL) (hM : Ct l E layC yX0_knownOfAll cX0_knownOfAll 3 (some .int) d [.ref (ea E b0)] σ (some (.int r)) τ) (hd : decode cc pc = .ok (.invokevirtual idx, 3)) (hlay : layC[b0]? = some (.inl (0, fl))) (w1 : Cond.methodLink own idx yX0_knownOfAll ∈ gw) (hR : d + 1 ≤ D) (hrs : (rest.map fun v => v.category).sum ≤ 8) (k : AW E layC p l e (rmD D) ms m args below meth c nL 0 0 Q (pc + 3) L (.int r :: rest) τ) : AW E layC p l e (rmD D) ms m args below meth c nL 0 0 Q pc L (.ref (ea E b0) :: rest) σ :=
  s_callV X [] rest hM hd v_X0 hlay w1 g_589 g_590 g_69 g_591 nX0_knownOfAll rfl rfl hrs (Nat.le_of_ble_eq_true rfl) hR k
def fX0_knownOfAll_4 (b0 : Nat) : Nat → Int32 → Int32 → St → Option (Int32 × St)
  | 0, _, _, _ => none
  | n + 1, a1, a2, s0 =>
    if (s0 b0 12) ≤ a2 then
    some (a1, s0)
    else
    bd1 (ald s0 (b0 + 8) 8 a2) fun v2 =>
    fX0_knownOfAll_4 b0 n (a1 + v2) (a2 + 1) s0
def fX0_knownOfAll (b0 : Nat) (s0 : St) : Option (Int32 × St) :=
    bd2 (fX0_knownOfAll_4 b0 FU 0 0 s0) fun v5 s4 =>
    some (v5, s4)
set_option maxHeartbeats 4000000 in
set_option maxRecDepth 100000 in
theorem LX0_knownOfAll_4 {l : Launch} {E : EE} {p : Program} {e : Env} {ms : State} {m : MethodId} {args : Array Value} {below : List Frame} {meth : Method} {c : Code} {b0 : Nat} {Q : State → Prop} (X : Cx E layC p ms m args c cX0_knownOfAll RX0 3) (hb0 : isH b0) : ∀ (n : Nat) (a1 : Int32) (a2 : Int32) (s0 : St) (q1 : Int32) (t8 : St), fX0_knownOfAll_4 b0 n a1 a2 s0 = some (q1, t8) → AW E layC p l e (rmD 0) ms m args below meth c 3 0 0 Q 27 [(1, .int q1)] [] t8 → AW E layC p l e (rmD 0) ms m args below meth c 3 0 0 Q 4 [(0, .ref (ea E b0)), (1, .int a1), (2, .int a2)] [] s0 := by
  intro n
  induction n with
  | zero =>
    intro a1 a2 s0 q1 t8 h hE
    cases h
  | succ n ih =>
    intro a1 a2 s0 q1 t8 h hE
    rw [fX0_knownOfAll_4] at h
    refine r_iload_n X dX0_knownOfAll_4 2 rfl rfl ?_
    refine r_aload_n X dX0_knownOfAll_5 0 rfl rfl ?_
    refine r_geti X dX0_knownOfAll_6 i_X0 v_X0 (lH0 hb0) 12 rfl (Nat.le_of_ble_eq_true rfl) g_123 ?_
    refine r_icmp_ge X 27 dX0_knownOfAll_9 (by decide) (fun c3 => ?_) (fun c3 => ?_)
    · rw [if_pos c3] at h
      refine r_sub (L' := [(1, .int a1)]) [1] rfl ?_
      cases h
      exact hE
    · rw [if_neg c3] at h
      refine r_iload_n X dX0_knownOfAll_12 1 rfl rfl ?_
      refine r_aload_n X dX0_knownOfAll_13 0 rfl rfl ?_
      refine r_getr X dX0_knownOfAll_14 i_X0 v_X0 (lH0 hb0) 7 rfl (Nat.le_of_ble_eq_true rfl) g_114 ?_
      refine r_iload_n X dX0_knownOfAll_17 2 rfl rfl ?_
      obtain ⟨g1, v2, ev2, h⟩ := ld_ok h
      refine s_iald X dX0_knownOfAll_18 (lH8 hb0) g1 ev2 ?_
      refine r_iadd X dX0_knownOfAll_19 ?_
      refine r_istore_n (L' := [(0, .ref (ea E b0)), (1, .int (a1 + v2)), (2, .int a2)]) X dX0_knownOfAll_20 [1, 0, 2] rfl rfl (Nat.le_of_ble_eq_true rfl) ?_
      refine r_iinc (L' := [(0, .ref (ea E b0)), (1, .int (a1 + v2)), (2, .int (a2 + 1))]) (v := a2 + 1) X dX0_knownOfAll_21 2 rfl rfl [1, 2, 0] rfl (Nat.le_of_ble_eq_true rfl) ?_
      refine r_goto X 4 dX0_knownOfAll_24 (by decide) ?_
      exact ih _ _ _ _ _ h hE
set_option maxHeartbeats 4000000 in
set_option maxRecDepth 100000 in
theorem ctX0_knownOfAll {l : Launch} {E : EE} {b0 : Nat} {s0 : St} {r9 : Int32} {t9 : St} (hb0 : isH b0) (h : fX0_knownOfAll b0 s0 = some (r9, t9)) : Ct l E layC yX0_knownOfAll cX0_knownOfAll 3 (some .int) 0 [.ref (ea E b0)] s0 (some (.int r9)) t9 := by
  refine Ct.of (by decide) (Nat.le_of_ble_eq_true rfl) ?_
  intro p e ms m below meth c X hlk hr
  have X : Cx E layC p ms m [.ref (ea E b0)].toArray c cX0_knownOfAll RX0 3 := X
  refine r_sub (L' := [(0, .ref (ea E b0))]) [0] rfl ?_
  unfold fX0_knownOfAll at h
  refine r_iconst X dX0_knownOfAll_0 (v := 0) (by decide) ?_
  refine r_istore_n (L' := [(0, .ref (ea E b0)), (1, .int 0)]) X dX0_knownOfAll_1 [1, 0] rfl rfl (Nat.le_of_ble_eq_true rfl) ?_
  refine r_iconst X dX0_knownOfAll_2 (v := 0) (by decide) ?_
  refine r_istore_n (L' := [(0, .ref (ea E b0)), (1, .int 0), (2, .int 0)]) X dX0_knownOfAll_3 [1, 2, 0] rfl rfl (Nat.le_of_ble_eq_true rfl) ?_
  obtain ⟨v5, s4, eo, h⟩ := bd2_ok h
  refine LX0_knownOfAll_4 X hb0 FU _ _ _ _ _ eo ?_
  refine r_iload_n X dX0_knownOfAll_27 0 rfl rfl ?_
  exact s_iret X hlk hr dX0_knownOfAll_28 h
/-! X0_sweetOfAll -/
theorem nX0_sweetOfAll : yX0_sweetOfAll.cls ≠ "java/lang/invoke/MethodHandle" ∧ yX0_sweetOfAll.cls ≠ "java/lang/invoke/VarHandle" ∧ (parseMethodDescriptor yX0_sweetOfAll.desc).map (fun d => d.parameters.length) = some 0 := by decide +kernel
theorem kX0_sweetOfAll {l : Launch} {E : EE} {p : Program} {e : Env} {ms : State} {m : MethodId} {args : Array Value} {below : List Frame} {meth : Method} {c : Code} {cc : ByteArray} {own : String} {nL pc idx d D : Nat} {Q : State → Prop} {L : List (Nat × Value)} {rest : List Value} {σ τ : St} {b0 : Nat} {r : Int32} {fl : List (Option Nat)} (X : Cx E layC p ms m args c cc own nL) (hM : Ct l E layC yX0_sweetOfAll cX0_sweetOfAll 3 (some .int) d [.ref (ea E b0)] σ (some (.int r)) τ) (hd : decode cc pc = .ok (.invokevirtual idx, 3)) (hlay : layC[b0]? = some (.inl (0, fl))) (w1 : Cond.methodLink own idx yX0_sweetOfAll ∈ gw) (hR : d + 1 ≤ D) (hrs : (rest.map fun v => v.category).sum ≤ 8) (k : AW E layC p l e (rmD D) ms m args below meth c nL 0 0 Q (pc + 3) L (.int r :: rest) τ) : AW E layC p l e (rmD D) ms m args below meth c nL 0 0 Q pc L (.ref (ea E b0) :: rest) σ :=
  s_callV X [] rest hM hd v_X0 hlay w1 g_757 g_758 g_69 g_759 nX0_sweetOfAll rfl rfl hrs (Nat.le_of_ble_eq_true rfl) hR k
def fX0_sweetOfAll_4 (b0 : Nat) : Nat → Int32 → Int32 → St → Option (Int32 × St)
  | 0, _, _, _ => none
  | n + 1, a1, a2, s0 =>
    if 16 ≤ a2 then
    some (a1, s0)
    else
    bd1 (ald s0 (b0 + 1) 16 a2) fun v2 =>
    fX0_sweetOfAll_4 b0 n (a1 + v2) (a2 + 1) s0
def fX0_sweetOfAll (b0 : Nat) (s0 : St) : Option (Int32 × St) :=
    bd2 (fX0_sweetOfAll_4 b0 FU 0 0 s0) fun v5 s4 =>
    some (v5, s4)
set_option maxHeartbeats 4000000 in
set_option maxRecDepth 100000 in
theorem LX0_sweetOfAll_4 {l : Launch} {E : EE} {p : Program} {e : Env} {ms : State} {m : MethodId} {args : Array Value} {below : List Frame} {meth : Method} {c : Code} {b0 : Nat} {Q : State → Prop} (X : Cx E layC p ms m args c cX0_sweetOfAll RX0 3) (hb0 : isH b0) : ∀ (n : Nat) (a1 : Int32) (a2 : Int32) (s0 : St) (q1 : Int32) (t8 : St), fX0_sweetOfAll_4 b0 n a1 a2 s0 = some (q1, t8) → AW E layC p l e (rmD 0) ms m args below meth c 3 0 0 Q 25 [(1, .int q1)] [] t8 → AW E layC p l e (rmD 0) ms m args below meth c 3 0 0 Q 4 [(0, .ref (ea E b0)), (1, .int a1), (2, .int a2)] [] s0 := by
  intro n
  induction n with
  | zero =>
    intro a1 a2 s0 q1 t8 h hE
    cases h
  | succ n ih =>
    intro a1 a2 s0 q1 t8 h hE
    rw [fX0_sweetOfAll_4] at h
    refine r_iload_n X dX0_sweetOfAll_4 2 rfl rfl ?_
    refine r_bipush X dX0_sweetOfAll_5 (v := 16) (by decide) ?_
    refine r_icmp_ge X 25 dX0_sweetOfAll_7 (by decide) (fun c3 => ?_) (fun c3 => ?_)
    · rw [if_pos c3] at h
      refine r_sub (L' := [(1, .int a1)]) [1] rfl ?_
      cases h
      exact hE
    · rw [if_neg c3] at h
      refine r_iload_n X dX0_sweetOfAll_10 1 rfl rfl ?_
      refine r_aload_n X dX0_sweetOfAll_11 0 rfl rfl ?_
      refine r_getr X dX0_sweetOfAll_12 i_X0 v_X0 (lH0 hb0) 0 rfl (Nat.le_of_ble_eq_true rfl) g_100 ?_
      refine r_iload_n X dX0_sweetOfAll_15 2 rfl rfl ?_
      obtain ⟨g1, v2, ev2, h⟩ := ld_ok h
      refine s_iald X dX0_sweetOfAll_16 (lH1 hb0) g1 ev2 ?_
      refine r_iadd X dX0_sweetOfAll_17 ?_
      refine r_istore_n (L' := [(0, .ref (ea E b0)), (1, .int (a1 + v2)), (2, .int a2)]) X dX0_sweetOfAll_18 [1, 0, 2] rfl rfl (Nat.le_of_ble_eq_true rfl) ?_
      refine r_iinc (L' := [(0, .ref (ea E b0)), (1, .int (a1 + v2)), (2, .int (a2 + 1))]) (v := a2 + 1) X dX0_sweetOfAll_19 2 rfl rfl [1, 2, 0] rfl (Nat.le_of_ble_eq_true rfl) ?_
      refine r_goto X 4 dX0_sweetOfAll_22 (by decide) ?_
      exact ih _ _ _ _ _ h hE
set_option maxHeartbeats 4000000 in
set_option maxRecDepth 100000 in
theorem ctX0_sweetOfAll {l : Launch} {E : EE} {b0 : Nat} {s0 : St} {r9 : Int32} {t9 : St} (hb0 : isH b0) (h : fX0_sweetOfAll b0 s0 = some (r9, t9)) : Ct l E layC yX0_sweetOfAll cX0_sweetOfAll 3 (some .int) 0 [.ref (ea E b0)] s0 (some (.int r9)) t9 := by
  refine Ct.of (by decide) (Nat.le_of_ble_eq_true rfl) ?_
  intro p e ms m below meth c X hlk hr
  have X : Cx E layC p ms m [.ref (ea E b0)].toArray c cX0_sweetOfAll RX0 3 := X
  refine r_sub (L' := [(0, .ref (ea E b0))]) [0] rfl ?_
  unfold fX0_sweetOfAll at h
  refine r_iconst X dX0_sweetOfAll_0 (v := 0) (by decide) ?_
  refine r_istore_n (L' := [(0, .ref (ea E b0)), (1, .int 0)]) X dX0_sweetOfAll_1 [1, 0] rfl rfl (Nat.le_of_ble_eq_true rfl) ?_
  refine r_iconst X dX0_sweetOfAll_2 (v := 0) (by decide) ?_
  refine r_istore_n (L' := [(0, .ref (ea E b0)), (1, .int 0), (2, .int 0)]) X dX0_sweetOfAll_3 [1, 2, 0] rfl rfl (Nat.le_of_ble_eq_true rfl) ?_
  obtain ⟨v5, s4, eo, h⟩ := bd2_ok h
  refine LX0_sweetOfAll_4 X hb0 FU _ _ _ _ _ eo ?_
  refine r_iload_n X dX0_sweetOfAll_25 0 rfl rfl ?_
  exact s_iret X hlk hr dX0_sweetOfAll_26 h
/-! X1_above -/
theorem nX1_above : yX1_above.cls ≠ "java/lang/invoke/MethodHandle" ∧ yX1_above.cls ≠ "java/lang/invoke/VarHandle" ∧ (parseMethodDescriptor yX1_above.desc).map (fun d => d.parameters.length) = some 1 := by decide +kernel
theorem kX1_above {l : Launch} {E : EE} {p : Program} {e : Env} {ms : State} {m : MethodId} {args : Array Value} {below : List Frame} {meth : Method} {c : Code} {cc : ByteArray} {own : String} {nL pc idx d D : Nat} {Q : State → Prop} {L : List (Nat × Value)} {rest : List Value} {σ τ : St} {a0 : Int32} {r : Int32} (X : Cx E layC p ms m args c cc own nL) (hM : Ct l E layC yX1_above cX1_above 1 (some .int) d [.int a0] σ (some (.int r)) τ) (hd : decode cc pc = .ok (.invokestatic idx, 3)) (w1 : Cond.methodLink own idx yX1_above ∈ gw) (hR : d + 1 ≤ D) (hrs : (rest.map fun v => v.category).sum ≤ 8) (k : AW E layC p l e (rmD D) ms m args below meth c nL 0 0 Q (pc + 3) L (.int r :: rest) τ) : AW E layC p l e (rmD D) ms m args below meth c nL 0 0 Q pc L (.int a0 :: rest) σ :=
  s_callS X [.int a0] rest hM hd w1 g_441 g_78 g_442 nX1_above rfl rfl hrs (Nat.le_of_ble_eq_true rfl) hR k
def fX1_above (a0 : Int32) (s0 : St) : Option (Int32 × St) :=
    jn (fun (_ : Unit) =>
    some ((-1), s0)) fun j18 =>
    if a0 < 0 then
    j18 ()
    else
    if 6 < a0 then
    j18 ()
    else
    bd1 (tld kAB 7 a0) fun v2 =>
    some (v2, s0)
set_option maxHeartbeats 4000000 in
set_option maxRecDepth 100000 in
theorem ctX1_above {l : Launch} {E : EE} {a0 : Int32} {s0 : St} {r9 : Int32} {t9 : St}  (h : fX1_above a0 s0 = some (r9, t9)) : Ct l E layC yX1_above cX1_above 1 (some .int) 0 [.int a0] s0 (some (.int r9)) t9 := by
  refine Ct.of (by decide) (Nat.le_of_ble_eq_true rfl) ?_
  intro p e ms m below meth c X hlk hr
  have X : Cx E layC p ms m [.int a0].toArray c cX1_above RX1 1 := X
  refine r_sub (L' := [(0, .int a0)]) [0] rfl ?_
  unfold fX1_above at h
  refine r_iload_n X dX1_above_0 0 rfl rfl ?_
  obtain ⟨j18, ej18, h⟩ := jn1_ok h
  have hj18 : ∀ (u : Unit), j18 u = some (r9, t9) → AW E layC p l e (rmD 0) ms m [.int a0].toArray below meth c 1 0 0 (MQc E layC below [.int a0].toArray ms (some (.int r9)) t9) 18 [] [] s0 := by
    intro u h
    rw [ej18] at h
    refine r_iconst X dX1_above_18 (v := (-1)) (by decide) ?_
    exact s_iret X hlk hr dX1_above_19 h
  refine r_if_lt X 18 dX1_above_1 (by decide) (fun c4 => ?_) (fun c4 => ?_)
  · rw [if_pos c4] at h
    refine r_sub (L' := []) [] rfl ?_
    exact hj18 _ h
  · rw [if_neg c4] at h
    refine r_iload_n X dX1_above_4 0 rfl rfl ?_
    refine r_bipush X dX1_above_5 (v := 6) (by decide) ?_
    refine r_icmp_gt X 18 dX1_above_7 (by decide) (fun c3 => ?_) (fun c3 => ?_)
    · rw [if_pos c3] at h
      refine r_sub (L' := []) [] rfl ?_
      exact hj18 _ h
    · rw [if_neg c3] at h
      refine r_sA X dX1_above_10 g_443 ?_
      refine r_iload_n X dX1_above_13 0 rfl rfl ?_
      obtain ⟨g1, v2, ev2, h⟩ := tl_ok h
      refine s_ldA X dX1_above_14 g1 ev2 ?_
      refine r_goto X 19 dX1_above_15 (by decide) ?_
      exact s_iret X hlk hr dX1_above_19 h
/-! X1_isUnder -/
theorem nX1_isUnder : yX1_isUnder.cls ≠ "java/lang/invoke/MethodHandle" ∧ yX1_isUnder.cls ≠ "java/lang/invoke/VarHandle" ∧ (parseMethodDescriptor yX1_isUnder.desc).map (fun d => d.parameters.length) = some 2 := by decide +kernel
theorem kX1_isUnder {l : Launch} {E : EE} {p : Program} {e : Env} {ms : State} {m : MethodId} {args : Array Value} {below : List Frame} {meth : Method} {c : Code} {cc : ByteArray} {own : String} {nL pc idx d D : Nat} {Q : State → Prop} {L : List (Nat × Value)} {rest : List Value} {σ τ : St} {a0 : Int32} {a1 : Int32} {r : Int32} (X : Cx E layC p ms m args c cc own nL) (hM : Ct l E layC yX1_isUnder cX1_isUnder 4 (some .boolean) d [.int a0, .int a1] σ (some (.int r)) τ) (hd : decode cc pc = .ok (.invokestatic idx, 3)) (w1 : Cond.methodLink own idx yX1_isUnder ∈ gw) (hR : d + 1 ≤ D) (hrs : (rest.map fun v => v.category).sum ≤ 8) (k : AW E layC p l e (rmD D) ms m args below meth c nL 0 0 Q (pc + 3) L (.int r :: rest) τ) : AW E layC p l e (rmD D) ms m args below meth c nL 0 0 Q pc L (.int a1 :: .int a0 :: rest) σ :=
  s_callS X [.int a0, .int a1] rest hM hd w1 g_438 g_78 g_439 nX1_isUnder rfl rfl hrs (Nat.le_of_ble_eq_true rfl) hR k
def fX1_isUnder_4 (a1 : Int32) : Nat → Int32 → Int32 → St → Option ((Int32 × St) ⊕ (St))
  | 0, _, _, _ => none
  | n + 1, a2, a3, s0 =>
    if 6 < a3 then
    some (.inr s0)
    else
    if a2 < 0 then
    some (.inr s0)
    else
    if a2 = a1 then
    some (.inl (1, s0))
    else
    bd2 (fX1_above a2 s0) fun u3 s1 =>
    fX1_isUnder_4 a1 n u3 (a3 + 1) s1
def fX1_isUnder (a0 : Int32) (a1 : Int32) (s0 : St) : Option (Int32 × St) :=
    bS1 (fX1_isUnder_4 a1 FU a0 0 s0) (fun u8 => some u8) fun s7 =>
    some (0, s7)
set_option maxHeartbeats 4000000 in
set_option maxRecDepth 100000 in
theorem LX1_isUnder_4 {l : Launch} {E : EE} {p : Program} {e : Env} {ms : State} {m : MethodId} {args : Array Value} {below : List Frame} {meth : Method} {c : Code} {a1 : Int32} {r9 : Int32} {t9 : St} (X : Cx E layC p ms m args c cX1_isUnder RX1 4) (hlk : meth.locks = false) (hr : meth.sig.returnType = (some .boolean)) : ∀ (n : Nat) (a2 : Int32) (a3 : Int32) (s0 : St) (o : (Int32 × St) ⊕ (St)), fX1_isUnder_4 a1 n a2 a3 s0 = some o → (∀ r, o = .inl r → r = (r9, t9)) → (∀  (t8 : St), o = .inr t8 → AW E layC p l e (rmD 1) ms m args below meth c 4 0 0 (MQc E layC below args ms (some (.int r9)) t9) 32 [] [] t8) → AW E layC p l e (rmD 1) ms m args below meth c 4 0 0 (MQc E layC below args ms (some (.int r9)) t9) 4 [(1, .int a1), (2, .int a2), (3, .int a3)] [] s0 := by
  intro n
  induction n with
  | zero =>
    intro a2 a3 s0 o h hR hE
    cases h
  | succ n ih =>
    intro a2 a3 s0 o h hR hE
    rw [fX1_isUnder_4] at h
    refine r_iload_n X dX1_isUnder_4 2 rfl rfl ?_
    refine r_bipush X dX1_isUnder_5 (v := 6) (by decide) ?_
    refine r_icmp_gt X 32 dX1_isUnder_7 (by decide) (fun c6 => ?_) (fun c6 => ?_)
    · rw [if_pos c6] at h
      refine r_sub (L' := []) [] rfl ?_
      cases h
      exact hE _ rfl
    · rw [if_neg c6] at h
      refine r_iload_n X dX1_isUnder_10 1 rfl rfl ?_
      refine r_if_lt X 32 dX1_isUnder_11 (by decide) (fun c5 => ?_) (fun c5 => ?_)
      · rw [if_pos c5] at h
        refine r_sub (L' := []) [] rfl ?_
        cases h
        exact hE _ rfl
      · rw [if_neg c5] at h
        refine r_iload_n X dX1_isUnder_14 1 rfl rfl ?_
        refine r_iload_n X dX1_isUnder_15 0 rfl rfl ?_
        refine r_icmp_ne X 21 dX1_isUnder_16 (by decide) (fun c4 => ?_) (fun c4 => ?_)
        · rw [if_neg c4] at h
          refine r_iload_n X dX1_isUnder_21 1 rfl rfl ?_
          obtain ⟨u3, s1, e2, h⟩ := bd2_ok h
          refine kX1_above X (ctX1_above e2) dX1_isUnder_22 g_440 (Nat.le_of_ble_eq_true rfl) (Nat.le_of_ble_eq_true rfl) ?_
          refine r_istore_n (L' := [(1, .int a1), (2, .int u3), (3, .int a3)]) X dX1_isUnder_25 [1, 0, 2] rfl rfl (Nat.le_of_ble_eq_true rfl) ?_
          refine r_iinc (L' := [(1, .int a1), (2, .int u3), (3, .int (a3 + 1))]) (v := a3 + 1) X dX1_isUnder_26 2 rfl rfl [1, 2, 0] rfl (Nat.le_of_ble_eq_true rfl) ?_
          refine r_goto X 4 dX1_isUnder_29 (by decide) ?_
          exact ih _ _ _ _ h hR hE
        · rw [if_pos c4] at h
          refine r_iconst X dX1_isUnder_19 (v := 1) (by decide) ?_
          exact s_zret X hlk hr (by decide) dX1_isUnder_20 (inl_ok h hR)
set_option maxHeartbeats 4000000 in
set_option maxRecDepth 100000 in
theorem LX1_isUnder_4_x {l : Launch} {E : EE} {p : Program} {e : Env} {ms : State} {m : MethodId} {args : Array Value} {below : List Frame} {meth : Method} {c : Code} {a1 : Int32} {r9 : Int32} {t9 : St} (X : Cx E layC p ms m args c cX1_isUnder RX1 4) (hlk : meth.locks = false) (hr : meth.sig.returnType = (some .boolean)) (n : Nat) (a2 : Int32) (a3 : Int32) (s0 : St)  (t8 : St) (h : fX1_isUnder_4 a1 n a2 a3 s0 = some (.inr t8)) (hE : AW E layC p l e (rmD 1) ms m args below meth c 4 0 0 (MQc E layC below args ms (some (.int r9)) t9) 32 [] [] t8) : AW E layC p l e (rmD 1) ms m args below meth c 4 0 0 (MQc E layC below args ms (some (.int r9)) t9) 4 [(1, .int a1), (2, .int a2), (3, .int a3)] [] s0 :=
  LX1_isUnder_4 X hlk hr n a2 a3 s0 _ h (fun r he => by cases he) (fun _ he => by cases he; exact hE)
set_option maxHeartbeats 4000000 in
set_option maxRecDepth 100000 in
theorem LX1_isUnder_4_r {l : Launch} {E : EE} {p : Program} {e : Env} {ms : State} {m : MethodId} {args : Array Value} {below : List Frame} {meth : Method} {c : Code} {a1 : Int32} {r9 : Int32} {t9 : St} (X : Cx E layC p ms m args c cX1_isUnder RX1 4) (hlk : meth.locks = false) (hr : meth.sig.returnType = (some .boolean)) (n : Nat) (a2 : Int32) (a3 : Int32) (s0 : St) {r8 : Int32 × St} (h : fX1_isUnder_4 a1 n a2 a3 s0 = some (.inl r8)) (hR : ∀ r, (.inl r8 : (Int32 × St) ⊕ (St)) = .inl r → r = (r9, t9)) : AW E layC p l e (rmD 1) ms m args below meth c 4 0 0 (MQc E layC below args ms (some (.int r9)) t9) 4 [(1, .int a1), (2, .int a2), (3, .int a3)] [] s0 :=
  LX1_isUnder_4 X hlk hr n a2 a3 s0 _ h hR (fun _ he => by cases he)
set_option maxHeartbeats 4000000 in
set_option maxRecDepth 100000 in
theorem ctX1_isUnder {l : Launch} {E : EE} {a0 : Int32} {a1 : Int32} {s0 : St} {r9 : Int32} {t9 : St}  (h : fX1_isUnder a0 a1 s0 = some (r9, t9)) : Ct l E layC yX1_isUnder cX1_isUnder 4 (some .boolean) 1 [.int a0, .int a1] s0 (some (.int r9)) t9 := by
  refine Ct.of (by decide) (Nat.le_of_ble_eq_true rfl) ?_
  intro p e ms m below meth c X hlk hr
  have X : Cx E layC p ms m [.int a0, .int a1].toArray c cX1_isUnder RX1 4 := X
  refine r_sub (L' := [(0, .int a0), (1, .int a1)]) [0, 1] rfl ?_
  unfold fX1_isUnder at h
  refine r_iload_n X dX1_isUnder_0 0 rfl rfl ?_
  refine r_istore_n (L' := [(1, .int a1), (2, .int a0)]) X dX1_isUnder_1 [2, 0] rfl rfl (Nat.le_of_ble_eq_true rfl) ?_
  refine r_iconst X dX1_isUnder_2 (v := 0) (by decide) ?_
  refine r_istore_n (L' := [(1, .int a1), (2, .int a0), (3, .int 0)]) X dX1_isUnder_3 [1, 2, 0] rfl rfl (Nat.le_of_ble_eq_true rfl) ?_
  obtain ⟨o9, eo, ho⟩ := bS1_ok h
  rcases ho with ⟨u8, rfl, h⟩ | ⟨s7, rfl, h⟩
  · exact LX1_isUnder_4_r X hlk hr FU _ _ _ eo (fun r hr1 => by cases hr1; exact Option.some.inj h)
  · refine LX1_isUnder_4_x X hlk hr FU _ _ _ _ eo ?_
    refine r_iconst X dX1_isUnder_32 (v := 0) (by decide) ?_
    exact s_zret X hlk hr (by decide) dX1_isUnder_33 h
/-! J7_fill_031fb -/
theorem nJ7_fill_031fb : yJ7_fill_031fb.cls ≠ "java/lang/invoke/MethodHandle" ∧ yJ7_fill_031fb.cls ≠ "java/lang/invoke/VarHandle" ∧ (parseMethodDescriptor yJ7_fill_031fb.desc).map (fun d => d.parameters.length) = some 2 := by decide +kernel
theorem kJ7_fill_031fb {l : Launch} {E : EE} {p : Program} {e : Env} {ms : State} {m : MethodId} {args : Array Value} {below : List Frame} {meth : Method} {c : Code} {cc : ByteArray} {own : String} {nL pc idx d D : Nat} {Q : State → Prop} {L : List (Nat × Value)} {rest : List Value} {σ τ : St} {k0 : Nat} {a1 : Int32}  (X : Cx E layC p ms m args c cc own nL) (hM : Ct l E layC yJ7_fill_031fb cJ7_fill_031fb 4 none d [.ref (ea E k0), .int a1] σ none τ) (hd : decode cc pc = .ok (.invokestatic idx, 3)) (w1 : Cond.methodLink own idx yJ7_fill_031fb ∈ gw) (hR : d + 1 ≤ D) (hrs : (rest.map fun v => v.category).sum ≤ 8) (k : AW E layC p l e (rmD D) ms m args below meth c nL 0 0 Q (pc + 3) L rest τ) : AW E layC p l e (rmD D) ms m args below meth c nL 0 0 Q pc L (.int a1 :: .ref (ea E k0) :: rest) σ :=
  s_callS X [.ref (ea E k0), .int a1] rest hM hd w1 g_210 g_73 g_211 nJ7_fill_031fb rfl rfl hrs (Nat.le_of_ble_eq_true rfl) hR k
def fJ7_fill_031fb_5 (k0 n0 : Nat) (a1 : Int32) (a3 : Int32) : Nat → Int32 → St → Option (St)
  | 0, _, _ => none
  | n + 1, a2, s0 =>
    if a3 ≤ a2 then
    some s0
    else
    bd1 (bast s0 k0 n0 a2 a1) fun s2 =>
    fJ7_fill_031fb_5 k0 n0 a1 a3 n (a2 + 1) s2
def fJ7_fill_031fb (k0 n0 : Nat) (a1 : Int32) (s0 : St) : Option (St) :=
    bd1 (fJ7_fill_031fb_5 k0 n0 a1 (Int32.ofNat n0) FU 0 s0) fun s4 =>
    some s4
set_option maxHeartbeats 4000000 in
set_option maxRecDepth 100000 in
theorem LJ7_fill_031fb_5 {l : Launch} {E : EE} {p : Program} {e : Env} {ms : State} {m : MethodId} {args : Array Value} {below : List Frame} {meth : Method} {c : Code} {k0 n0 : Nat} {a1 : Int32} {a3 : Int32} {Q : State → Prop} (X : Cx E layC p ms m args c cJ7_fill_031fb RJ7 4) (hk0 : layC[k0]? = some (.inr (1, n0))) : ∀ (n : Nat) (a2 : Int32) (s0 : St)  (t8 : St), fJ7_fill_031fb_5 k0 n0 a1 a3 n a2 s0 = some t8 → AW E layC p l e (rmD 0) ms m args below meth c 4 0 0 Q 20 [] [] t8 → AW E layC p l e (rmD 0) ms m args below meth c 4 0 0 Q 5 [(0, .ref (ea E k0)), (1, .int a1), (2, .int a2), (3, .int a3)] [] s0 := by
  intro n
  induction n with
  | zero =>
    intro a2 s0 t8 h hE
    cases h
  | succ n ih =>
    intro a2 s0 t8 h hE
    rw [fJ7_fill_031fb_5] at h
    refine r_iload_n X dJ7_fill_031fb_5 2 rfl rfl ?_
    refine r_iload_n X dJ7_fill_031fb_6 3 rfl rfl ?_
    refine r_icmp_ge X 20 dJ7_fill_031fb_7 (by decide) (fun c3 => ?_) (fun c3 => ?_)
    · rw [if_pos c3] at h
      refine r_sub (L' := []) [] rfl ?_
      cases h
      exact hE
    · rw [if_neg c3] at h
      refine r_aload_n X dJ7_fill_031fb_10 0 rfl rfl ?_
      refine r_iload_n X dJ7_fill_031fb_11 2 rfl rfl ?_
      refine r_iload_n X dJ7_fill_031fb_12 1 rfl rfl ?_
      obtain ⟨g1, s2, es2, h⟩ := bs_ok h
      refine s_bast X dJ7_fill_031fb_13 hk0 g1 es2 ?_
      refine r_iinc (L' := [(0, .ref (ea E k0)), (1, .int a1), (2, .int (a2 + 1)), (3, .int a3)]) (v := a2 + 1) X dJ7_fill_031fb_14 2 rfl rfl [1, 2, 0, 3] rfl (Nat.le_of_ble_eq_true rfl) ?_
      refine r_goto X 5 dJ7_fill_031fb_17 (by decide) ?_
      exact ih _ _ _ h hE
set_option maxHeartbeats 4000000 in
set_option maxRecDepth 100000 in
theorem ctJ7_fill_031fb {l : Launch} {E : EE} {k0 n0 : Nat} {a1 : Int32} {s0 : St} {t9 : St} (hk0 : layC[k0]? = some (.inr (1, n0))) (h : fJ7_fill_031fb k0 n0 a1 s0 = some t9) : Ct l E layC yJ7_fill_031fb cJ7_fill_031fb 4 none 0 [.ref (ea E k0), .int a1] s0 none t9 := by
  refine Ct.of (by decide) (Nat.le_of_ble_eq_true rfl) ?_
  intro p e ms m below meth c X hlk hr
  have X : Cx E layC p ms m [.ref (ea E k0), .int a1].toArray c cJ7_fill_031fb RJ7 4 := X
  refine r_sub (L' := [(0, .ref (ea E k0)), (1, .int a1)]) [0, 1] rfl ?_
  unfold fJ7_fill_031fb at h
  refine r_iconst X dJ7_fill_031fb_0 (v := 0) (by decide) ?_
  refine r_istore_n (L' := [(0, .ref (ea E k0)), (1, .int a1), (2, .int 0)]) X dJ7_fill_031fb_1 [1, 2, 0] rfl rfl (Nat.le_of_ble_eq_true rfl) ?_
  refine r_aload_n X dJ7_fill_031fb_2 0 rfl rfl ?_
  refine r_alen X dJ7_fill_031fb_3 hk0 ?_
  refine r_istore_n (L' := [(0, .ref (ea E k0)), (1, .int a1), (2, .int 0), (3, .int (Int32.ofNat n0))]) X dJ7_fill_031fb_4 [1, 2, 3, 0] rfl rfl (Nat.le_of_ble_eq_true rfl) ?_
  obtain ⟨s4, eo, h⟩ := bd1_ok h
  refine LJ7_fill_031fb_5 X hk0 FU _ _ _ eo ?_
  exact s_vret X hlk hr dJ7_fill_031fb_20 h
/-! X2_forget -/
theorem nX2_forget : yX2_forget.cls ≠ "java/lang/invoke/MethodHandle" ∧ yX2_forget.cls ≠ "java/lang/invoke/VarHandle" ∧ (parseMethodDescriptor yX2_forget.desc).map (fun d => d.parameters.length) = some 0 := by decide +kernel
theorem kX2_forget {l : Launch} {E : EE} {p : Program} {e : Env} {ms : State} {m : MethodId} {args : Array Value} {below : List Frame} {meth : Method} {c : Code} {cc : ByteArray} {own : String} {nL pc idx d D : Nat} {Q : State → Prop} {L : List (Nat × Value)} {rest : List Value} {σ τ : St}   {fl : List (Option Nat)} (X : Cx E layC p ms m args c cc own nL) (hM : Ct l E layC yX2_forget cX2_forget 1 none d [.ref (ea E 49)] σ none τ) (hd : decode cc pc = .ok (.invokevirtual idx, 3)) (hlay : layC[49]? = some (.inl (1, fl))) (w1 : Cond.methodLink own idx yX2_forget ∈ gw) (hR : d + 1 ≤ D) (hrs : (rest.map fun v => v.category).sum ≤ 8) (k : AW E layC p l e (rmD D) ms m args below meth c nL 0 0 Q (pc + 3) L rest τ) : AW E layC p l e (rmD D) ms m args below meth c nL 0 0 Q pc L (.ref (ea E 49) :: rest) σ :=
  s_callV X [] rest hM hd v_X2 hlay w1 g_510 g_511 g_72 g_512 nX2_forget rfl rfl hrs (Nat.le_of_ble_eq_true rfl) hR k
def fX2_forget  (s0 : St) : Option (St) :=
    bd1 (fJ7_fill_031fb 51 1800 (-1) s0) fun s1 =>
    some s1
set_option maxHeartbeats 4000000 in
set_option maxRecDepth 100000 in
theorem ctX2_forget {l : Launch} {E : EE}  {s0 : St} {t9 : St}  (h : fX2_forget  s0 = some t9) : Ct l E layC yX2_forget cX2_forget 1 none 1 [.ref (ea E 49)] s0 none t9 := by
  refine Ct.of (by decide) (Nat.le_of_ble_eq_true rfl) ?_
  intro p e ms m below meth c X hlk hr
  have X : Cx E layC p ms m [.ref (ea E 49)].toArray c cX2_forget RX2 1 := X
  refine r_sub (L' := [(0, .ref (ea E 49))]) [0] rfl ?_
  unfold fX2_forget at h
  refine r_aload_n X dX2_forget_0 0 rfl rfl ?_
  refine r_getr X dX2_forget_1 i_X2 v_X2 lC_49 3 rfl (Nat.le_of_ble_eq_true rfl) g_215 ?_
  refine r_iconst X dX2_forget_4 (v := (-1)) (by decide) ?_
  obtain ⟨s1, e2, h⟩ := bd1_ok h
  refine kJ7_fill_031fb X (ctJ7_fill_031fb lC_51 e2) dX2_forget_5 g_209 (Nat.le_of_ble_eq_true rfl) (Nat.le_of_ble_eq_true rfl) ?_
  exact s_vret X hlk hr dX2_forget_8 h
/-! X3_sign -/
theorem nX3_sign : yX3_sign.cls ≠ "java/lang/invoke/MethodHandle" ∧ yX3_sign.cls ≠ "java/lang/invoke/VarHandle" ∧ (parseMethodDescriptor yX3_sign.desc).map (fun d => d.parameters.length) = some 0 := by decide +kernel
theorem kX3_sign {l : Launch} {E : EE} {p : Program} {e : Env} {ms : State} {m : MethodId} {args : Array Value} {below : List Frame} {meth : Method} {c : Code} {cc : ByteArray} {own : String} {nL pc idx d D : Nat} {Q : State → Prop} {L : List (Nat × Value)} {rest : List Value} {σ τ : St}  {r : Int32} {fl : List (Option Nat)} (X : Cx E layC p ms m args c cc own nL) (hM : Ct l E layC yX3_sign cX3_sign 1 (some .int) d [.ref (ea E 52)] σ (some (.int r)) τ) (hd : decode cc pc = .ok (.invokevirtual idx, 3)) (hlay : layC[52]? = some (.inl (2, fl))) (w1 : Cond.methodLink own idx yX3_sign ∈ gw) (hR : d + 1 ≤ D) (hrs : (rest.map fun v => v.category).sum ≤ 8) (k : AW E layC p l e (rmD D) ms m args below meth c nL 0 0 Q (pc + 3) L (.int r :: rest) τ) : AW E layC p l e (rmD D) ms m args below meth c nL 0 0 Q pc L (.ref (ea E 52) :: rest) σ :=
  s_callV X [] rest hM hd v_X3 hlay w1 g_475 g_5 g_74 g_476 nX3_sign rfl rfl hrs (Nat.le_of_ble_eq_true rfl) hR k
def fX3_sign  (s0 : St) : Option (Int32 × St) :=
    if (s0 12 1) ≤ (s0 52 3) then
    some ((-1), s0)
    else
    bd1 (ald s0 13 50 (s0 52 3)) fun v2 =>
    some (v2, s0)
set_option maxHeartbeats 4000000 in
set_option maxRecDepth 100000 in
theorem ctX3_sign {l : Launch} {E : EE}  {s0 : St} {r9 : Int32} {t9 : St}  (h : fX3_sign  s0 = some (r9, t9)) : Ct l E layC yX3_sign cX3_sign 1 (some .int) 0 [.ref (ea E 52)] s0 (some (.int r9)) t9 := by
  refine Ct.of (by decide) (Nat.le_of_ble_eq_true rfl) ?_
  intro p e ms m below meth c X hlk hr
  have X : Cx E layC p ms m [.ref (ea E 52)].toArray c cX3_sign RX3 1 := X
  refine r_sub (L' := [(0, .ref (ea E 52))]) [0] rfl ?_
  unfold fX3_sign at h
  refine r_aload_n X dX3_sign_0 0 rfl rfl ?_
  refine r_geti X dX3_sign_1 i_X3 v_X3 lC_52 3 rfl (Nat.le_of_ble_eq_true rfl) g_238 ?_
  refine r_aload_n X dX3_sign_4 0 rfl rfl ?_
  refine r_getr X dX3_sign_5 i_X3 v_X3 lC_52 1 rfl (Nat.le_of_ble_eq_true rfl) g_236 ?_
  refine r_geti X dX3_sign_8 i_X4 v_X4 lC_12 1 rfl (Nat.le_of_ble_eq_true rfl) g_167 ?_
  refine r_icmp_ge X 29 dX3_sign_11 (by decide) (fun c3 => ?_) (fun c3 => ?_)
  · rw [if_pos c3] at h
    refine r_iconst X dX3_sign_29 (v := (-1)) (by decide) ?_
    exact s_iret X hlk hr dX3_sign_30 h
  · rw [if_neg c3] at h
    refine r_aload_n X dX3_sign_14 0 rfl rfl ?_
    refine r_getr X dX3_sign_15 i_X3 v_X3 lC_52 1 rfl (Nat.le_of_ble_eq_true rfl) g_236 ?_
    refine r_getr X dX3_sign_18 i_X4 v_X4 lC_12 0 rfl (Nat.le_of_ble_eq_true rfl) g_163 ?_
    refine r_aload_n X dX3_sign_21 0 rfl rfl ?_
    refine r_geti X dX3_sign_22 i_X3 v_X3 lC_52 3 rfl (Nat.le_of_ble_eq_true rfl) g_238 ?_
    obtain ⟨g1, v2, ev2, h⟩ := ld_ok h
    refine s_iald X dX3_sign_25 lC_13 g1 ev2 ?_
    refine r_goto X 30 dX3_sign_26 (by decide) ?_
    exact s_iret X hlk hr dX3_sign_30 h
/-! X3_stands -/
theorem nX3_stands : yX3_stands.cls ≠ "java/lang/invoke/MethodHandle" ∧ yX3_stands.cls ≠ "java/lang/invoke/VarHandle" ∧ (parseMethodDescriptor yX3_stands.desc).map (fun d => d.parameters.length) = some 1 := by decide +kernel
theorem kX3_stands {l : Launch} {E : EE} {p : Program} {e : Env} {ms : State} {m : MethodId} {args : Array Value} {below : List Frame} {meth : Method} {c : Code} {cc : ByteArray} {own : String} {nL pc idx d D : Nat} {Q : State → Prop} {L : List (Nat × Value)} {rest : List Value} {σ τ : St} {a1 : Int32} {r : Int32} {fl : List (Option Nat)} (X : Cx E layC p ms m args c cc own nL) (hM : Ct l E layC yX3_stands cX3_stands 2 (some .boolean) d [.ref (ea E 52), .int a1] σ (some (.int r)) τ) (hd : decode cc pc = .ok (.invokevirtual idx, 3)) (hlay : layC[52]? = some (.inl (2, fl))) (w1 : Cond.methodLink own idx yX3_stands ∈ gw) (hR : d + 1 ≤ D) (hrs : (rest.map fun v => v.category).sum ≤ 8) (k : AW E layC p l e (rmD D) ms m args below meth c nL 0 0 Q (pc + 3) L (.int r :: rest) τ) : AW E layC p l e (rmD D) ms m args below meth c nL 0 0 Q pc L (.int a1 :: .ref (ea E 52) :: rest) σ :=
  s_callV X [.int a1] rest hM hd v_X3 hlay w1 g_471 g_4 g_74 g_472 nX3_stands rfl rfl hrs (Nat.le_of_ble_eq_true rfl) hR k
def fX3_stands (a1 : Int32) (s0 : St) : Option (Int32 × St) :=
    jn (fun (s1 : St) =>
    some (0, s1)) fun j19 =>
    if (s0 52 4) = 0 then
    bd2 (fX3_sign  s0) fun u4 s2 =>
    if u4 = a1 then
    some (1, s2)
    else
    j19 s2
    else
    j19 s0
set_option maxHeartbeats 4000000 in
set_option maxRecDepth 100000 in
theorem ctX3_stands {l : Launch} {E : EE} {a1 : Int32} {s0 : St} {r9 : Int32} {t9 : St}  (h : fX3_stands a1 s0 = some (r9, t9)) : Ct l E layC yX3_stands cX3_stands 2 (some .boolean) 1 [.ref (ea E 52), .int a1] s0 (some (.int r9)) t9 := by
  refine Ct.of (by decide) (Nat.le_of_ble_eq_true rfl) ?_
  intro p e ms m below meth c X hlk hr
  have X : Cx E layC p ms m [.ref (ea E 52), .int a1].toArray c cX3_stands RX3 2 := X
  refine r_sub (L' := [(0, .ref (ea E 52)), (1, .int a1)]) [0, 1] rfl ?_
  unfold fX3_stands at h
  refine r_aload_n X dX3_stands_0 0 rfl rfl ?_
  refine r_geti X dX3_stands_1 i_X3 v_X3 lC_52 4 rfl (Nat.le_of_ble_eq_true rfl) g_239 ?_
  obtain ⟨j19, ej19, h⟩ := jn1_ok h
  have hj19 : ∀ (s1 : St), j19 s1 = some (r9, t9) → AW E layC p l e (rmD 1) ms m [.ref (ea E 52), .int a1].toArray below meth c 2 0 0 (MQc E layC below [.ref (ea E 52), .int a1].toArray ms (some (.int r9)) t9) 19 [] [] s1 := by
    intro s1 h
    rw [ej19] at h
    refine r_iconst X dX3_stands_19 (v := 0) (by decide) ?_
    exact s_zret X hlk hr (by decide) dX3_stands_20 h
  refine r_if_ne X 19 dX3_stands_4 (by decide) (fun c6 => ?_) (fun c6 => ?_)
  · rw [if_neg c6] at h
    refine r_sub (L' := []) [] rfl ?_
    exact hj19 _ h
  · rw [if_pos c6] at h
    refine r_aload_n X dX3_stands_7 0 rfl rfl ?_
    obtain ⟨u4, s2, e3, h⟩ := bd2_ok h
    refine kX3_sign X (ctX3_sign e3) dX3_stands_8 lC_52 g_473 (Nat.le_of_ble_eq_true rfl) (Nat.le_of_ble_eq_true rfl) ?_
    refine r_iload_n X dX3_stands_11 1 rfl rfl ?_
    refine r_icmp_ne X 19 dX3_stands_12 (by decide) (fun c5 => ?_) (fun c5 => ?_)
    · rw [if_neg c5] at h
      refine r_sub (L' := []) [] rfl ?_
      exact hj19 _ h
    · rw [if_pos c5] at h
      refine r_iconst X dX3_stands_15 (v := 1) (by decide) ?_
      refine r_goto X 20 dX3_stands_16 (by decide) ?_
      exact s_zret X hlk hr (by decide) dX3_stands_20 h
/-! X4_add -/
theorem nX4_add : yX4_add.cls ≠ "java/lang/invoke/MethodHandle" ∧ yX4_add.cls ≠ "java/lang/invoke/VarHandle" ∧ (parseMethodDescriptor yX4_add.desc).map (fun d => d.parameters.length) = some 1 := by decide +kernel
theorem kX4_add {l : Launch} {E : EE} {p : Program} {e : Env} {ms : State} {m : MethodId} {args : Array Value} {below : List Frame} {meth : Method} {c : Code} {cc : ByteArray} {own : String} {nL pc idx d D : Nat} {Q : State → Prop} {L : List (Nat × Value)} {rest : List Value} {σ τ : St} {b0 : Nat} {a1 : Int32}  {fl : List (Option Nat)} (X : Cx E layC p ms m args c cc own nL) (hM : Ct l E layC yX4_add cX4_add 2 none d [.ref (ea E b0), .int a1] σ none τ) (hd : decode cc pc = .ok (.invokevirtual idx, 3)) (hlay : layC[b0]? = some (.inl (3, fl))) (w1 : Cond.methodLink own idx yX4_add ∈ gw) (hR : d + 1 ≤ D) (hrs : (rest.map fun v => v.category).sum ≤ 8) (k : AW E layC p l e (rmD D) ms m args below meth c nL 0 0 Q (pc + 3) L rest τ) : AW E layC p l e (rmD D) ms m args below meth c nL 0 0 Q pc L (.int a1 :: .ref (ea E b0) :: rest) σ :=
  s_callV X [.int a1] rest hM hd v_X4 hlay w1 g_450 g_451 g_70 g_452 nX4_add rfl rfl hrs (Nat.le_of_ble_eq_true rfl) hR k
def fX4_add (b0 : Nat) (a1 : Int32) (s0 : St) : Option (St) :=
    if (Int32.ofNat (rl b0)) ≤ (s0 b0 1) then
    some s0
    else
    bd1 (ast s0 (b0 + 1) (rl b0) (s0 b0 1) a1) fun s2 =>
    bd1 (ptf s2 b0 1 ((s2 b0 1) + 1)) fun s3 =>
    some s3
set_option maxHeartbeats 4000000 in
set_option maxRecDepth 100000 in
theorem ctX4_add {l : Launch} {E : EE} {b0 : Nat} {a1 : Int32} {s0 : St} {t9 : St} (hb0 : isR b0) (h : fX4_add b0 a1 s0 = some t9) : Ct l E layC yX4_add cX4_add 2 none 0 [.ref (ea E b0), .int a1] s0 none t9 := by
  refine Ct.of (by decide) (Nat.le_of_ble_eq_true rfl) ?_
  intro p e ms m below meth c X hlk hr
  have X : Cx E layC p ms m [.ref (ea E b0), .int a1].toArray c cX4_add RX4 2 := X
  refine r_sub (L' := [(0, .ref (ea E b0)), (1, .int a1)]) [0, 1] rfl ?_
  unfold fX4_add at h
  refine r_aload_n X dX4_add_0 0 rfl rfl ?_
  refine r_geti X dX4_add_1 i_X4 v_X4 (lR0 hb0) 1 rfl (Nat.le_of_ble_eq_true rfl) g_166 ?_
  refine r_aload_n X dX4_add_4 0 rfl rfl ?_
  refine r_getr X dX4_add_5 i_X4 v_X4 (lR0 hb0) 0 rfl (Nat.le_of_ble_eq_true rfl) g_162 ?_
  refine r_alen X dX4_add_8 (lR1 hb0) ?_
  refine r_icmp_ge X 32 dX4_add_9 (by decide) (fun c4 => ?_) (fun c4 => ?_)
  · rw [if_pos c4] at h
    exact s_vret X hlk hr dX4_add_32 h
  · rw [if_neg c4] at h
    refine r_aload_n X dX4_add_12 0 rfl rfl ?_
    refine r_getr X dX4_add_13 i_X4 v_X4 (lR0 hb0) 0 rfl (Nat.le_of_ble_eq_true rfl) g_162 ?_
    refine r_aload_n X dX4_add_16 0 rfl rfl ?_
    refine r_geti X dX4_add_17 i_X4 v_X4 (lR0 hb0) 1 rfl (Nat.le_of_ble_eq_true rfl) g_166 ?_
    refine r_iload_n X dX4_add_20 1 rfl rfl ?_
    obtain ⟨g1, s2, es2, h⟩ := as_ok h
    refine s_iast X dX4_add_21 (lR1 hb0) g1 es2 ?_
    refine r_aload_n X dX4_add_22 0 rfl rfl ?_
    refine r_dup X dX4_add_23 rfl ?_
    refine r_geti X dX4_add_24 i_X4 v_X4 (lR0 hb0) 1 rfl (Nat.le_of_ble_eq_true rfl) g_166 ?_
    refine r_iconst X dX4_add_27 (v := 1) (by decide) ?_
    refine r_iadd X dX4_add_28 ?_
    obtain ⟨s3, es3, h⟩ := pt_ok h
    refine s_puti X dX4_add_29 i_X4 tyX4_ok nmX4 v_X4 (lR0 hb0) 1 rfl (Nat.le_of_ble_eq_true rfl) g_166 rfl rfl ⟨rfl, rfl⟩ es3 ?_
    exact s_vret X hlk hr dX4_add_32 h
/-! X3_isDigit -/
theorem nX3_isDigit : yX3_isDigit.cls ≠ "java/lang/invoke/MethodHandle" ∧ yX3_isDigit.cls ≠ "java/lang/invoke/VarHandle" ∧ (parseMethodDescriptor yX3_isDigit.desc).map (fun d => d.parameters.length) = some 0 := by decide +kernel
theorem kX3_isDigit {l : Launch} {E : EE} {p : Program} {e : Env} {ms : State} {m : MethodId} {args : Array Value} {below : List Frame} {meth : Method} {c : Code} {cc : ByteArray} {own : String} {nL pc idx d D : Nat} {Q : State → Prop} {L : List (Nat × Value)} {rest : List Value} {σ τ : St}  {r : Int32} {fl : List (Option Nat)} (X : Cx E layC p ms m args c cc own nL) (hM : Ct l E layC yX3_isDigit cX3_isDigit 1 (some .boolean) d [.ref (ea E 52)] σ (some (.int r)) τ) (hd : decode cc pc = .ok (.invokevirtual idx, 3)) (hlay : layC[52]? = some (.inl (2, fl))) (w1 : Cond.methodLink own idx yX3_isDigit ∈ gw) (hR : d + 1 ≤ D) (hrs : (rest.map fun v => v.category).sum ≤ 8) (k : AW E layC p l e (rmD D) ms m args below meth c nL 0 0 Q (pc + 3) L (.int r :: rest) τ) : AW E layC p l e (rmD D) ms m args below meth c nL 0 0 Q pc L (.ref (ea E 52) :: rest) σ :=
  s_callV X [] rest hM hd v_X3 hlay w1 g_484 g_7 g_74 g_485 nX3_isDigit rfl rfl hrs (Nat.le_of_ble_eq_true rfl) hR k
def fX3_isDigit  (s0 : St) : Option (Int32 × St) :=
    bd2 (fX3_sign  s0) fun u3 s1 =>
    jn (fun (s4 : St) =>
    some (0, s4)) fun j22 =>
    if u3 < 48 then
    j22 s1
    else
    bd2 (fX3_sign  s1) fun u7 s5 =>
    if 57 < u7 then
    j22 s5
    else
    some (1, s5)
set_option maxHeartbeats 4000000 in
set_option maxRecDepth 100000 in
theorem ctX3_isDigit {l : Launch} {E : EE}  {s0 : St} {r9 : Int32} {t9 : St}  (h : fX3_isDigit  s0 = some (r9, t9)) : Ct l E layC yX3_isDigit cX3_isDigit 1 (some .boolean) 1 [.ref (ea E 52)] s0 (some (.int r9)) t9 := by
  refine Ct.of (by decide) (Nat.le_of_ble_eq_true rfl) ?_
  intro p e ms m below meth c X hlk hr
  have X : Cx E layC p ms m [.ref (ea E 52)].toArray c cX3_isDigit RX3 1 := X
  refine r_sub (L' := [(0, .ref (ea E 52))]) [0] rfl ?_
  unfold fX3_isDigit at h
  refine r_aload_n X dX3_isDigit_0 0 rfl rfl ?_
  obtain ⟨u3, s1, e2, h⟩ := bd2_ok h
  refine kX3_sign X (ctX3_sign e2) dX3_isDigit_1 lC_52 g_473 (Nat.le_of_ble_eq_true rfl) (Nat.le_of_ble_eq_true rfl) ?_
  refine r_bipush X dX3_isDigit_4 (v := 48) (by decide) ?_
  obtain ⟨j22, ej22, h⟩ := jn1_ok h
  have hj22 : ∀ (s4 : St), j22 s4 = some (r9, t9) → AW E layC p l e (rmD 1) ms m [.ref (ea E 52)].toArray below meth c 1 0 0 (MQc E layC below [.ref (ea E 52)].toArray ms (some (.int r9)) t9) 22 [] [] s4 := by
    intro s4 h
    rw [ej22] at h
    refine r_iconst X dX3_isDigit_22 (v := 0) (by decide) ?_
    exact s_zret X hlk hr (by decide) dX3_isDigit_23 h
  refine r_icmp_lt X 22 dX3_isDigit_6 (by decide) (fun c9 => ?_) (fun c9 => ?_)
  · rw [if_pos c9] at h
    refine r_sub (L' := []) [] rfl ?_
    exact hj22 _ h
  · rw [if_neg c9] at h
    refine r_aload_n X dX3_isDigit_9 0 rfl rfl ?_
    obtain ⟨u7, s5, e6, h⟩ := bd2_ok h
    refine kX3_sign X (ctX3_sign e6) dX3_isDigit_10 lC_52 g_473 (Nat.le_of_ble_eq_true rfl) (Nat.le_of_ble_eq_true rfl) ?_
    refine r_bipush X dX3_isDigit_13 (v := 57) (by decide) ?_
    refine r_icmp_gt X 22 dX3_isDigit_15 (by decide) (fun c8 => ?_) (fun c8 => ?_)
    · rw [if_pos c8] at h
      refine r_sub (L' := []) [] rfl ?_
      exact hj22 _ h
    · rw [if_neg c8] at h
      refine r_iconst X dX3_isDigit_18 (v := 1) (by decide) ?_
      refine r_goto X 23 dX3_isDigit_19 (by decide) ?_
      exact s_zret X hlk hr (by decide) dX3_isDigit_23 h
/-! X3_readNumber -/
theorem nX3_readNumber : yX3_readNumber.cls ≠ "java/lang/invoke/MethodHandle" ∧ yX3_readNumber.cls ≠ "java/lang/invoke/VarHandle" ∧ (parseMethodDescriptor yX3_readNumber.desc).map (fun d => d.parameters.length) = some 0 := by decide +kernel
theorem kX3_readNumber {l : Launch} {E : EE} {p : Program} {e : Env} {ms : State} {m : MethodId} {args : Array Value} {below : List Frame} {meth : Method} {c : Code} {cc : ByteArray} {own : String} {nL pc idx d D : Nat} {Q : State → Prop} {L : List (Nat × Value)} {rest : List Value} {σ τ : St}   {fl : List (Option Nat)} (X : Cx E layC p ms m args c cc own nL) (hM : Ct l E layC yX3_readNumber cX3_readNumber 3 none d [.ref (ea E 52)] σ none τ) (hd : decode cc pc = .ok (.invokevirtual idx, 3)) (hlay : layC[52]? = some (.inl (2, fl))) (w1 : Cond.methodLink own idx yX3_readNumber ∈ gw) (hR : d + 1 ≤ D) (hrs : (rest.map fun v => v.category).sum ≤ 8) (k : AW E layC p l e (rmD D) ms m args below meth c nL 0 0 Q (pc + 3) L rest τ) : AW E layC p l e (rmD D) ms m args below meth c nL 0 0 Q pc L (.ref (ea E 52) :: rest) σ :=
  s_callV X [] rest hM hd v_X3 hlay w1 g_488 g_8 g_74 g_489 nX3_readNumber rfl rfl hrs (Nat.le_of_ble_eq_true rfl) hR k
def fX3_readNumber_4  : Nat → Int32 → Int32 → St → Option (Int32 × St)
  | 0, _, _, _ => none
  | n + 1, a1, a2, s0 =>
    if 4 ≤ a2 then
    some (a1, s0)
    else
    bd2 (fX3_isDigit  s0) fun u3 s1 =>
    if u3 = 0 then
    some (a1, s1)
    else
    bd2 (fX3_sign  s1) fun u6 s4 =>
    bd1 (ptf s4 52 3 ((s4 52 3) + 1)) fun s7 =>
    fX3_readNumber_4 n (((a1 * 10) + u6) - 48) (a2 + 1) s7
def fX3_readNumber  (s0 : St) : Option (St) :=
    bd2 (fX3_readNumber_4 FU 0 0 s0) fun v11 s10 =>
    bd1 (fX4_add 53 v11 s10) fun s12 =>
    some s12
set_option maxHeartbeats 4000000 in
set_option maxRecDepth 100000 in
theorem LX3_readNumber_4 {l : Launch} {E : EE} {p : Program} {e : Env} {ms : State} {m : MethodId} {args : Array Value} {below : List Frame} {meth : Method} {c : Code}  {Q : State → Prop} (X : Cx E layC p ms m args c cX3_readNumber RX3 3) : ∀ (n : Nat) (a1 : Int32) (a2 : Int32) (s0 : St) (q1 : Int32) (t8 : St), fX3_readNumber_4 n a1 a2 s0 = some (q1, t8) → AW E layC p l e (rmD 2) ms m args below meth c 3 0 0 Q 45 [(0, .ref (ea E 52)), (1, .int q1)] [] t8 → AW E layC p l e (rmD 2) ms m args below meth c 3 0 0 Q 4 [(0, .ref (ea E 52)), (1, .int a1), (2, .int a2)] [] s0 := by
  intro n
  induction n with
  | zero =>
    intro a1 a2 s0 q1 t8 h hE
    cases h
  | succ n ih =>
    intro a1 a2 s0 q1 t8 h hE
    rw [fX3_readNumber_4] at h
    refine r_iload_n X dX3_readNumber_4 2 rfl rfl ?_
    refine r_iconst X dX3_readNumber_5 (v := 4) (by decide) ?_
    refine r_icmp_ge X 45 dX3_readNumber_6 (by decide) (fun c9 => ?_) (fun c9 => ?_)
    · rw [if_pos c9] at h
      refine r_sub (L' := [(0, .ref (ea E 52)), (1, .int a1)]) [0, 1] rfl ?_
      cases h
      exact hE
    · rw [if_neg c9] at h
      refine r_aload_n X dX3_readNumber_9 0 rfl rfl ?_
      obtain ⟨u3, s1, e2, h⟩ := bd2_ok h
      refine kX3_isDigit X (ctX3_isDigit e2) dX3_readNumber_10 lC_52 g_482 (Nat.le_of_ble_eq_true rfl) (Nat.le_of_ble_eq_true rfl) ?_
      refine r_if_eq X 45 dX3_readNumber_13 (by decide) (fun c8 => ?_) (fun c8 => ?_)
      · rw [if_pos c8] at h
        refine r_sub (L' := [(0, .ref (ea E 52)), (1, .int a1)]) [0, 1] rfl ?_
        cases h
        exact hE
      · rw [if_neg c8] at h
        refine r_iload_n X dX3_readNumber_16 1 rfl rfl ?_
        refine r_bipush X dX3_readNumber_17 (v := 10) (by decide) ?_
        refine r_imul X dX3_readNumber_19 ?_
        refine r_aload_n X dX3_readNumber_20 0 rfl rfl ?_
        obtain ⟨u6, s4, e5, h⟩ := bd2_ok h
        refine kX3_sign X (ctX3_sign e5) dX3_readNumber_21 lC_52 g_473 (Nat.le_of_ble_eq_true rfl) (Nat.le_of_ble_eq_true rfl) ?_
        refine r_iadd X dX3_readNumber_24 ?_
        refine r_bipush X dX3_readNumber_25 (v := 48) (by decide) ?_
        refine r_isub X dX3_readNumber_27 ?_
        refine r_istore_n (L' := [(0, .ref (ea E 52)), (1, .int (((a1 * 10) + u6) - 48)), (2, .int a2)]) X dX3_readNumber_28 [1, 0, 2] rfl rfl (Nat.le_of_ble_eq_true rfl) ?_
        refine r_aload_n X dX3_readNumber_29 0 rfl rfl ?_
        refine r_dup X dX3_readNumber_30 rfl ?_
        refine r_geti X dX3_readNumber_31 i_X3 v_X3 lC_52 3 rfl (Nat.le_of_ble_eq_true rfl) g_238 ?_
        refine r_iconst X dX3_readNumber_34 (v := 1) (by decide) ?_
        refine r_iadd X dX3_readNumber_35 ?_
        obtain ⟨s7, es7, h⟩ := pt_ok h
        refine s_puti X dX3_readNumber_36 i_X3 tyX3_ok nmX3 v_X3 lC_52 3 rfl (Nat.le_of_ble_eq_true rfl) g_238 rfl rfl ⟨rfl, rfl⟩ es7 ?_
        refine r_iinc (L' := [(0, .ref (ea E 52)), (1, .int (((a1 * 10) + u6) - 48)), (2, .int (a2 + 1))]) (v := a2 + 1) X dX3_readNumber_39 2 rfl rfl [1, 2, 0] rfl (Nat.le_of_ble_eq_true rfl) ?_
        refine r_goto X 4 dX3_readNumber_42 (by decide) ?_
        exact ih _ _ _ _ _ h hE
set_option maxHeartbeats 4000000 in
set_option maxRecDepth 100000 in
theorem ctX3_readNumber {l : Launch} {E : EE}  {s0 : St} {t9 : St}  (h : fX3_readNumber  s0 = some t9) : Ct l E layC yX3_readNumber cX3_readNumber 3 none 2 [.ref (ea E 52)] s0 none t9 := by
  refine Ct.of (by decide) (Nat.le_of_ble_eq_true rfl) ?_
  intro p e ms m below meth c X hlk hr
  have X : Cx E layC p ms m [.ref (ea E 52)].toArray c cX3_readNumber RX3 3 := X
  refine r_sub (L' := [(0, .ref (ea E 52))]) [0] rfl ?_
  unfold fX3_readNumber at h
  refine r_iconst X dX3_readNumber_0 (v := 0) (by decide) ?_
  refine r_istore_n (L' := [(0, .ref (ea E 52)), (1, .int 0)]) X dX3_readNumber_1 [1, 0] rfl rfl (Nat.le_of_ble_eq_true rfl) ?_
  refine r_iconst X dX3_readNumber_2 (v := 0) (by decide) ?_
  refine r_istore_n (L' := [(0, .ref (ea E 52)), (1, .int 0), (2, .int 0)]) X dX3_readNumber_3 [1, 2, 0] rfl rfl (Nat.le_of_ble_eq_true rfl) ?_
  obtain ⟨v11, s10, eo, h⟩ := bd2_ok h
  refine LX3_readNumber_4 X FU _ _ _ _ _ eo ?_
  refine r_aload_n X dX3_readNumber_45 0 rfl rfl ?_
  refine r_getr X dX3_readNumber_46 i_X3 v_X3 lC_52 0 rfl (Nat.le_of_ble_eq_true rfl) g_234 ?_
  refine r_iload_n X dX3_readNumber_49 1 rfl rfl ?_
  obtain ⟨s12, e13, h⟩ := bd1_ok h
  refine kX4_add X (ctX4_add hR_53 e13) dX3_readNumber_50 lC_53 g_481 (Nat.le_of_ble_eq_true rfl) (Nat.le_of_ble_eq_true rfl) ?_
  exact s_vret X hlk hr dX3_readNumber_53 h
/-! X3_readName -/
theorem nX3_readName : yX3_readName.cls ≠ "java/lang/invoke/MethodHandle" ∧ yX3_readName.cls ≠ "java/lang/invoke/VarHandle" ∧ (parseMethodDescriptor yX3_readName.desc).map (fun d => d.parameters.length) = some 0 := by decide +kernel
theorem kX3_readName {l : Launch} {E : EE} {p : Program} {e : Env} {ms : State} {m : MethodId} {args : Array Value} {below : List Frame} {meth : Method} {c : Code} {cc : ByteArray} {own : String} {nL pc idx d D : Nat} {Q : State → Prop} {L : List (Nat × Value)} {rest : List Value} {σ τ : St}   {fl : List (Option Nat)} (X : Cx E layC p ms m args c cc own nL) (hM : Ct l E layC yX3_readName cX3_readName 1 none d [.ref (ea E 52)] σ none τ) (hd : decode cc pc = .ok (.invokevirtual idx, 3)) (hlay : layC[52]? = some (.inl (2, fl))) (w1 : Cond.methodLink own idx yX3_readName ∈ gw) (hR : d + 1 ≤ D) (hrs : (rest.map fun v => v.category).sum ≤ 8) (k : AW E layC p l e (rmD D) ms m args below meth c nL 0 0 Q (pc + 3) L rest τ) : AW E layC p l e (rmD D) ms m args below meth c nL 0 0 Q pc L (.ref (ea E 52) :: rest) σ :=
  s_callV X [] rest hM hd v_X3 hlay w1 g_492 g_9 g_74 g_493 nX3_readName rfl rfl hrs (Nat.le_of_ble_eq_true rfl) hR k
def fX3_readName  (s0 : St) : Option (St) :=
    jn (fun (w1 : Int32) =>
    bd2 (fX3_stands w1 s0) fun u4 s2 =>
    jn (fun (s5 : St) =>
    bd1 (ptf s5 52 3 ((s5 52 3) + 1)) fun s6 =>
    some s6) fun j80 =>
    if u4 = 0 then
    bd2 (fX3_stands 115 s2) fun u9 s7 =>
    if u9 = 0 then
    bd2 (fX3_stands 103 s7) fun u12 s10 =>
    if u12 = 0 then
    bd1 (ptf s10 52 4 1) fun s13 =>
    some s13
    else
    bd1 (fX4_add 53 (-3) s10) fun s14 =>
    j80 s14
    else
    bd1 (fX4_add 53 (-2) s7) fun s17 =>
    j80 s17
    else
    bd1 (fX4_add 53 (-1) s2) fun s20 =>
    j80 s20) fun j15 =>
    if (s0 52 2) = 0 then
    j15 108
    else
    j15 101
set_option maxHeartbeats 4000000 in
set_option maxRecDepth 100000 in
theorem ctX3_readName {l : Launch} {E : EE}  {s0 : St} {t9 : St}  (h : fX3_readName  s0 = some t9) : Ct l E layC yX3_readName cX3_readName 1 none 2 [.ref (ea E 52)] s0 none t9 := by
  refine Ct.of (by decide) (Nat.le_of_ble_eq_true rfl) ?_
  intro p e ms m below meth c X hlk hr
  have X : Cx E layC p ms m [.ref (ea E 52)].toArray c cX3_readName RX3 1 := X
  refine r_sub (L' := [(0, .ref (ea E 52))]) [0] rfl ?_
  unfold fX3_readName at h
  refine r_aload_n X dX3_readName_0 0 rfl rfl ?_
  refine r_aload_n X dX3_readName_1 0 rfl rfl ?_
  refine r_geti X dX3_readName_2 i_X3 v_X3 lC_52 2 rfl (Nat.le_of_ble_eq_true rfl) g_237 ?_
  obtain ⟨j15, ej15, h⟩ := jn1_ok h
  have hj15 : ∀ (w1 : Int32), j15 w1 = some t9 → AW E layC p l e (rmD 2) ms m [.ref (ea E 52)].toArray below meth c 1 0 0 (MQc E layC below [.ref (ea E 52)].toArray ms none t9) 15 [(0, .ref (ea E 52))] [.int w1, .ref (ea E 52)] s0 := by
    intro w1 h
    rw [ej15] at h
    obtain ⟨u4, s2, e3, h⟩ := bd2_ok h
    refine kX3_stands X (ctX3_stands e3) dX3_readName_15 lC_52 g_469 (Nat.le_of_ble_eq_true rfl) (Nat.le_of_ble_eq_true rfl) ?_
    obtain ⟨j80, ej80, h⟩ := jn1_ok h
    have hj80 : ∀ (s5 : St), j80 s5 = some t9 → AW E layC p l e (rmD 2) ms m [.ref (ea E 52)].toArray below meth c 1 0 0 (MQc E layC below [.ref (ea E 52)].toArray ms none t9) 80 [(0, .ref (ea E 52))] [] s5 := by
      intro s5 h
      rw [ej80] at h
      refine r_aload_n X dX3_readName_80 0 rfl rfl ?_
      refine r_dup X dX3_readName_81 rfl ?_
      refine r_geti X dX3_readName_82 i_X3 v_X3 lC_52 3 rfl (Nat.le_of_ble_eq_true rfl) g_238 ?_
      refine r_iconst X dX3_readName_85 (v := 1) (by decide) ?_
      refine r_iadd X dX3_readName_86 ?_
      obtain ⟨s6, es6, h⟩ := pt_ok h
      refine s_puti X dX3_readName_87 i_X3 tyX3_ok nmX3 v_X3 lC_52 3 rfl (Nat.le_of_ble_eq_true rfl) g_238 rfl rfl ⟨rfl, rfl⟩ es6 ?_
      exact s_vret X hlk hr dX3_readName_90 h
    refine r_if_eq X 32 dX3_readName_18 (by decide) (fun c22 => ?_) (fun c22 => ?_)
    · rw [if_pos c22] at h
      refine r_aload_n X dX3_readName_32 0 rfl rfl ?_
      refine r_bipush X dX3_readName_33 (v := 115) (by decide) ?_
      obtain ⟨u9, s7, e8, h⟩ := bd2_ok h
      refine kX3_stands X (ctX3_stands e8) dX3_readName_35 lC_52 g_469 (Nat.le_of_ble_eq_true rfl) (Nat.le_of_ble_eq_true rfl) ?_
      refine r_if_eq X 53 dX3_readName_38 (by decide) (fun c19 => ?_) (fun c19 => ?_)
      · rw [if_pos c19] at h
        refine r_aload_n X dX3_readName_53 0 rfl rfl ?_
        refine r_bipush X dX3_readName_54 (v := 103) (by decide) ?_
        obtain ⟨u12, s10, e11, h⟩ := bd2_ok h
        refine kX3_stands X (ctX3_stands e11) dX3_readName_56 lC_52 g_469 (Nat.le_of_ble_eq_true rfl) (Nat.le_of_ble_eq_true rfl) ?_
        refine r_if_eq X 74 dX3_readName_59 (by decide) (fun c16 => ?_) (fun c16 => ?_)
        · rw [if_pos c16] at h
          refine r_aload_n X dX3_readName_74 0 rfl rfl ?_
          refine r_iconst X dX3_readName_75 (v := 1) (by decide) ?_
          obtain ⟨s13, es13, h⟩ := pt_ok h
          refine s_puti X dX3_readName_76 i_X3 tyX3_ok nmX3 v_X3 lC_52 4 rfl (Nat.le_of_ble_eq_true rfl) g_239 rfl rfl (by decide) es13 ?_
          exact s_vret X hlk hr dX3_readName_79 h
        · rw [if_neg c16] at h
          refine r_aload_n X dX3_readName_62 0 rfl rfl ?_
          refine r_getr X dX3_readName_63 i_X3 v_X3 lC_52 0 rfl (Nat.le_of_ble_eq_true rfl) g_234 ?_
          refine r_bipush X dX3_readName_66 (v := (-3)) (by decide) ?_
          obtain ⟨s14, e15, h⟩ := bd1_ok h
          refine kX4_add X (ctX4_add hR_53 e15) dX3_readName_68 lC_53 g_481 (Nat.le_of_ble_eq_true rfl) (Nat.le_of_ble_eq_true rfl) ?_
          refine r_goto X 80 dX3_readName_71 (by decide) ?_
          exact hj80 _ h
      · rw [if_neg c19] at h
        refine r_aload_n X dX3_readName_41 0 rfl rfl ?_
        refine r_getr X dX3_readName_42 i_X3 v_X3 lC_52 0 rfl (Nat.le_of_ble_eq_true rfl) g_234 ?_
        refine r_bipush X dX3_readName_45 (v := (-2)) (by decide) ?_
        obtain ⟨s17, e18, h⟩ := bd1_ok h
        refine kX4_add X (ctX4_add hR_53 e18) dX3_readName_47 lC_53 g_481 (Nat.le_of_ble_eq_true rfl) (Nat.le_of_ble_eq_true rfl) ?_
        refine r_goto X 80 dX3_readName_50 (by decide) ?_
        exact hj80 _ h
    · rw [if_neg c22] at h
      refine r_aload_n X dX3_readName_21 0 rfl rfl ?_
      refine r_getr X dX3_readName_22 i_X3 v_X3 lC_52 0 rfl (Nat.le_of_ble_eq_true rfl) g_234 ?_
      refine r_iconst X dX3_readName_25 (v := (-1)) (by decide) ?_
      obtain ⟨s20, e21, h⟩ := bd1_ok h
      refine kX4_add X (ctX4_add hR_53 e21) dX3_readName_26 lC_53 g_481 (Nat.le_of_ble_eq_true rfl) (Nat.le_of_ble_eq_true rfl) ?_
      refine r_goto X 80 dX3_readName_29 (by decide) ?_
      exact hj80 _ h
  refine r_if_ne X 13 dX3_readName_5 (by decide) (fun c23 => ?_) (fun c23 => ?_)
  · rw [if_neg c23] at h
    refine r_bipush X dX3_readName_13 (v := 101) (by decide) ?_
    exact hj15 _ h
  · rw [if_pos c23] at h
    refine r_bipush X dX3_readName_8 (v := 108) (by decide) ?_
    refine r_goto X 15 dX3_readName_10 (by decide) ?_
    exact hj15 _ h
/-! X3_levelOf -/
theorem nX3_levelOf : yX3_levelOf.cls ≠ "java/lang/invoke/MethodHandle" ∧ yX3_levelOf.cls ≠ "java/lang/invoke/VarHandle" ∧ (parseMethodDescriptor yX3_levelOf.desc).map (fun d => d.parameters.length) = some 1 := by decide +kernel
theorem kX3_levelOf {l : Launch} {E : EE} {p : Program} {e : Env} {ms : State} {m : MethodId} {args : Array Value} {below : List Frame} {meth : Method} {c : Code} {cc : ByteArray} {own : String} {nL pc idx d D : Nat} {Q : State → Prop} {L : List (Nat × Value)} {rest : List Value} {σ τ : St} {a0 : Int32} {r : Int32} (X : Cx E layC p ms m args c cc own nL) (hM : Ct l E layC yX3_levelOf cX3_levelOf 1 (some .int) d [.int a0] σ (some (.int r)) τ) (hd : decode cc pc = .ok (.invokestatic idx, 3)) (w1 : Cond.methodLink own idx yX3_levelOf ∈ gw) (hR : d + 1 ≤ D) (hrs : (rest.map fun v => v.category).sum ≤ 8) (k : AW E layC p l e (rmD D) ms m args below meth c nL 0 0 Q (pc + 3) L (.int r :: rest) τ) : AW E layC p l e (rmD D) ms m args below meth c nL 0 0 Q pc L (.int a0 :: rest) σ :=
  s_callS X [.int a0] rest hM hd w1 g_495 g_74 g_496 nX3_levelOf rfl rfl hrs (Nat.le_of_ble_eq_true rfl) hR k
def fX3_levelOf (a0 : Int32) (s0 : St) : Option (Int32 × St) :=
    if a0 = 37 then
    some (4, s0)
    else if a0 = 38 then
    some (1, s0)
    else if a0 = 42 then
    some (4, s0)
    else if a0 = 43 then
    some (3, s0)
    else if a0 = 45 then
    some (3, s0)
    else if a0 = 47 then
    some (4, s0)
    else if a0 = 60 then
    some (2, s0)
    else if a0 = 61 then
    some (2, s0)
    else if a0 = 62 then
    some (2, s0)
    else if a0 = 124 then
    some (0, s0)
    else some ((-1), s0)
set_option maxHeartbeats 4000000 in
set_option maxRecDepth 100000 in
theorem ctX3_levelOf {l : Launch} {E : EE} {a0 : Int32} {s0 : St} {r9 : Int32} {t9 : St}  (h : fX3_levelOf a0 s0 = some (r9, t9)) : Ct l E layC yX3_levelOf cX3_levelOf 1 (some .int) 0 [.int a0] s0 (some (.int r9)) t9 := by
  refine Ct.of (by decide) (Nat.le_of_ble_eq_true rfl) ?_
  intro p e ms m below meth c X hlk hr
  have X : Cx E layC p ms m [.int a0].toArray c cX3_levelOf RX3 1 := X
  refine r_sub (L' := [(0, .int a0)]) [0] rfl ?_
  unfold fX3_levelOf at h
  refine r_iload_n X dX3_levelOf_0 0 rfl rfl ?_
  by_cases c1 : a0 = 37
  · rw [if_pos c1] at h
    refine r_lookup X 100 dX3_levelOf_1 (by decide) (by rw [c1] <;> rfl) (by decide) ?_
    refine r_iconst X dX3_levelOf_100 (v := 4) (by decide) ?_
    exact s_iret X hlk hr dX3_levelOf_101 h
  rw [if_neg c1] at h
  by_cases c2 : a0 = 38
  · rw [if_pos c2] at h
    refine r_lookup X 94 dX3_levelOf_1 (by decide) (by rw [c2] <;> rfl) (by decide) ?_
    refine r_iconst X dX3_levelOf_94 (v := 1) (by decide) ?_
    exact s_iret X hlk hr dX3_levelOf_95 h
  rw [if_neg c2] at h
  by_cases c3 : a0 = 42
  · rw [if_pos c3] at h
    refine r_lookup X 100 dX3_levelOf_1 (by decide) (by rw [c3] <;> rfl) (by decide) ?_
    refine r_iconst X dX3_levelOf_100 (v := 4) (by decide) ?_
    exact s_iret X hlk hr dX3_levelOf_101 h
  rw [if_neg c3] at h
  by_cases c4 : a0 = 43
  · rw [if_pos c4] at h
    refine r_lookup X 98 dX3_levelOf_1 (by decide) (by rw [c4] <;> rfl) (by decide) ?_
    refine r_iconst X dX3_levelOf_98 (v := 3) (by decide) ?_
    exact s_iret X hlk hr dX3_levelOf_99 h
  rw [if_neg c4] at h
  by_cases c5 : a0 = 45
  · rw [if_pos c5] at h
    refine r_lookup X 98 dX3_levelOf_1 (by decide) (by rw [c5] <;> rfl) (by decide) ?_
    refine r_iconst X dX3_levelOf_98 (v := 3) (by decide) ?_
    exact s_iret X hlk hr dX3_levelOf_99 h
  rw [if_neg c5] at h
  by_cases c6 : a0 = 47
  · rw [if_pos c6] at h
    refine r_lookup X 100 dX3_levelOf_1 (by decide) (by rw [c6] <;> rfl) (by decide) ?_
    refine r_iconst X dX3_levelOf_100 (v := 4) (by decide) ?_
    exact s_iret X hlk hr dX3_levelOf_101 h
  rw [if_neg c6] at h
  by_cases c7 : a0 = 60
  · rw [if_pos c7] at h
    refine r_lookup X 96 dX3_levelOf_1 (by decide) (by rw [c7] <;> rfl) (by decide) ?_
    refine r_iconst X dX3_levelOf_96 (v := 2) (by decide) ?_
    exact s_iret X hlk hr dX3_levelOf_97 h
  rw [if_neg c7] at h
  by_cases c8 : a0 = 61
  · rw [if_pos c8] at h
    refine r_lookup X 96 dX3_levelOf_1 (by decide) (by rw [c8] <;> rfl) (by decide) ?_
    refine r_iconst X dX3_levelOf_96 (v := 2) (by decide) ?_
    exact s_iret X hlk hr dX3_levelOf_97 h
  rw [if_neg c8] at h
  by_cases c9 : a0 = 62
  · rw [if_pos c9] at h
    refine r_lookup X 96 dX3_levelOf_1 (by decide) (by rw [c9] <;> rfl) (by decide) ?_
    refine r_iconst X dX3_levelOf_96 (v := 2) (by decide) ?_
    exact s_iret X hlk hr dX3_levelOf_97 h
  rw [if_neg c9] at h
  by_cases c10 : a0 = 124
  · rw [if_pos c10] at h
    refine r_lookup X 92 dX3_levelOf_1 (by decide) (by rw [c10] <;> rfl) (by decide) ?_
    refine r_iconst X dX3_levelOf_92 (v := 0) (by decide) ?_
    exact s_iret X hlk hr dX3_levelOf_93 h
  rw [if_neg c10] at h
  refine r_lookup (off := 101) X 102 dX3_levelOf_1 (by decide) ((lv_osw (k := 37) c1 (by decide)).trans ((lv_osw (k := 38) c2 (by decide)).trans ((lv_osw (k := 42) c3 (by decide)).trans ((lv_osw (k := 43) c4 (by decide)).trans ((lv_osw (k := 45) c5 (by decide)).trans ((lv_osw (k := 47) c6 (by decide)).trans ((lv_osw (k := 60) c7 (by decide)).trans ((lv_osw (k := 61) c8 (by decide)).trans ((lv_osw (k := 62) c9 (by decide)).trans ((lv_osw (k := 124) c10 (by decide)).trans rfl)))))))))) (by decide) ?_
  refine r_iconst X dX3_levelOf_102 (v := (-1)) (by decide) ?_
  exact s_iret X hlk hr dX3_levelOf_103 h
