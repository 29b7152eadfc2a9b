/-! X0_copyFrom -/
theorem nX0_copyFrom : yX0_copyFrom.cls ≠ "java/lang/invoke/MethodHandle" ∧ yX0_copyFrom.cls ≠ "java/lang/invoke/VarHandle" ∧ (parseMethodDescriptor yX0_copyFrom.desc).map (fun d => d.parameters.length) = some 1 := by decide +kernel
theorem kX0_copyFrom {l : Launch} {E : EE} {p : Program} {e : Env} {ms : State} {m : MethodId} {args : Array Value} {below : List Frame} {meth : Method} {c : Code} {cc : ByteArray} {own : String} {nL pc idx d D : Nat} {Q : State → Prop} {L : List (Nat × Value)} {rest : List Value} {σ τ : St} {b0 : Nat} {b1 : Nat}  {fl : List (Option Nat)} (X : Cx E layC p ms m args c cc own nL) (hM : Ct l E layC yX0_copyFrom cX0_copyFrom 2 none d [.ref (ea E b0), .ref (ea E b1)] σ none τ) (hd : decode cc pc = .ok (.invokevirtual idx, 3)) (hlay : layC[b0]? = some (.inl (0, fl))) (w1 : Cond.methodLink own idx yX0_copyFrom ∈ gw) (hR : d + 1 ≤ D) (hrs : (rest.map fun v => v.category).sum ≤ 8) (k : AW E layC p l e (rmD D) ms m args below meth c nL 0 0 Q (pc + 3) L rest τ) : AW E layC p l e (rmD D) ms m args below meth c nL 0 0 Q pc L (.ref (ea E b1) :: .ref (ea E b0) :: rest) σ :=
  s_callV X [.ref (ea E b1)] rest hM hd v_X0 hlay w1 g_564 g_565 g_69 g_566 nX0_copyFrom rfl rfl hrs (Nat.le_of_ble_eq_true rfl) hR k
def fX0_copyFrom (b0 : Nat) (b1 : Nat) (s0 : St) : Option (St) :=
    bd1 (acp s0 (b1 + 1) 16 0 (b0 + 1) 16 0 16) fun s1 =>
    bd1 (acp s1 (b1 + 2) 16 0 (b0 + 2) 16 0 16) fun s3 =>
    bd1 (acp s3 (b1 + 3) 6 0 (b0 + 3) 6 0 6) fun s5 =>
    bd1 (acp s5 (b1 + 4) 8 0 (b0 + 4) 8 0 8) fun s7 =>
    bd1 (acp s7 (b1 + 5) 8 0 (b0 + 5) 8 0 8) fun s9 =>
    bd1 (acp s9 (b1 + 6) 8 0 (b0 + 6) 8 0 8) fun s11 =>
    bd1 (acp s11 (b1 + 7) 8 0 (b0 + 7) 8 0 8) fun s13 =>
    bd1 (acp s13 (b1 + 8) 8 0 (b0 + 8) 8 0 8) fun s15 =>
    bd1 (ptf s15 b0 9 (s15 b1 9)) fun s17 =>
    bd1 (ptf s17 b0 10 (s17 b1 10)) fun s18 =>
    bd1 (ptf s18 b0 11 (s18 b1 11)) fun s19 =>
    bd1 (ptf s19 b0 12 (s19 b1 12)) fun s20 =>
    some s20
set_option maxHeartbeats 4000000 in
set_option maxRecDepth 100000 in
theorem ctX0_copyFrom {l : Launch} {E : EE} {b0 : Nat} {b1 : Nat} {s0 : St} {t9 : St} (hb0 : isH b0) (hb1 : isH b1) (h : fX0_copyFrom b0 b1 s0 = some t9) : Ct l E layC yX0_copyFrom cX0_copyFrom 2 none 1 [.ref (ea E b0), .ref (ea E b1)] s0 none t9 := by
  refine Ct.of (by decide) (Nat.le_of_ble_eq_true rfl) ?_
  intro p e ms m below meth c X hlk hr
  have X : Cx E layC p ms m [.ref (ea E b0), .ref (ea E b1)].toArray c cX0_copyFrom RX0 2 := X
  refine r_sub (L' := [(0, .ref (ea E b0)), (1, .ref (ea E b1))]) [0, 1] rfl ?_
  unfold fX0_copyFrom at h
  refine r_aload_n X dX0_copyFrom_0 1 rfl rfl ?_
  refine r_getr X dX0_copyFrom_1 i_X0 v_X0 (lH0 hb1) 0 rfl (Nat.le_of_ble_eq_true rfl) g_100 ?_
  refine r_iconst X dX0_copyFrom_4 (v := 0) (by decide) ?_
  refine r_aload_n X dX0_copyFrom_5 0 rfl rfl ?_
  refine r_getr X dX0_copyFrom_6 i_X0 v_X0 (lH0 hb0) 0 rfl (Nat.le_of_ble_eq_true rfl) g_100 ?_
  refine r_iconst X dX0_copyFrom_9 (v := 0) (by decide) ?_
  refine r_bipush X dX0_copyFrom_10 (v := 16) (by decide) ?_
  obtain ⟨g2, s1, es1, h⟩ := cp_ok h
  refine s_copy X dX0_copyFrom_12 g_567 g_508 g_507 g_79 (lH1 hb1) (lH1 hb0) g2 (Nat.le_of_ble_eq_true rfl) (Nat.le_of_ble_eq_true rfl) es1 ?_
  refine r_aload_n X dX0_copyFrom_15 1 rfl rfl ?_
  refine r_getr X dX0_copyFrom_16 i_X0 v_X0 (lH0 hb1) 1 rfl (Nat.le_of_ble_eq_true rfl) g_102 ?_
  refine r_iconst X dX0_copyFrom_19 (v := 0) (by decide) ?_
  refine r_aload_n X dX0_copyFrom_20 0 rfl rfl ?_
  refine r_getr X dX0_copyFrom_21 i_X0 v_X0 (lH0 hb0) 1 rfl (Nat.le_of_ble_eq_true rfl) g_102 ?_
  refine r_iconst X dX0_copyFrom_24 (v := 0) (by decide) ?_
  refine r_bipush X dX0_copyFrom_25 (v := 16) (by decide) ?_
  obtain ⟨g4, s3, es3, h⟩ := cp_ok h
  refine s_copy X dX0_copyFrom_27 g_567 g_508 g_507 g_79 (lH2 hb1) (lH2 hb0) g4 (Nat.le_of_ble_eq_true rfl) (Nat.le_of_ble_eq_true rfl) es3 ?_
  refine r_aload_n X dX0_copyFrom_30 1 rfl rfl ?_
  refine r_getr X dX0_copyFrom_31 i_X0 v_X0 (lH0 hb1) 2 rfl (Nat.le_of_ble_eq_true rfl) g_104 ?_
  refine r_iconst X dX0_copyFrom_34 (v := 0) (by decide) ?_
  refine r_aload_n X dX0_copyFrom_35 0 rfl rfl ?_
  refine r_getr X dX0_copyFrom_36 i_X0 v_X0 (lH0 hb0) 2 rfl (Nat.le_of_ble_eq_true rfl) g_104 ?_
  refine r_iconst X dX0_copyFrom_39 (v := 0) (by decide) ?_
  refine r_bipush X dX0_copyFrom_40 (v := 6) (by decide) ?_
  obtain ⟨g6, s5, es5, h⟩ := cp_ok h
  refine s_copy X dX0_copyFrom_42 g_567 g_508 g_507 g_79 (lH3 hb1) (lH3 hb0) g6 (Nat.le_of_ble_eq_true rfl) (Nat.le_of_ble_eq_true rfl) es5 ?_
  refine r_aload_n X dX0_copyFrom_45 1 rfl rfl ?_
  refine r_getr X dX0_copyFrom_46 i_X0 v_X0 (lH0 hb1) 3 rfl (Nat.le_of_ble_eq_true rfl) g_106 ?_
  refine r_iconst X dX0_copyFrom_49 (v := 0) (by decide) ?_
  refine r_aload_n X dX0_copyFrom_50 0 rfl rfl ?_
  refine r_getr X dX0_copyFrom_51 i_X0 v_X0 (lH0 hb0) 3 rfl (Nat.le_of_ble_eq_true rfl) g_106 ?_
  refine r_iconst X dX0_copyFrom_54 (v := 0) (by decide) ?_
  refine r_bipush X dX0_copyFrom_55 (v := 8) (by decide) ?_
  obtain ⟨g8, s7, es7, h⟩ := cp_ok h
  refine s_copy X dX0_copyFrom_57 g_567 g_508 g_507 g_79 (lH4 hb1) (lH4 hb0) g8 (Nat.le_of_ble_eq_true rfl) (Nat.le_of_ble_eq_true rfl) es7 ?_
  refine r_aload_n X dX0_copyFrom_60 1 rfl rfl ?_
  refine r_getr X dX0_copyFrom_61 i_X0 v_X0 (lH0 hb1) 4 rfl (Nat.le_of_ble_eq_true rfl) g_108 ?_
  refine r_iconst X dX0_copyFrom_64 (v := 0) (by decide) ?_
  refine r_aload_n X dX0_copyFrom_65 0 rfl rfl ?_
  refine r_getr X dX0_copyFrom_66 i_X0 v_X0 (lH0 hb0) 4 rfl (Nat.le_of_ble_eq_true rfl) g_108 ?_
  refine r_iconst X dX0_copyFrom_69 (v := 0) (by decide) ?_
  refine r_bipush X dX0_copyFrom_70 (v := 8) (by decide) ?_
  obtain ⟨g10, s9, es9, h⟩ := cp_ok h
  refine s_copy X dX0_copyFrom_72 g_567 g_508 g_507 g_79 (lH5 hb1) (lH5 hb0) g10 (Nat.le_of_ble_eq_true rfl) (Nat.le_of_ble_eq_true rfl) es9 ?_
  refine r_aload_n X dX0_copyFrom_75 1 rfl rfl ?_
  refine r_getr X dX0_copyFrom_76 i_X0 v_X0 (lH0 hb1) 5 rfl (Nat.le_of_ble_eq_true rfl) g_110 ?_
  refine r_iconst X dX0_copyFrom_79 (v := 0) (by decide) ?_
  refine r_aload_n X dX0_copyFrom_80 0 rfl rfl ?_
  refine r_getr X dX0_copyFrom_81 i_X0 v_X0 (lH0 hb0) 5 rfl (Nat.le_of_ble_eq_true rfl) g_110 ?_
  refine r_iconst X dX0_copyFrom_84 (v := 0) (by decide) ?_
  refine r_bipush X dX0_copyFrom_85 (v := 8) (by decide) ?_
  obtain ⟨g12, s11, es11, h⟩ := cp_ok h
  refine s_copy X dX0_copyFrom_87 g_567 g_508 g_507 g_79 (lH6 hb1) (lH6 hb0) g12 (Nat.le_of_ble_eq_true rfl) (Nat.le_of_ble_eq_true rfl) es11 ?_
  refine r_aload_n X dX0_copyFrom_90 1 rfl rfl ?_
  refine r_getr X dX0_copyFrom_91 i_X0 v_X0 (lH0 hb1) 6 rfl (Nat.le_of_ble_eq_true rfl) g_112 ?_
  refine r_iconst X dX0_copyFrom_94 (v := 0) (by decide) ?_
  refine r_aload_n X dX0_copyFrom_95 0 rfl rfl ?_
  refine r_getr X dX0_copyFrom_96 i_X0 v_X0 (lH0 hb0) 6 rfl (Nat.le_of_ble_eq_true rfl) g_112 ?_
  refine r_iconst X dX0_copyFrom_99 (v := 0) (by decide) ?_
  refine r_bipush X dX0_copyFrom_100 (v := 8) (by decide) ?_
  obtain ⟨g14, s13, es13, h⟩ := cp_ok h
  refine s_copy X dX0_copyFrom_102 g_567 g_508 g_507 g_79 (lH7 hb1) (lH7 hb0) g14 (Nat.le_of_ble_eq_true rfl) (Nat.le_of_ble_eq_true rfl) es13 ?_
  refine r_aload_n X dX0_copyFrom_105 1 rfl rfl ?_
  refine r_getr X dX0_copyFrom_106 i_X0 v_X0 (lH0 hb1) 7 rfl (Nat.le_of_ble_eq_true rfl) g_114 ?_
  refine r_iconst X dX0_copyFrom_109 (v := 0) (by decide) ?_
  refine r_aload_n X dX0_copyFrom_110 0 rfl rfl ?_
  refine r_getr X dX0_copyFrom_111 i_X0 v_X0 (lH0 hb0) 7 rfl (Nat.le_of_ble_eq_true rfl) g_114 ?_
  refine r_iconst X dX0_copyFrom_114 (v := 0) (by decide) ?_
  refine r_bipush X dX0_copyFrom_115 (v := 8) (by decide) ?_
  obtain ⟨g16, s15, es15, h⟩ := cp_ok h
  refine s_copy X dX0_copyFrom_117 g_567 g_508 g_507 g_79 (lH8 hb1) (lH8 hb0) g16 (Nat.le_of_ble_eq_true rfl) (Nat.le_of_ble_eq_true rfl) es15 ?_
  refine r_aload_n X dX0_copyFrom_120 0 rfl rfl ?_
  refine r_aload_n X dX0_copyFrom_121 1 rfl rfl ?_
  refine r_geti X dX0_copyFrom_122 i_X0 v_X0 (lH0 hb1) 9 rfl (Nat.le_of_ble_eq_true rfl) g_117 ?_
  obtain ⟨s17, es17, h⟩ := pt_ok h
  refine s_puti X dX0_copyFrom_125 i_X0 tyX0_ok nmX0 v_X0 (lH0 hb0) 9 rfl (Nat.le_of_ble_eq_true rfl) g_117 rfl rfl ⟨rfl, rfl⟩ es17 ?_
  refine r_aload_n X dX0_copyFrom_128 0 rfl rfl ?_
  refine r_aload_n X dX0_copyFrom_129 1 rfl rfl ?_
  refine r_geti X dX0_copyFrom_130 i_X0 v_X0 (lH0 hb1) 10 rfl (Nat.le_of_ble_eq_true rfl) g_119 ?_
  obtain ⟨s18, es18, h⟩ := pt_ok h
  refine s_puti X dX0_copyFrom_133 i_X0 tyX0_ok nmX0 v_X0 (lH0 hb0) 10 rfl (Nat.le_of_ble_eq_true rfl) g_119 rfl rfl ⟨rfl, rfl⟩ es18 ?_
  refine r_aload_n X dX0_copyFrom_136 0 rfl rfl ?_
  refine r_aload_n X dX0_copyFrom_137 1 rfl rfl ?_
  refine r_geti X dX0_copyFrom_138 i_X0 v_X0 (lH0 hb1) 11 rfl (Nat.le_of_ble_eq_true rfl) g_121 ?_
  obtain ⟨s19, es19, h⟩ := pt_ok h
  refine s_puti X dX0_copyFrom_141 i_X0 tyX0_ok nmX0 v_X0 (lH0 hb0) 11 rfl (Nat.le_of_ble_eq_true rfl) g_121 rfl rfl ⟨rfl, rfl⟩ es19 ?_
  refine r_aload_n X dX0_copyFrom_144 0 rfl rfl ?_
  refine r_aload_n X dX0_copyFrom_145 1 rfl rfl ?_
  refine r_geti X dX0_copyFrom_146 i_X0 v_X0 (lH0 hb1) 12 rfl (Nat.le_of_ble_eq_true rfl) g_123 ?_
  obtain ⟨s20, es20, h⟩ := pt_ok h
  refine s_puti X dX0_copyFrom_149 i_X0 tyX0_ok nmX0 v_X0 (lH0 hb0) 12 rfl (Nat.le_of_ble_eq_true rfl) g_123 rfl rfl ⟨rfl, rfl⟩ es20 ?_
  exact s_vret X hlk hr dX0_copyFrom_152 h
/-! X0_seat -/
theorem nX0_seat : yX0_seat.cls ≠ "java/lang/invoke/MethodHandle" ∧ yX0_seat.cls ≠ "java/lang/invoke/VarHandle" ∧ (parseMethodDescriptor yX0_seat.desc).map (fun d => d.parameters.length) = some 3 := by decide +kernel
theorem kX0_seat {l : Launch} {E : EE} {p : Program} {e : Env} {ms : State} {m : MethodId} {args : Array Value} {below : List Frame} {meth : Method} {c : Code} {cc : ByteArray} {own : String} {nL pc idx d D : Nat} {Q : State → Prop} {L : List (Nat × Value)} {rest : List Value} {σ τ : St} {b0 : Nat} {a1 : Int32} {a2 : Int32} {a3 : Int32} {r : Int32} {fl : List (Option Nat)} (X : Cx E layC p ms m args c cc own nL) (hM : Ct l E layC yX0_seat cX0_seat 5 (some .int) d [.ref (ea E b0), .int a1, .int a2, .int a3] σ (some (.int r)) τ) (hd : decode cc pc = .ok (.invokevirtual idx, 3)) (hlay : layC[b0]? = some (.inl (0, fl))) (w1 : Cond.methodLink own idx yX0_seat ∈ gw) (hR : d + 1 ≤ D) (hrs : (rest.map fun v => v.category).sum ≤ 8) (k : AW E layC p l e (rmD D) ms m args below meth c nL 0 0 Q (pc + 3) L (.int r :: rest) τ) : AW E layC p l e (rmD D) ms m args below meth c nL 0 0 Q pc L (.int a3 :: .int a2 :: .int a1 :: .ref (ea E b0) :: rest) σ :=
  s_callV X [.int a1, .int a2, .int a3] rest hM hd v_X0 hlay w1 g_373 g_374 g_69 g_375 nX0_seat rfl rfl hrs (Nat.le_of_ble_eq_true rfl) hR k
def fX0_seat (b0 : Nat) (a1 : Int32) (a2 : Int32) (a3 : Int32) (s0 : St) : Option (Int32 × St) :=
    bd1 (ast s0 (b0 + 4) 8 (s0 b0 12) a1) fun s2 =>
    bd1 (ast s2 (b0 + 5) 8 (s0 b0 12) a2) fun s4 =>
    bd1 (ast s4 (b0 + 6) 8 (s0 b0 12) a3) fun s6 =>
    bd1 (ast s6 (b0 + 7) 8 (s0 b0 12) (s0 b0 12)) fun s8 =>
    bd1 (ast s8 (b0 + 8) 8 (s0 b0 12) 0) fun s10 =>
    bd1 (ptf s10 b0 12 ((s10 b0 12) + 1)) fun s11 =>
    some (s0 b0 12, s11)
set_option maxHeartbeats 4000000 in
set_option maxRecDepth 100000 in
theorem ctX0_seat {l : Launch} {E : EE} {b0 : Nat} {a1 : Int32} {a2 : Int32} {a3 : Int32} {s0 : St} {r9 : Int32} {t9 : St} (hb0 : isH b0) (h : fX0_seat b0 a1 a2 a3 s0 = some (r9, t9)) : Ct l E layC yX0_seat cX0_seat 5 (some .int) 0 [.ref (ea E b0), .int a1, .int a2, .int a3] s0 (some (.int r9)) t9 := by
  refine Ct.of (by decide) (Nat.le_of_ble_eq_true rfl) ?_
  intro p e ms m below meth c X hlk hr
  have X : Cx E layC p ms m [.ref (ea E b0), .int a1, .int a2, .int a3].toArray c cX0_seat RX0 5 := X
  refine r_sub (L' := [(0, .ref (ea E b0)), (1, .int a1), (2, .int a2), (3, .int a3)]) [0, 1, 2, 3] rfl ?_
  unfold fX0_seat at h
  refine r_aload_n X dX0_seat_0 0 rfl rfl ?_
  refine r_geti X dX0_seat_1 i_X0 v_X0 (lH0 hb0) 12 rfl (Nat.le_of_ble_eq_true rfl) g_123 ?_
  refine r_istore (L' := [(0, .ref (ea E b0)), (1, .int a1), (2, .int a2), (3, .int a3), (4, .int (s0 b0 12))]) X dX0_seat_4 [1, 2, 3, 4, 0] rfl (Nat.le_of_ble_eq_true rfl) ?_
  refine r_aload_n X dX0_seat_6 0 rfl rfl ?_
  refine r_getr X dX0_seat_7 i_X0 v_X0 (lH0 hb0) 3 rfl (Nat.le_of_ble_eq_true rfl) g_106 ?_
  refine r_iload X dX0_seat_10 4 rfl ?_
  refine r_iload_n X dX0_seat_12 1 rfl rfl ?_
  obtain ⟨g1, s2, es2, h⟩ := as_ok h
  refine s_iast X dX0_seat_13 (lH4 hb0) g1 es2 ?_
  refine r_aload_n X dX0_seat_14 0 rfl rfl ?_
  refine r_getr X dX0_seat_15 i_X0 v_X0 (lH0 hb0) 4 rfl (Nat.le_of_ble_eq_true rfl) g_108 ?_
  refine r_iload X dX0_seat_18 4 rfl ?_
  refine r_iload_n X dX0_seat_20 2 rfl rfl ?_
  obtain ⟨g3, s4, es4, h⟩ := as_ok h
  refine s_iast X dX0_seat_21 (lH5 hb0) g3 es4 ?_
  refine r_aload_n X dX0_seat_22 0 rfl rfl ?_
  refine r_getr X dX0_seat_23 i_X0 v_X0 (lH0 hb0) 5 rfl (Nat.le_of_ble_eq_true rfl) g_110 ?_
  refine r_iload X dX0_seat_26 4 rfl ?_
  refine r_iload_n X dX0_seat_28 3 rfl rfl ?_
  obtain ⟨g5, s6, es6, h⟩ := as_ok h
  refine s_iast X dX0_seat_29 (lH6 hb0) g5 es6 ?_
  refine r_aload_n X dX0_seat_30 0 rfl rfl ?_
  refine r_getr X dX0_seat_31 i_X0 v_X0 (lH0 hb0) 6 rfl (Nat.le_of_ble_eq_true rfl) g_112 ?_
  refine r_iload X dX0_seat_34 4 rfl ?_
  refine r_iload X dX0_seat_36 4 rfl ?_
  obtain ⟨g7, s8, es8, h⟩ := as_ok h
  refine s_iast X dX0_seat_38 (lH7 hb0) g7 es8 ?_
  refine r_aload_n X dX0_seat_39 0 rfl rfl ?_
  refine r_getr X dX0_seat_40 i_X0 v_X0 (lH0 hb0) 7 rfl (Nat.le_of_ble_eq_true rfl) g_114 ?_
  refine r_iload X dX0_seat_43 4 rfl ?_
  refine r_iconst X dX0_seat_45 (v := 0) (by decide) ?_
  obtain ⟨g9, s10, es10, h⟩ := as_ok h
  refine s_iast X dX0_seat_46 (lH8 hb0) g9 es10 ?_
  refine r_aload_n X dX0_seat_47 0 rfl rfl ?_
  refine r_dup X dX0_seat_48 rfl ?_
  refine r_geti X dX0_seat_49 i_X0 v_X0 (lH0 hb0) 12 rfl (Nat.le_of_ble_eq_true rfl) g_123 ?_
  refine r_iconst X dX0_seat_52 (v := 1) (by decide) ?_
  refine r_iadd X dX0_seat_53 ?_
  obtain ⟨s11, es11, h⟩ := pt_ok h
  refine s_puti X dX0_seat_54 i_X0 tyX0_ok nmX0 v_X0 (lH0 hb0) 12 rfl (Nat.le_of_ble_eq_true rfl) g_123 rfl rfl ⟨rfl, rfl⟩ es11 ?_
  refine r_iload X dX0_seat_57 4 rfl ?_
  exact s_iret X hlk hr dX0_seat_59 h
/-! X0_coursesOf -/
theorem nX0_coursesOf : yX0_coursesOf.cls ≠ "java/lang/invoke/MethodHandle" ∧ yX0_coursesOf.cls ≠ "java/lang/invoke/VarHandle" ∧ (parseMethodDescriptor yX0_coursesOf.desc).map (fun d => d.parameters.length) = some 1 := by decide +kernel
theorem kX0_coursesOf {l : Launch} {E : EE} {p : Program} {e : Env} {ms : State} {m : MethodId} {args : Array Value} {below : List Frame} {meth : Method} {c : Code} {cc : ByteArray} {own : String} {nL pc idx d D : Nat} {Q : State → Prop} {L : List (Nat × Value)} {rest : List Value} {σ τ : St} {b0 : Nat} {a1 : Int32} {r : Int32} {fl : List (Option Nat)} (X : Cx E layC p ms m args c cc own nL) (hM : Ct l E layC yX0_coursesOf cX0_coursesOf 4 (some .int) d [.ref (ea E b0), .int a1] σ (some (.int r)) τ) (hd : decode cc pc = .ok (.invokevirtual idx, 3)) (hlay : layC[b0]? = some (.inl (0, fl))) (w1 : Cond.methodLink own idx yX0_coursesOf ∈ gw) (hR : d + 1 ≤ D) (hrs : (rest.map fun v => v.category).sum ≤ 8) (k : AW E layC p l e (rmD D) ms m args below meth c nL 0 0 Q (pc + 3) L (.int r :: rest) τ) : AW E layC p l e (rmD D) ms m args below meth c nL 0 0 Q pc L (.int a1 :: .ref (ea E b0) :: rest) σ :=
  s_callV X [.int a1] rest hM hd v_X0 hlay w1 g_350 g_351 g_69 g_352 nX0_coursesOf rfl rfl hrs (Nat.le_of_ble_eq_true rfl) hR k
def fX0_coursesOf_4 (b0 : Nat) (a1 : Int32) : Nat → Int32 → Int32 → St → Option (Int32 × St)
  | 0, _, _, _ => none
  | n + 1, a2, a3, s0 =>
    if 6 ≤ a3 then
    some (a2, s0)
    else
    bd1 (ald s0 (b0 + 3) 6 a3) fun v2 =>
    jn (fun (w3 : Int32) =>
    fX0_coursesOf_4 b0 a1 n w3 (a3 + 1) s0) fun j26 =>
    if v2 = a1 then
    j26 (a2 ||| (shl 1 a3))
    else
    j26 a2
def fX0_coursesOf (b0 : Nat) (a1 : Int32) (s0 : St) : Option (Int32 × St) :=
    bd2 (fX0_coursesOf_4 b0 a1 FU 0 0 s0) fun v7 s6 =>
    some (v7, s6)
set_option maxHeartbeats 4000000 in
set_option maxRecDepth 100000 in
theorem LX0_coursesOf_4 {l : Launch} {E : EE} {p : Program} {e : Env} {ms : State} {m : MethodId} {args : Array Value} {below : List Frame} {meth : Method} {c : Code} {b0 : Nat} {a1 : Int32} {Q : State → Prop} (X : Cx E layC p ms m args c cX0_coursesOf RX0 4) (hb0 : isH b0) : ∀ (n : Nat) (a2 : Int32) (a3 : Int32) (s0 : St) (q2 : Int32) (t8 : St), fX0_coursesOf_4 b0 a1 n a2 a3 s0 = some (q2, t8) → AW E layC p l e (rmD 0) ms m args below meth c 4 0 0 Q 32 [(2, .int q2)] [] t8 → AW E layC p l e (rmD 0) ms m args below meth c 4 0 0 Q 4 [(0, .ref (ea E b0)), (1, .int a1), (2, .int a2), (3, .int a3)] [] s0 := by
  intro n
  induction n with
  | zero =>
    intro a2 a3 s0 q2 t8 h hE
    cases h
  | succ n ih =>
    intro a2 a3 s0 q2 t8 h hE
    rw [fX0_coursesOf_4] at h
    refine r_iload_n X dX0_coursesOf_4 3 rfl rfl ?_
    refine r_bipush X dX0_coursesOf_5 (v := 6) (by decide) ?_
    refine r_icmp_ge X 32 dX0_coursesOf_7 (by decide) (fun c5 => ?_) (fun c5 => ?_)
    · rw [if_pos c5] at h
      refine r_sub (L' := [(2, .int a2)]) [2] rfl ?_
      cases h
      exact hE
    · rw [if_neg c5] at h
      refine r_aload_n X dX0_coursesOf_10 0 rfl rfl ?_
      refine r_getr X dX0_coursesOf_11 i_X0 v_X0 (lH0 hb0) 2 rfl (Nat.le_of_ble_eq_true rfl) g_104 ?_
      refine r_iload_n X dX0_coursesOf_14 3 rfl rfl ?_
      obtain ⟨g1, v2, ev2, h⟩ := ld_ok h
      refine s_iald X dX0_coursesOf_15 (lH3 hb0) g1 ev2 ?_
      refine r_iload_n X dX0_coursesOf_16 1 rfl rfl ?_
      obtain ⟨j26, ej26, h⟩ := jn1_ok h
      have hj26 : ∀ (w3 : Int32), j26 w3 = some (q2, t8) → AW E layC p l e (rmD 0) ms m args below meth c 4 0 0 Q 26 [(0, .ref (ea E b0)), (1, .int a1), (2, .int w3), (3, .int a3)] [] s0 := by
        intro w3 h
        rw [ej26] at h
        refine r_iinc (L' := [(0, .ref (ea E b0)), (1, .int a1), (2, .int w3), (3, .int (a3 + 1))]) (v := a3 + 1) X dX0_coursesOf_26 3 rfl rfl [1, 2, 3, 0] rfl (Nat.le_of_ble_eq_true rfl) ?_
        refine r_goto X 4 dX0_coursesOf_29 (by decide) ?_
        exact ih _ _ _ _ _ h hE
      refine r_icmp_ne X 26 dX0_coursesOf_17 (by decide) (fun c4 => ?_) (fun c4 => ?_)
      · rw [if_neg c4] at h
        exact hj26 _ h
      · rw [if_pos c4] at h
        refine r_iload_n X dX0_coursesOf_20 2 rfl rfl ?_
        refine r_iconst X dX0_coursesOf_21 (v := 1) (by decide) ?_
        refine r_iload_n X dX0_coursesOf_22 3 rfl rfl ?_
        refine s_ishl X dX0_coursesOf_23 ?_
        refine r_ior X dX0_coursesOf_24 ?_
        refine r_istore_n (L' := [(0, .ref (ea E b0)), (1, .int a1), (2, .int (a2 ||| (shl 1 a3))), (3, .int a3)]) X dX0_coursesOf_25 [1, 2, 0, 3] rfl rfl (Nat.le_of_ble_eq_true rfl) ?_
        exact hj26 _ h
set_option maxHeartbeats 4000000 in
set_option maxRecDepth 100000 in
theorem ctX0_coursesOf {l : Launch} {E : EE} {b0 : Nat} {a1 : Int32} {s0 : St} {r9 : Int32} {t9 : St} (hb0 : isH b0) (h : fX0_coursesOf b0 a1 s0 = some (r9, t9)) : Ct l E layC yX0_coursesOf cX0_coursesOf 4 (some .int) 0 [.ref (ea E b0), .int a1] s0 (some (.int r9)) t9 := by
  refine Ct.of (by decide) (Nat.le_of_ble_eq_true rfl) ?_
  intro p e ms m below meth c X hlk hr
  have X : Cx E layC p ms m [.ref (ea E b0), .int a1].toArray c cX0_coursesOf RX0 4 := X
  refine r_sub (L' := [(0, .ref (ea E b0)), (1, .int a1)]) [0, 1] rfl ?_
  unfold fX0_coursesOf at h
  refine r_iconst X dX0_coursesOf_0 (v := 0) (by decide) ?_
  refine r_istore_n (L' := [(0, .ref (ea E b0)), (1, .int a1), (2, .int 0)]) X dX0_coursesOf_1 [1, 2, 0] rfl rfl (Nat.le_of_ble_eq_true rfl) ?_
  refine r_iconst X dX0_coursesOf_2 (v := 0) (by decide) ?_
  refine r_istore_n (L' := [(0, .ref (ea E b0)), (1, .int a1), (2, .int 0), (3, .int 0)]) X dX0_coursesOf_3 [1, 2, 3, 0] rfl rfl (Nat.le_of_ble_eq_true rfl) ?_
  obtain ⟨v7, s6, eo, h⟩ := bd2_ok h
  refine LX0_coursesOf_4 X hb0 FU _ _ _ _ _ eo ?_
  refine r_iload_n X dX0_coursesOf_32 0 rfl rfl ?_
  exact s_iret X hlk hr dX0_coursesOf_33 h
/-! X1_mends -/
theorem nX1_mends : yX1_mends.cls ≠ "java/lang/invoke/MethodHandle" ∧ yX1_mends.cls ≠ "java/lang/invoke/VarHandle" ∧ (parseMethodDescriptor yX1_mends.desc).map (fun d => d.parameters.length) = some 3 := by decide +kernel
theorem kX1_mends {l : Launch} {E : EE} {p : Program} {e : Env} {ms : State} {m : MethodId} {args : Array Value} {below : List Frame} {meth : Method} {c : Code} {cc : ByteArray} {own : String} {nL pc idx d D : Nat} {Q : State → Prop} {L : List (Nat × Value)} {rest : List Value} {σ τ : St} {a0 : Int32} {a1 : Int32} {a2 : Int32} {r : Int32} (X : Cx E layC p ms m args c cc own nL) (hM : Ct l E layC yX1_mends cX1_mends 3 (some .int) d [.int a0, .int a1, .int a2] σ (some (.int r)) τ) (hd : decode cc pc = .ok (.invokestatic idx, 3)) (w1 : Cond.methodLink own idx yX1_mends ∈ gw) (hR : d + 1 ≤ D) (hrs : (rest.map fun v => v.category).sum ≤ 8) (k : AW E layC p l e (rmD D) ms m args below meth c nL 0 0 Q (pc + 3) L (.int r :: rest) τ) : AW E layC p l e (rmD D) ms m args below meth c nL 0 0 Q pc L (.int a2 :: .int a1 :: .int a0 :: rest) σ :=
  s_callS X [.int a0, .int a1, .int a2] rest hM hd w1 g_389 g_78 g_390 nX1_mends rfl rfl hrs (Nat.le_of_ble_eq_true rfl) hR k
def fX1_mends (a0 : Int32) (a1 : Int32) (a2 : Int32) (s0 : St) : Option (Int32 × St) :=
    jn (fun (_ : Unit) =>
    if (irm a2 2) = 0 then
    some (0, s0)
    else
    some (1, s0)) fun j40 =>
    if a0 = 1 then
    j40 ()
    else if a0 = 2 then
    some (1, s0)
    else if a0 = 3 then
    some (0, s0)
    else if a0 = 4 then
    j40 ()
    else if a0 = 5 then
    some (2, s0)
    else if a0 = 6 then
    if (irm a1 2) = 0 then
    some (1, s0)
    else
    some (0, s0)
    else some (1, s0)
set_option maxHeartbeats 4000000 in
set_option maxRecDepth 100000 in
theorem ctX1_mends {l : Launch} {E : EE} {a0 : Int32} {a1 : Int32} {a2 : Int32} {s0 : St} {r9 : Int32} {t9 : St}  (h : fX1_mends a0 a1 a2 s0 = some (r9, t9)) : Ct l E layC yX1_mends cX1_mends 3 (some .int) 0 [.int a0, .int a1, .int a2] s0 (some (.int r9)) t9 := by
  refine Ct.of (by decide) (Nat.le_of_ble_eq_true rfl) ?_
  intro p e ms m below meth c X hlk hr
  have X : Cx E layC p ms m [.int a0, .int a1, .int a2].toArray c cX1_mends RX1 3 := X
  refine r_sub (L' := [(0, .int a0), (1, .int a1), (2, .int a2)]) [0, 1, 2] rfl ?_
  unfold fX1_mends at h
  refine r_iload_n X dX1_mends_0 0 rfl rfl ?_
  obtain ⟨j40, ej40, h⟩ := jn1_ok h
  have hj40 : ∀ (u : Unit), j40 u = some (r9, t9) → AW E layC p l e (rmD 0) ms m [.int a0, .int a1, .int a2].toArray below meth c 3 0 0 (MQc E layC below [.int a0, .int a1, .int a2].toArray ms (some (.int r9)) t9) 40 [(2, .int a2)] [] s0 := by
    intro u h
    rw [ej40] at h
    refine r_iload_n X dX1_mends_40 0 rfl rfl ?_
    refine r_iconst X dX1_mends_41 (v := 2) (by decide) ?_
    refine s_irem X dX1_mends_42 (by decide) ?_
    refine r_if_ne X 50 dX1_mends_43 (by decide) (fun c1 => ?_) (fun c1 => ?_)
    · rw [if_neg c1] at h
      refine r_iconst X dX1_mends_50 (v := 1) (by decide) ?_
      exact s_iret X hlk hr dX1_mends_51 h
    · rw [if_pos c1] at h
      refine r_iconst X dX1_mends_46 (v := 0) (by decide) ?_
      refine r_goto X 51 dX1_mends_47 (by decide) ?_
      exact s_iret X hlk hr dX1_mends_51 h
  by_cases c2 : a0 = 1
  · rw [if_pos c2] at h
    refine r_tabIn X 40 (1) (by rw [c2]; decide) dX1_mends_1 (by decide) (by decide) rfl (by decide) ?_
    refine r_sub (L' := [(2, .int a2)]) [2] rfl ?_
    exact hj40 _ h
  rw [if_neg c2] at h
  by_cases c3 : a0 = 2
  · rw [if_pos c3] at h
    refine r_tabIn X 68 (2) (by rw [c3]; decide) dX1_mends_1 (by decide) (by decide) rfl (by decide) ?_
    refine r_iconst X dX1_mends_68 (v := 1) (by decide) ?_
    exact s_iret X hlk hr dX1_mends_69 h
  rw [if_neg c3] at h
  by_cases c4 : a0 = 3
  · rw [if_pos c4] at h
    refine r_tabIn X 52 (3) (by rw [c4]; decide) dX1_mends_1 (by decide) (by decide) rfl (by decide) ?_
    refine r_iconst X dX1_mends_52 (v := 0) (by decide) ?_
    exact s_iret X hlk hr dX1_mends_53 h
  rw [if_neg c4] at h
  by_cases c5 : a0 = 4
  · rw [if_pos c5] at h
    refine r_tabIn X 40 (4) (by rw [c5]; decide) dX1_mends_1 (by decide) (by decide) rfl (by decide) ?_
    refine r_sub (L' := [(2, .int a2)]) [2] rfl ?_
    exact hj40 _ h
  rw [if_neg c5] at h
  by_cases c6 : a0 = 5
  · rw [if_pos c6] at h
    refine r_tabIn X 54 (5) (by rw [c6]; decide) dX1_mends_1 (by decide) (by decide) rfl (by decide) ?_
    refine r_iconst X dX1_mends_54 (v := 2) (by decide) ?_
    exact s_iret X hlk hr dX1_mends_55 h
  rw [if_neg c6] at h
  by_cases c7 : a0 = 6
  · rw [if_pos c7] at h
    refine r_tabIn X 56 (6) (by rw [c7]; decide) dX1_mends_1 (by decide) (by decide) rfl (by decide) ?_
    refine r_iload_n X dX1_mends_56 1 rfl rfl ?_
    refine r_iconst X dX1_mends_57 (v := 2) (by decide) ?_
    refine s_irem X dX1_mends_58 (by decide) ?_
    refine r_if_ne X 66 dX1_mends_59 (by decide) (fun c8 => ?_) (fun c8 => ?_)
    · rw [if_neg c8] at h
      refine r_iconst X dX1_mends_66 (v := 0) (by decide) ?_
      exact s_iret X hlk hr dX1_mends_67 h
    · rw [if_pos c8] at h
      refine r_iconst X dX1_mends_62 (v := 1) (by decide) ?_
      refine r_goto X 67 dX1_mends_63 (by decide) ?_
      exact s_iret X hlk hr dX1_mends_67 h
  rw [if_neg c7] at h
  have nc2 := lv_neT (k := 1) c2 (a := 1) (by decide)
  have nc3 := lv_neT (k := 2) c3 (a := 2) (by decide)
  have nc4 := lv_neT (k := 3) c4 (a := 3) (by decide)
  have nc5 := lv_neT (k := 4) c5 (a := 4) (by decide)
  have nc6 := lv_neT (k := 5) c6 (a := 5) (by decide)
  have nc7 := lv_neT (k := 6) c7 (a := 6) (by decide)
  refine r_tabOut X 68 dX1_mends_1 (by omega) (by decide) ?_
  refine r_iconst X dX1_mends_68 (v := 1) (by decide) ?_
  exact s_iret X hlk hr dX1_mends_69 h
/-! X0_mendsOf -/
theorem nX0_mendsOf : yX0_mendsOf.cls ≠ "java/lang/invoke/MethodHandle" ∧ yX0_mendsOf.cls ≠ "java/lang/invoke/VarHandle" ∧ (parseMethodDescriptor yX0_mendsOf.desc).map (fun d => d.parameters.length) = some 1 := by decide +kernel
theorem kX0_mendsOf {l : Launch} {E : EE} {p : Program} {e : Env} {ms : State} {m : MethodId} {args : Array Value} {below : List Frame} {meth : Method} {c : Code} {cc : ByteArray} {own : String} {nL pc idx d D : Nat} {Q : State → Prop} {L : List (Nat × Value)} {rest : List Value} {σ τ : St} {b0 : Nat} {a1 : Int32} {r : Int32} {fl : List (Option Nat)} (X : Cx E layC p ms m args c cc own nL) (hM : Ct l E layC yX0_mendsOf cX0_mendsOf 2 (some .int) d [.ref (ea E b0), .int a1] σ (some (.int r)) τ) (hd : decode cc pc = .ok (.invokevirtual idx, 3)) (hlay : layC[b0]? = some (.inl (0, fl))) (w1 : Cond.methodLink own idx yX0_mendsOf ∈ gw) (hR : d + 1 ≤ D) (hrs : (rest.map fun v => v.category).sum ≤ 8) (k : AW E layC p l e (rmD D) ms m args below meth c nL 0 0 Q (pc + 3) L (.int r :: rest) τ) : AW E layC p l e (rmD D) ms m args below meth c nL 0 0 Q pc L (.int a1 :: .ref (ea E b0) :: rest) σ :=
  s_callV X [.int a1] rest hM hd v_X0 hlay w1 g_385 g_386 g_69 g_387 nX0_mendsOf rfl rfl hrs (Nat.le_of_ble_eq_true rfl) hR k
def fX0_mendsOf (b0 : Nat) (a1 : Int32) (s0 : St) : Option (Int32 × St) :=
    bd1 (ald s0 (b0 + 4) 8 a1) fun v2 =>
    bd1 (ald s0 (b0 + 5) 8 a1) fun v4 =>
    bd2 (fX1_mends v2 v4 (s0 b0 11) s0) fun u7 s5 =>
    some (u7, s5)
set_option maxHeartbeats 4000000 in
set_option maxRecDepth 100000 in
theorem ctX0_mendsOf {l : Launch} {E : EE} {b0 : Nat} {a1 : Int32} {s0 : St} {r9 : Int32} {t9 : St} (hb0 : isH b0) (h : fX0_mendsOf b0 a1 s0 = some (r9, t9)) : Ct l E layC yX0_mendsOf cX0_mendsOf 2 (some .int) 1 [.ref (ea E b0), .int a1] s0 (some (.int r9)) t9 := by
  refine Ct.of (by decide) (Nat.le_of_ble_eq_true rfl) ?_
  intro p e ms m below meth c X hlk hr
  have X : Cx E layC p ms m [.ref (ea E b0), .int a1].toArray c cX0_mendsOf RX0 2 := X
  refine r_sub (L' := [(0, .ref (ea E b0)), (1, .int a1)]) [0, 1] rfl ?_
  unfold fX0_mendsOf at h
  refine r_aload_n X dX0_mendsOf_0 0 rfl rfl ?_
  refine r_getr X dX0_mendsOf_1 i_X0 v_X0 (lH0 hb0) 3 rfl (Nat.le_of_ble_eq_true rfl) g_106 ?_
  refine r_iload_n X dX0_mendsOf_4 1 rfl rfl ?_
  obtain ⟨g1, v2, ev2, h⟩ := ld_ok h
  refine s_iald X dX0_mendsOf_5 (lH4 hb0) g1 ev2 ?_
  refine r_aload_n X dX0_mendsOf_6 0 rfl rfl ?_
  refine r_getr X dX0_mendsOf_7 i_X0 v_X0 (lH0 hb0) 4 rfl (Nat.le_of_ble_eq_true rfl) g_108 ?_
  refine r_iload_n X dX0_mendsOf_10 1 rfl rfl ?_
  obtain ⟨g3, v4, ev4, h⟩ := ld_ok h
  refine s_iald X dX0_mendsOf_11 (lH5 hb0) g3 ev4 ?_
  refine r_aload_n X dX0_mendsOf_12 0 rfl rfl ?_
  refine r_geti X dX0_mendsOf_13 i_X0 v_X0 (lH0 hb0) 11 rfl (Nat.le_of_ble_eq_true rfl) g_121 ?_
  obtain ⟨u7, s5, e6, h⟩ := bd2_ok h
  refine kX1_mends X (ctX1_mends e6) dX0_mendsOf_16 g_388 (Nat.le_of_ble_eq_true rfl) (Nat.le_of_ble_eq_true rfl) ?_
  exact s_iret X hlk hr dX0_mendsOf_19 h
/-! X1_asLady -/
theorem nX1_asLady : yX1_asLady.cls ≠ "java/lang/invoke/MethodHandle" ∧ yX1_asLady.cls ≠ "java/lang/invoke/VarHandle" ∧ (parseMethodDescriptor yX1_asLady.desc).map (fun d => d.parameters.length) = some 2 := by decide +kernel
theorem kX1_asLady {l : Launch} {E : EE} {p : Program} {e : Env} {ms : State} {m : MethodId} {args : Array Value} {below : List Frame} {meth : Method} {c : Code} {cc : ByteArray} {own : String} {nL pc idx d D : Nat} {Q : State → Prop} {L : List (Nat × Value)} {rest : List Value} {σ τ : St} {a0 : Int32} {a1 : Int32} {r : Int32} (X : Cx E layC p ms m args c cc own nL) (hM : Ct l E layC yX1_asLady cX1_asLady 2 (some .int) d [.int a0, .int a1] σ (some (.int r)) τ) (hd : decode cc pc = .ok (.invokestatic idx, 3)) (w1 : Cond.methodLink own idx yX1_asLady ∈ gw) (hR : d + 1 ≤ D) (hrs : (rest.map fun v => v.category).sum ≤ 8) (k : AW E layC p l e (rmD D) ms m args below meth c nL 0 0 Q (pc + 3) L (.int r :: rest) τ) : AW E layC p l e (rmD D) ms m args below meth c nL 0 0 Q pc L (.int a1 :: .int a0 :: rest) σ :=
  s_callS X [.int a0, .int a1] rest hM hd w1 g_399 g_78 g_400 nX1_asLady rfl rfl hrs (Nat.le_of_ble_eq_true rfl) hR k
def fX1_asLady (a0 : Int32) (a1 : Int32) (s0 : St) : Option (Int32 × St) :=
    if a1 ≤ 5 then
    some (a0 + 0, s0)
    else
    some (a0 + 1, s0)
set_option maxHeartbeats 4000000 in
set_option maxRecDepth 100000 in
theorem ctX1_asLady {l : Launch} {E : EE} {a0 : Int32} {a1 : Int32} {s0 : St} {r9 : Int32} {t9 : St}  (h : fX1_asLady a0 a1 s0 = some (r9, t9)) : Ct l E layC yX1_asLady cX1_asLady 2 (some .int) 0 [.int a0, .int a1] s0 (some (.int r9)) t9 := by
  refine Ct.of (by decide) (Nat.le_of_ble_eq_true rfl) ?_
  intro p e ms m below meth c X hlk hr
  have X : Cx E layC p ms m [.int a0, .int a1].toArray c cX1_asLady RX1 2 := X
  refine r_sub (L' := [(0, .int a0), (1, .int a1)]) [0, 1] rfl ?_
  unfold fX1_asLady at h
  refine r_iload_n X dX1_asLady_0 0 rfl rfl ?_
  refine r_iload_n X dX1_asLady_1 1 rfl rfl ?_
  refine r_iconst X dX1_asLady_2 (v := 5) (by decide) ?_
  refine r_icmp_le X 10 dX1_asLady_3 (by decide) (fun c1 => ?_) (fun c1 => ?_)
  · rw [if_pos c1] at h
    refine r_iconst X dX1_asLady_10 (v := 0) (by decide) ?_
    refine r_iadd X dX1_asLady_11 ?_
    exact s_iret X hlk hr dX1_asLady_12 h
  · rw [if_neg c1] at h
    refine r_iconst X dX1_asLady_6 (v := 1) (by decide) ?_
    refine r_goto X 11 dX1_asLady_7 (by decide) ?_
    refine r_iadd X dX1_asLady_11 ?_
    exact s_iret X hlk hr dX1_asLady_12 h
/-! X1_asSubaltern -/
theorem nX1_asSubaltern : yX1_asSubaltern.cls ≠ "java/lang/invoke/MethodHandle" ∧ yX1_asSubaltern.cls ≠ "java/lang/invoke/VarHandle" ∧ (parseMethodDescriptor yX1_asSubaltern.desc).map (fun d => d.parameters.length) = some 3 := by decide +kernel
theorem kX1_asSubaltern {l : Launch} {E : EE} {p : Program} {e : Env} {ms : State} {m : MethodId} {args : Array Value} {below : List Frame} {meth : Method} {c : Code} {cc : ByteArray} {own : String} {nL pc idx d D : Nat} {Q : State → Prop} {L : List (Nat × Value)} {rest : List Value} {σ τ : St} {a0 : Int32} {a1 : Int32} {a2 : Int32} {r : Int32} (X : Cx E layC p ms m args c cc own nL) (hM : Ct l E layC yX1_asSubaltern cX1_asSubaltern 3 (some .int) d [.int a0, .int a1, .int a2] σ (some (.int r)) τ) (hd : decode cc pc = .ok (.invokestatic idx, 3)) (w1 : Cond.methodLink own idx yX1_asSubaltern ∈ gw) (hR : d + 1 ≤ D) (hrs : (rest.map fun v => v.category).sum ≤ 8) (k : AW E layC p l e (rmD D) ms m args below meth c nL 0 0 Q (pc + 3) L (.int r :: rest) τ) : AW E layC p l e (rmD D) ms m args below meth c nL 0 0 Q pc L (.int a2 :: .int a1 :: .int a0 :: rest) σ :=
  s_callS X [.int a0, .int a1, .int a2] rest hM hd w1 g_402 g_78 g_403 nX1_asSubaltern rfl rfl hrs (Nat.le_of_ble_eq_true rfl) hR k
def fX1_asSubaltern (a0 : Int32) (a1 : Int32) (a2 : Int32) (s0 : St) : Option (Int32 × St) :=
    if (a1 + a2) ≤ 9 then
    some (a0, s0)
    else
    some (4, s0)
set_option maxHeartbeats 4000000 in
set_option maxRecDepth 100000 in
theorem ctX1_asSubaltern {l : Launch} {E : EE} {a0 : Int32} {a1 : Int32} {a2 : Int32} {s0 : St} {r9 : Int32} {t9 : St}  (h : fX1_asSubaltern a0 a1 a2 s0 = some (r9, t9)) : Ct l E layC yX1_asSubaltern cX1_asSubaltern 3 (some .int) 0 [.int a0, .int a1, .int a2] s0 (some (.int r9)) t9 := by
  refine Ct.of (by decide) (Nat.le_of_ble_eq_true rfl) ?_
  intro p e ms m below meth c X hlk hr
  have X : Cx E layC p ms m [.int a0, .int a1, .int a2].toArray c cX1_asSubaltern RX1 3 := X
  refine r_sub (L' := [(0, .int a0), (1, .int a1), (2, .int a2)]) [0, 1, 2] rfl ?_
  unfold fX1_asSubaltern at h
  refine r_iload_n X dX1_asSubaltern_0 1 rfl rfl ?_
  refine r_iload_n X dX1_asSubaltern_1 2 rfl rfl ?_
  refine r_iadd X dX1_asSubaltern_2 ?_
  refine r_bipush X dX1_asSubaltern_3 (v := 9) (by decide) ?_
  refine r_icmp_le X 12 dX1_asSubaltern_5 (by decide) (fun c1 => ?_) (fun c1 => ?_)
  · rw [if_pos c1] at h
    refine r_iload_n X dX1_asSubaltern_12 0 rfl rfl ?_
    exact s_iret X hlk hr dX1_asSubaltern_13 h
  · rw [if_neg c1] at h
    refine r_iconst X dX1_asSubaltern_8 (v := 4) (by decide) ?_
    refine r_goto X 13 dX1_asSubaltern_9 (by decide) ?_
    exact s_iret X hlk hr dX1_asSubaltern_13 h
/-! X1_leaves -/
theorem nX1_leaves : yX1_leaves.cls ≠ "java/lang/invoke/MethodHandle" ∧ yX1_leaves.cls ≠ "java/lang/invoke/VarHandle" ∧ (parseMethodDescriptor yX1_leaves.desc).map (fun d => d.parameters.length) = some 6 := by decide +kernel
theorem kX1_leaves {l : Launch} {E : EE} {p : Program} {e : Env} {ms : State} {m : MethodId} {args : Array Value} {below : List Frame} {meth : Method} {c : Code} {cc : ByteArray} {own : String} {nL pc idx d D : Nat} {Q : State → Prop} {L : List (Nat × Value)} {rest : List Value} {σ τ : St} {a0 : Int32} {a1 : Int32} {a2 : Int32} {a3 : Int32} {a4 : Int32} {a5 : Int32} {r : Int32} (X : Cx E layC p ms m args c cc own nL) (hM : Ct l E layC yX1_leaves cX1_leaves 7 (some .int) d [.int a0, .int a1, .int a2, .int a3, .int a4, .int a5] σ (some (.int r)) τ) (hd : decode cc pc = .ok (.invokestatic idx, 3)) (w1 : Cond.methodLink own idx yX1_leaves ∈ gw) (hR : d + 1 ≤ D) (hrs : (rest.map fun v => v.category).sum ≤ 8) (k : AW E layC p l e (rmD D) ms m args below meth c nL 0 0 Q (pc + 3) L (.int r :: rest) τ) : AW E layC p l e (rmD D) ms m args below meth c nL 0 0 Q pc L (.int a5 :: .int a4 :: .int a3 :: .int a2 :: .int a1 :: .int a0 :: rest) σ :=
  s_callS X [.int a0, .int a1, .int a2, .int a3, .int a4, .int a5] rest hM hd w1 g_396 g_78 g_397 nX1_leaves rfl rfl hrs (Nat.le_of_ble_eq_true rfl) hR k
def fX1_leaves (a0 : Int32) (a1 : Int32) (a2 : Int32) (a3 : Int32) (a4 : Int32) (a5 : Int32) (s0 : St) : Option (Int32 × St) :=
    jn (fun (w1 : Int32) =>
    if a0 = 1 then
    some (a4 / 2, s0)
    else if a0 = 2 then
    bd2 (fX1_asLady ((a4 / 3) + w1) a2 s0) fun u6 s4 =>
    some (u6, s4)
    else if a0 = 3 then
    bd2 (fX1_asSubaltern ((a4 / 3) + w1) a2 a4 s0) fun u10 s8 =>
    some (u10, s8)
    else if a0 = 4 then
    some ((a4 / 2) - 1, s0)
    else if a0 = 5 then
    jn (fun (_ : Unit) =>
    bd2 (fX1_asLady ((a4 / 3) + w1) a2 s0) fun u15 s13 =>
    some (u15, s13)) fun j92 =>
    if (irm a5 2) = 0 then
    j92 ()
    else
    if a1 ≤ a4 then
    j92 ()
    else
    some (4, s0)
    else if a0 = 6 then
    bd2 (fX1_asSubaltern ((a4 / 3) + w1) a2 a4 s0) fun u21 s19 =>
    some (u21 + (a1 / 3), s19)
    else some ((a4 / 3) + w1, s0)) fun j14 =>
    if a3 ≤ 5 then
    j14 0
    else
    j14 1
set_option maxHeartbeats 4000000 in
set_option maxRecDepth 100000 in
theorem ctX1_leaves {l : Launch} {E : EE} {a0 : Int32} {a1 : Int32} {a2 : Int32} {a3 : Int32} {a4 : Int32} {a5 : Int32} {s0 : St} {r9 : Int32} {t9 : St}  (h : fX1_leaves a0 a1 a2 a3 a4 a5 s0 = some (r9, t9)) : Ct l E layC yX1_leaves cX1_leaves 7 (some .int) 1 [.int a0, .int a1, .int a2, .int a3, .int a4, .int a5] s0 (some (.int r9)) t9 := by
  refine Ct.of (by decide) (Nat.le_of_ble_eq_true rfl) ?_
  intro p e ms m below meth c X hlk hr
  have X : Cx E layC p ms m [.int a0, .int a1, .int a2, .int a3, .int a4, .int a5].toArray c cX1_leaves RX1 7 := X
  refine r_sub (L' := [(0, .int a0), (1, .int a1), (2, .int a2), (3, .int a3), (4, .int a4), (5, .int a5)]) [0, 1, 2, 3, 4, 5] rfl ?_
  unfold fX1_leaves at h
  refine r_iload X dX1_leaves_0 4 rfl ?_
  refine r_iconst X dX1_leaves_2 (v := 3) (by decide) ?_
  refine r_idiv X dX1_leaves_3 (by decide) ?_
  refine r_iload_n X dX1_leaves_4 3 rfl rfl ?_
  refine r_iconst X dX1_leaves_5 (v := 5) (by decide) ?_
  obtain ⟨j14, ej14, h⟩ := jn1_ok h
  have hj14 : ∀ (w1 : Int32), j14 w1 = some (r9, t9) → AW E layC p l e (rmD 1) ms m [.int a0, .int a1, .int a2, .int a3, .int a4, .int a5].toArray below meth c 7 0 0 (MQc E layC below [.int a0, .int a1, .int a2, .int a3, .int a4, .int a5].toArray ms (some (.int r9)) t9) 14 [(0, .int a0), (1, .int a1), (2, .int a2), (4, .int a4), (5, .int a5)] [.int w1, .int (a4 / 3)] s0 := by
    intro w1 h
    rw [ej14] at h
    refine r_iadd X dX1_leaves_14 ?_
    refine r_istore (L' := [(0, .int a0), (1, .int a1), (2, .int a2), (4, .int a4), (5, .int a5), (6, .int ((a4 / 3) + w1))]) X dX1_leaves_15 [1, 2, 3, 4, 5, 0] rfl (Nat.le_of_ble_eq_true rfl) ?_
    refine r_iload_n X dX1_leaves_17 0 rfl rfl ?_
    by_cases c2 : a0 = 1
    · rw [if_pos c2] at h
      refine r_tabIn X 56 (1) (by rw [c2]; decide) dX1_leaves_18 (by decide) (by decide) rfl (by decide) ?_
      refine r_iload X dX1_leaves_56 3 rfl ?_
      refine r_iconst X dX1_leaves_58 (v := 2) (by decide) ?_
      refine r_idiv X dX1_leaves_59 (by decide) ?_
      exact s_iret X hlk hr dX1_leaves_60 h
    rw [if_neg c2] at h
    by_cases c3 : a0 = 2
    · rw [if_pos c3] at h
      refine r_tabIn X 68 (2) (by rw [c3]; decide) dX1_leaves_18 (by decide) (by decide) rfl (by decide) ?_
      refine r_iload X dX1_leaves_68 5 rfl ?_
      refine r_iload_n X dX1_leaves_70 2 rfl rfl ?_
      obtain ⟨u6, s4, e5, h⟩ := bd2_ok h
      refine kX1_asLady X (ctX1_asLady e5) dX1_leaves_71 g_398 (Nat.le_of_ble_eq_true rfl) (Nat.le_of_ble_eq_true rfl) ?_
      exact s_iret X hlk hr dX1_leaves_74 h
    rw [if_neg c3] at h
    by_cases c7 : a0 = 3
    · rw [if_pos c7] at h
      refine r_tabIn X 99 (3) (by rw [c7]; decide) dX1_leaves_18 (by decide) (by decide) rfl (by decide) ?_
      refine r_iload X dX1_leaves_99 5 rfl ?_
      refine r_iload_n X dX1_leaves_101 2 rfl rfl ?_
      refine r_iload X dX1_leaves_102 3 rfl ?_
      obtain ⟨u10, s8, e9, h⟩ := bd2_ok h
      refine kX1_asSubaltern X (ctX1_asSubaltern e9) dX1_leaves_104 g_401 (Nat.le_of_ble_eq_true rfl) (Nat.le_of_ble_eq_true rfl) ?_
      exact s_iret X hlk hr dX1_leaves_107 h
    rw [if_neg c7] at h
    by_cases c11 : a0 = 4
    · rw [if_pos c11] at h
      refine r_tabIn X 61 (4) (by rw [c11]; decide) dX1_leaves_18 (by decide) (by decide) rfl (by decide) ?_
      refine r_iload X dX1_leaves_61 3 rfl ?_
      refine r_iconst X dX1_leaves_63 (v := 2) (by decide) ?_
      refine r_idiv X dX1_leaves_64 (by decide) ?_
      refine r_iconst X dX1_leaves_65 (v := 1) (by decide) ?_
      refine r_isub X dX1_leaves_66 ?_
      exact s_iret X hlk hr dX1_leaves_67 h
    rw [if_neg c11] at h
    by_cases c12 : a0 = 5
    · rw [if_pos c12] at h
      refine r_tabIn X 75 (5) (by rw [c12]; decide) dX1_leaves_18 (by decide) (by decide) rfl (by decide) ?_
      refine r_iload X dX1_leaves_75 4 rfl ?_
      refine r_iconst X dX1_leaves_77 (v := 2) (by decide) ?_
      refine s_irem X dX1_leaves_78 (by decide) ?_
      obtain ⟨j92, ej92, h⟩ := jn1_ok h
      have hj92 : ∀ (u : Unit), j92 u = some (r9, t9) → AW E layC p l e (rmD 1) ms m [.int a0, .int a1, .int a2, .int a3, .int a4, .int a5].toArray below meth c 7 0 0 (MQc E layC below [.int a0, .int a1, .int a2, .int a3, .int a4, .int a5].toArray ms (some (.int r9)) t9) 92 [(2, .int a2), (6, .int ((a4 / 3) + w1))] [] s0 := by
        intro u h
        rw [ej92] at h
        refine r_iload X dX1_leaves_92 1 rfl ?_
        refine r_iload_n X dX1_leaves_94 0 rfl rfl ?_
        obtain ⟨u15, s13, e14, h⟩ := bd2_ok h
        refine kX1_asLady X (ctX1_asLady e14) dX1_leaves_95 g_398 (Nat.le_of_ble_eq_true rfl) (Nat.le_of_ble_eq_true rfl) ?_
        exact s_iret X hlk hr dX1_leaves_98 h
      refine r_if_eq X 92 dX1_leaves_79 (by decide) (fun c17 => ?_) (fun c17 => ?_)
      · rw [if_pos c17] at h
        refine r_sub (L' := [(2, .int a2), (6, .int ((a4 / 3) + w1))]) [2, 5] rfl ?_
        exact hj92 _ h
      · rw [if_neg c17] at h
        refine r_iload_n X dX1_leaves_82 1 rfl rfl ?_
        refine r_iload X dX1_leaves_83 3 rfl ?_
        refine r_icmp_le X 92 dX1_leaves_85 (by decide) (fun c16 => ?_) (fun c16 => ?_)
        · rw [if_pos c16] at h
          refine r_sub (L' := [(2, .int a2), (6, .int ((a4 / 3) + w1))]) [2, 5] rfl ?_
          exact hj92 _ h
        · rw [if_neg c16] at h
          refine r_iconst X dX1_leaves_88 (v := 4) (by decide) ?_
          refine r_goto X 98 dX1_leaves_89 (by decide) ?_
          exact s_iret X hlk hr dX1_leaves_98 h
    rw [if_neg c12] at h
    by_cases c18 : a0 = 6
    · rw [if_pos c18] at h
      refine r_tabIn X 108 (6) (by rw [c18]; decide) dX1_leaves_18 (by decide) (by decide) rfl (by decide) ?_
      refine r_iload X dX1_leaves_108 5 rfl ?_
      refine r_iload_n X dX1_leaves_110 2 rfl rfl ?_
      refine r_iload X dX1_leaves_111 3 rfl ?_
      obtain ⟨u21, s19, e20, h⟩ := bd2_ok h
      refine kX1_asSubaltern X (ctX1_asSubaltern e20) dX1_leaves_113 g_401 (Nat.le_of_ble_eq_true rfl) (Nat.le_of_ble_eq_true rfl) ?_
      refine r_iload_n X dX1_leaves_116 1 rfl rfl ?_
      refine r_iconst X dX1_leaves_117 (v := 3) (by decide) ?_
      refine r_idiv X dX1_leaves_118 (by decide) ?_
      refine r_iadd X dX1_leaves_119 ?_
      exact s_iret X hlk hr dX1_leaves_120 h
    rw [if_neg c18] at h
    have nc2 := lv_neT (k := 1) c2 (a := 1) (by decide)
    have nc3 := lv_neT (k := 2) c3 (a := 2) (by decide)
    have nc7 := lv_neT (k := 3) c7 (a := 3) (by decide)
    have nc11 := lv_neT (k := 4) c11 (a := 4) (by decide)
    have nc12 := lv_neT (k := 5) c12 (a := 5) (by decide)
    have nc18 := lv_neT (k := 6) c18 (a := 6) (by decide)
    refine r_tabOut X 121 dX1_leaves_18 (by omega) (by decide) ?_
    refine r_iload X dX1_leaves_121 5 rfl ?_
    exact s_iret X hlk hr dX1_leaves_123 h
  refine r_icmp_le X 13 dX1_leaves_6 (by decide) (fun c22 => ?_) (fun c22 => ?_)
  · rw [if_pos c22] at h
    refine r_iconst X dX1_leaves_13 (v := 0) (by decide) ?_
    refine r_sub (L' := [(0, .int a0), (1, .int a1), (2, .int a2), (4, .int a4), (5, .int a5)]) [0, 1, 2, 4, 5] rfl ?_
    exact hj14 _ h
  · rw [if_neg c22] at h
    refine r_iconst X dX1_leaves_9 (v := 1) (by decide) ?_
    refine r_goto X 14 dX1_leaves_10 (by decide) ?_
    refine r_sub (L' := [(0, .int a0), (1, .int a1), (2, .int a2), (4, .int a4), (5, .int a5)]) [0, 1, 2, 4, 5] rfl ?_
    exact hj14 _ h
/-! X2_operand -/
theorem nX2_operand : yX2_operand.cls ≠ "java/lang/invoke/MethodHandle" ∧ yX2_operand.cls ≠ "java/lang/invoke/VarHandle" ∧ (parseMethodDescriptor yX2_operand.desc).map (fun d => d.parameters.length) = some 4 := by decide +kernel
theorem kX2_operand {l : Launch} {E : EE} {p : Program} {e : Env} {ms : State} {m : MethodId} {args : Array Value} {below : List Frame} {meth : Method} {c : Code} {cc : ByteArray} {own : String} {nL pc idx d D : Nat} {Q : State → Prop} {L : List (Nat × Value)} {rest : List Value} {σ τ : St} {a0 : Int32} {a1 : Int32} {a2 : Int32} {a3 : Int32} {r : Int32} (X : Cx E layC p ms m args c cc own nL) (hM : Ct l E layC yX2_operand cX2_operand 4 (some .int) d [.int a0, .int a1, .int a2, .int a3] σ (some (.int r)) τ) (hd : decode cc pc = .ok (.invokestatic idx, 3)) (w1 : Cond.methodLink own idx yX2_operand ∈ gw) (hR : d + 1 ≤ D) (hrs : (rest.map fun v => v.category).sum ≤ 8) (k : AW E layC p l e (rmD D) ms m args below meth c nL 0 0 Q (pc + 3) L (.int r :: rest) τ) : AW E layC p l e (rmD D) ms m args below meth c nL 0 0 Q pc L (.int a3 :: .int a2 :: .int a1 :: .int a0 :: rest) σ :=
  s_callS X [.int a0, .int a1, .int a2, .int a3] rest hM hd w1 g_413 g_72 g_414 nX2_operand rfl rfl hrs (Nat.le_of_ble_eq_true rfl) hR k
def fX2_operand (a0 : Int32) (a1 : Int32) (a2 : Int32) (a3 : Int32) (s0 : St) : Option (Int32 × St) :=
    if a0 = (-3) then
    some (a3, s0)
    else if a0 = (-2) then
    some (a2, s0)
    else if a0 = (-1) then
    some (a1, s0)
    else some (a0, s0)
set_option maxHeartbeats 4000000 in
set_option maxRecDepth 100000 in
theorem ctX2_operand {l : Launch} {E : EE} {a0 : Int32} {a1 : Int32} {a2 : Int32} {a3 : Int32} {s0 : St} {r9 : Int32} {t9 : St}  (h : fX2_operand a0 a1 a2 a3 s0 = some (r9, t9)) : Ct l E layC yX2_operand cX2_operand 4 (some .int) 0 [.int a0, .int a1, .int a2, .int a3] s0 (some (.int r9)) t9 := by
  refine Ct.of (by decide) (Nat.le_of_ble_eq_true rfl) ?_
  intro p e ms m below meth c X hlk hr
  have X : Cx E layC p ms m [.int a0, .int a1, .int a2, .int a3].toArray c cX2_operand RX2 4 := X
  refine r_sub (L' := [(0, .int a0), (1, .int a1), (2, .int a2), (3, .int a3)]) [0, 1, 2, 3] rfl ?_
  unfold fX2_operand at h
  refine r_iload_n X dX2_operand_0 0 rfl rfl ?_
  by_cases c1 : a0 = (-3)
  · rw [if_pos c1] at h
    refine r_tabIn X 32 (-3) (by rw [c1]; decide) dX2_operand_1 (by decide) (by decide) rfl (by decide) ?_
    refine r_iload_n X dX2_operand_32 3 rfl rfl ?_
    exact s_iret X hlk hr dX2_operand_33 h
  rw [if_neg c1] at h
  by_cases c2 : a0 = (-2)
  · rw [if_pos c2] at h
    refine r_tabIn X 30 (-2) (by rw [c2]; decide) dX2_operand_1 (by decide) (by decide) rfl (by decide) ?_
    refine r_iload_n X dX2_operand_30 2 rfl rfl ?_
    exact s_iret X hlk hr dX2_operand_31 h
  rw [if_neg c2] at h
  by_cases c3 : a0 = (-1)
  · rw [if_pos c3] at h
    refine r_tabIn X 28 (-1) (by rw [c3]; decide) dX2_operand_1 (by decide) (by decide) rfl (by decide) ?_
    refine r_iload_n X dX2_operand_28 1 rfl rfl ?_
    exact s_iret X hlk hr dX2_operand_29 h
  rw [if_neg c3] at h
  have nc1 := lv_neT (k := (-3)) c1 (a := -3) (by decide)
  have nc2 := lv_neT (k := (-2)) c2 (a := -2) (by decide)
  have nc3 := lv_neT (k := (-1)) c3 (a := -1) (by decide)
  refine r_tabOut X 34 dX2_operand_1 (by omega) (by decide) ?_
  refine r_iload_n X dX2_operand_34 0 rfl rfl ?_
  exact s_iret X hlk hr dX2_operand_35 h
/-! X2_joined -/
theorem nX2_joined : yX2_joined.cls ≠ "java/lang/invoke/MethodHandle" ∧ yX2_joined.cls ≠ "java/lang/invoke/VarHandle" ∧ (parseMethodDescriptor yX2_joined.desc).map (fun d => d.parameters.length) = some 3 := by decide +kernel
theorem kX2_joined {l : Launch} {E : EE} {p : Program} {e : Env} {ms : State} {m : MethodId} {args : Array Value} {below : List Frame} {meth : Method} {c : Code} {cc : ByteArray} {own : String} {nL pc idx d D : Nat} {Q : State → Prop} {L : List (Nat × Value)} {rest : List Value} {σ τ : St} {a0 : Int32} {a1 : Int32} {a2 : Int32} {r : Int32} (X : Cx E layC p ms m args c cc own nL) (hM : Ct l E layC yX2_joined cX2_joined 3 (some .int) d [.int a0, .int a1, .int a2] σ (some (.int r)) τ) (hd : decode cc pc = .ok (.invokestatic idx, 3)) (w1 : Cond.methodLink own idx yX2_joined ∈ gw) (hR : d + 1 ≤ D) (hrs : (rest.map fun v => v.category).sum ≤ 8) (k : AW E layC p l e (rmD D) ms m args below meth c nL 0 0 Q (pc + 3) L (.int r :: rest) τ) : AW E layC p l e (rmD D) ms m args below meth c nL 0 0 Q pc L (.int a2 :: .int a1 :: .int a0 :: rest) σ :=
  s_callS X [.int a0, .int a1, .int a2] rest hM hd w1 g_416 g_72 g_417 nX2_joined rfl rfl hrs (Nat.le_of_ble_eq_true rfl) hR k
def fX2_joined (a0 : Int32) (a1 : Int32) (a2 : Int32) (s0 : St) : Option (Int32 × St) :=
    if a0 = 38 then
    jn (fun (_ : Unit) =>
    some (0, s0)) fun j110 =>
    if a1 = 0 then
    j110 ()
    else
    if a2 = 0 then
    j110 ()
    else
    some (1, s0)
    else if a0 = 42 then
    some (a1 * a2, s0)
    else if a0 = 43 then
    some (a1 + a2, s0)
    else if a0 = 45 then
    some (a1 - a2, s0)
    else if a0 = 47 then
    if a2 = 0 then
    some (0, s0)
    else
    gz a2 <| some (a1 / a2, s0)
    else if a0 = 60 then
    if a2 ≤ a1 then
    some (0, s0)
    else
    some (1, s0)
    else if a0 = 61 then
    if a1 = a2 then
    some (1, s0)
    else
    some (0, s0)
    else if a0 = 62 then
    if a1 ≤ a2 then
    some (0, s0)
    else
    some (1, s0)
    else if a0 = 124 then
    jn (fun (_ : Unit) =>
    some (1, s0)) fun j92 =>
    if a1 = 0 then
    if a2 = 0 then
    some (0, s0)
    else
    j92 ()
    else
    j92 ()
    else if a2 = 0 then
    some (0, s0)
    else
    gz a2 <| some (irm a1 a2, s0)
set_option maxHeartbeats 4000000 in
set_option maxRecDepth 100000 in
theorem ctX2_joined {l : Launch} {E : EE} {a0 : Int32} {a1 : Int32} {a2 : Int32} {s0 : St} {r9 : Int32} {t9 : St}  (h : fX2_joined a0 a1 a2 s0 = some (r9, t9)) : Ct l E layC yX2_joined cX2_joined 3 (some .int) 0 [.int a0, .int a1, .int a2] s0 (some (.int r9)) t9 := by
  refine Ct.of (by decide) (Nat.le_of_ble_eq_true rfl) ?_
  intro p e ms m below meth c X hlk hr
  have X : Cx E layC p ms m [.int a0, .int a1, .int a2].toArray c cX2_joined RX2 3 := X
  refine r_sub (L' := [(0, .int a0), (1, .int a1), (2, .int a2)]) [0, 1, 2] rfl ?_
  unfold fX2_joined at h
  refine r_iload_n X dX2_joined_0 0 rfl rfl ?_
  by_cases c1 : a0 = 38
  · rw [if_pos c1] at h
    refine r_lookup X 98 dX2_joined_1 (by decide) (by rw [c1] <;> rfl) (by decide) ?_
    refine r_iload_n X dX2_joined_98 1 rfl rfl ?_
    obtain ⟨j110, ej110, h⟩ := jn1_ok h
    have hj110 : ∀ (u : Unit), j110 u = some (r9, t9) → AW E layC p l e (rmD 0) ms m [.int a0, .int a1, .int a2].toArray below meth c 3 0 0 (MQc E layC below [.int a0, .int a1, .int a2].toArray ms (some (.int r9)) t9) 110 [] [] s0 := by
      intro u h
      rw [ej110] at h
      refine r_iconst X dX2_joined_110 (v := 0) (by decide) ?_
      exact s_iret X hlk hr dX2_joined_111 h
    refine r_if_eq X 110 dX2_joined_99 (by decide) (fun c3 => ?_) (fun c3 => ?_)
    · rw [if_pos c3] at h
      refine r_sub (L' := []) [] rfl ?_
      exact hj110 _ h
    · rw [if_neg c3] at h
      refine r_iload_n X dX2_joined_102 2 rfl rfl ?_
      refine r_if_eq X 110 dX2_joined_103 (by decide) (fun c2 => ?_) (fun c2 => ?_)
      · rw [if_pos c2] at h
        refine r_sub (L' := []) [] rfl ?_
        exact hj110 _ h
      · rw [if_neg c2] at h
        refine r_iconst X dX2_joined_106 (v := 1) (by decide) ?_
        refine r_goto X 111 dX2_joined_107 (by decide) ?_
        exact s_iret X hlk hr dX2_joined_111 h
  rw [if_neg c1] at h
  by_cases c4 : a0 = 42
  · rw [if_pos c4] at h
    refine r_lookup X 153 dX2_joined_1 (by decide) (by rw [c4] <;> rfl) (by decide) ?_
    refine r_iload_n X dX2_joined_153 1 rfl rfl ?_
    refine r_iload_n X dX2_joined_154 2 rfl rfl ?_
    refine r_imul X dX2_joined_155 ?_
    exact s_iret X hlk hr dX2_joined_156 h
  rw [if_neg c4] at h
  by_cases c5 : a0 = 43
  · rw [if_pos c5] at h
    refine r_lookup X 145 dX2_joined_1 (by decide) (by rw [c5] <;> rfl) (by decide) ?_
    refine r_iload_n X dX2_joined_145 1 rfl rfl ?_
    refine r_iload_n X dX2_joined_146 2 rfl rfl ?_
    refine r_iadd X dX2_joined_147 ?_
    exact s_iret X hlk hr dX2_joined_148 h
  rw [if_neg c5] at h
  by_cases c6 : a0 = 45
  · rw [if_pos c6] at h
    refine r_lookup X 149 dX2_joined_1 (by decide) (by rw [c6] <;> rfl) (by decide) ?_
    refine r_iload_n X dX2_joined_149 1 rfl rfl ?_
    refine r_iload_n X dX2_joined_150 2 rfl rfl ?_
    refine r_isub X dX2_joined_151 ?_
    exact s_iret X hlk hr dX2_joined_152 h
  rw [if_neg c6] at h
  by_cases c7 : a0 = 47
  · rw [if_pos c7] at h
    refine r_lookup X 157 dX2_joined_1 (by decide) (by rw [c7] <;> rfl) (by decide) ?_
    refine r_iload_n X dX2_joined_157 2 rfl rfl ?_
    refine r_if_ne X 165 dX2_joined_158 (by decide) (fun c9 => ?_) (fun c9 => ?_)
    · rw [if_neg c9] at h
      refine r_iload_n X dX2_joined_165 1 rfl rfl ?_
      refine r_iload_n X dX2_joined_166 2 rfl rfl ?_
      obtain ⟨g8, h⟩ := gz_ok h
      refine r_idiv X dX2_joined_167 g8 ?_
      exact s_iret X hlk hr dX2_joined_168 h
    · rw [if_pos c9] at h
      refine r_iconst X dX2_joined_161 (v := 0) (by decide) ?_
      refine r_goto X 168 dX2_joined_162 (by decide) ?_
      exact s_iret X hlk hr dX2_joined_168 h
  rw [if_neg c7] at h
  by_cases c10 : a0 = 60
  · rw [if_pos c10] at h
    refine r_lookup X 112 dX2_joined_1 (by decide) (by rw [c10] <;> rfl) (by decide) ?_
    refine r_iload_n X dX2_joined_112 1 rfl rfl ?_
    refine r_iload_n X dX2_joined_113 2 rfl rfl ?_
    refine r_icmp_ge X 121 dX2_joined_114 (by decide) (fun c11 => ?_) (fun c11 => ?_)
    · rw [if_pos c11] at h
      refine r_iconst X dX2_joined_121 (v := 0) (by decide) ?_
      exact s_iret X hlk hr dX2_joined_122 h
    · rw [if_neg c11] at h
      refine r_iconst X dX2_joined_117 (v := 1) (by decide) ?_
      refine r_goto X 122 dX2_joined_118 (by decide) ?_
      exact s_iret X hlk hr dX2_joined_122 h
  rw [if_neg c10] at h
  by_cases c12 : a0 = 61
  · rw [if_pos c12] at h
    refine r_lookup X 123 dX2_joined_1 (by decide) (by rw [c12] <;> rfl) (by decide) ?_
    refine r_iload_n X dX2_joined_123 1 rfl rfl ?_
    refine r_iload_n X dX2_joined_124 2 rfl rfl ?_
    refine r_icmp_ne X 132 dX2_joined_125 (by decide) (fun c13 => ?_) (fun c13 => ?_)
    · rw [if_neg c13] at h
      refine r_iconst X dX2_joined_132 (v := 0) (by decide) ?_
      exact s_iret X hlk hr dX2_joined_133 h
    · rw [if_pos c13] at h
      refine r_iconst X dX2_joined_128 (v := 1) (by decide) ?_
      refine r_goto X 133 dX2_joined_129 (by decide) ?_
      exact s_iret X hlk hr dX2_joined_133 h
  rw [if_neg c12] at h
  by_cases c14 : a0 = 62
  · rw [if_pos c14] at h
    refine r_lookup X 134 dX2_joined_1 (by decide) (by rw [c14] <;> rfl) (by decide) ?_
    refine r_iload_n X dX2_joined_134 1 rfl rfl ?_
    refine r_iload_n X dX2_joined_135 2 rfl rfl ?_
    refine r_icmp_le X 143 dX2_joined_136 (by decide) (fun c15 => ?_) (fun c15 => ?_)
    · rw [if_pos c15] at h
      refine r_iconst X dX2_joined_143 (v := 0) (by decide) ?_
      exact s_iret X hlk hr dX2_joined_144 h
    · rw [if_neg c15] at h
      refine r_iconst X dX2_joined_139 (v := 1) (by decide) ?_
      refine r_goto X 144 dX2_joined_140 (by decide) ?_
      exact s_iret X hlk hr dX2_joined_144 h
  rw [if_neg c14] at h
  by_cases c16 : a0 = 124
  · rw [if_pos c16] at h
    refine r_lookup X 84 dX2_joined_1 (by decide) (by rw [c16] <;> rfl) (by decide) ?_
    refine r_iload_n X dX2_joined_84 1 rfl rfl ?_
    obtain ⟨j92, ej92, h⟩ := jn1_ok h
    have hj92 : ∀ (u : Unit), j92 u = some (r9, t9) → AW E layC p l e (rmD 0) ms m [.int a0, .int a1, .int a2].toArray below meth c 3 0 0 (MQc E layC below [.int a0, .int a1, .int a2].toArray ms (some (.int r9)) t9) 92 [] [] s0 := by
      intro u h
      rw [ej92] at h
      refine r_iconst X dX2_joined_92 (v := 1) (by decide) ?_
      refine r_goto X 97 dX2_joined_93 (by decide) ?_
      exact s_iret X hlk hr dX2_joined_97 h
    refine r_if_ne X 92 dX2_joined_85 (by decide) (fun c18 => ?_) (fun c18 => ?_)
    · rw [if_neg c18] at h
      refine r_sub (L' := []) [] rfl ?_
      exact hj92 _ h
    · rw [if_pos c18] at h
      refine r_iload_n X dX2_joined_88 2 rfl rfl ?_
      refine r_if_eq X 96 dX2_joined_89 (by decide) (fun c17 => ?_) (fun c17 => ?_)
      · rw [if_pos c17] at h
        refine r_iconst X dX2_joined_96 (v := 0) (by decide) ?_
        exact s_iret X hlk hr dX2_joined_97 h
      · rw [if_neg c17] at h
        refine r_sub (L' := []) [] rfl ?_
        exact hj92 _ h
  rw [if_neg c16] at h
  refine r_lookup (off := 168) X 169 dX2_joined_1 (by decide) ((lv_osw (k := 38) c1 (by decide)).trans ((lv_osw (k := 42) c4 (by decide)).trans ((lv_osw (k := 43) c5 (by decide)).trans ((lv_osw (k := 45) c6 (by decide)).trans ((lv_osw (k := 47) c7 (by decide)).trans ((lv_osw (k := 60) c10 (by decide)).trans ((lv_osw (k := 61) c12 (by decide)).trans ((lv_osw (k := 62) c14 (by decide)).trans ((lv_osw (k := 124) c16 (by decide)).trans rfl))))))))) (by decide) ?_
  refine r_iload_n X dX2_joined_169 2 rfl rfl ?_
  refine r_if_ne X 177 dX2_joined_170 (by decide) (fun c20 => ?_) (fun c20 => ?_)
  · rw [if_neg c20] at h
    refine r_iload_n X dX2_joined_177 1 rfl rfl ?_
    refine r_iload_n X dX2_joined_178 2 rfl rfl ?_
    obtain ⟨g19, h⟩ := gz_ok h
    refine s_irem X dX2_joined_179 g19 ?_
    exact s_iret X hlk hr dX2_joined_180 h
  · rw [if_pos c20] at h
    refine r_iconst X dX2_joined_173 (v := 0) (by decide) ?_
    refine r_goto X 180 dX2_joined_174 (by decide) ?_
    exact s_iret X hlk hr dX2_joined_180 h
/-! X2_workedOut -/
theorem nX2_workedOut : yX2_workedOut.cls ≠ "java/lang/invoke/MethodHandle" ∧ yX2_workedOut.cls ≠ "java/lang/invoke/VarHandle" ∧ (parseMethodDescriptor yX2_workedOut.desc).map (fun d => d.parameters.length) = some 4 := by decide +kernel
theorem kX2_workedOut {l : Launch} {E : EE} {p : Program} {e : Env} {ms : State} {m : MethodId} {args : Array Value} {below : List Frame} {meth : Method} {c : Code} {cc : ByteArray} {own : String} {nL pc idx d D : Nat} {Q : State → Prop} {L : List (Nat × Value)} {rest : List Value} {σ τ : St} {a1 : Int32} {a2 : Int32} {a3 : Int32} {a4 : Int32} {r : Int32} {fl : List (Option Nat)} (X : Cx E layC p ms m args c cc own nL) (hM : Ct l E layC yX2_workedOut cX2_workedOut 9 (some .int) d [.ref (ea E 49), .int a1, .int a2, .int a3, .int a4] σ (some (.int r)) τ) (hd : decode cc pc = .ok (.invokevirtual idx, 3)) (hlay : layC[49]? = some (.inl (1, fl))) (w1 : Cond.methodLink own idx yX2_workedOut ∈ gw) (hR : d + 1 ≤ D) (hrs : (rest.map fun v => v.category).sum ≤ 8) (k : AW E layC p l e (rmD D) ms m args below meth c nL 0 0 Q (pc + 3) L (.int r :: rest) τ) : AW E layC p l e (rmD D) ms m args below meth c nL 0 0 Q pc L (.int a4 :: .int a3 :: .int a2 :: .int a1 :: .ref (ea E 49) :: rest) σ :=
  s_callV X [.int a1, .int a2, .int a3, .int a4] rest hM hd v_X2 hlay w1 g_409 g_410 g_72 g_411 nX2_workedOut rfl rfl hrs (Nat.le_of_ble_eq_true rfl) hR k
def fX2_workedOut_23 (a1 : Int32) (a2 : Int32) (a3 : Int32) (a4 : Int32) (b5 : Nat) : Nat → Int32 → Int32 → St → Option (Int32 × St)
  | 0, _, _, _ => none
  | n + 1, a6, a7, s0 =>
    if (s0 b5 1) ≤ a7 then
    some (a6, s0)
    else
    bd1 (ald s0 (b5 + 1) (rl b5) a7) fun v2 =>
    jn (fun (w3 : Int32) (s4 : St) =>
    fX2_workedOut_23 a1 a2 a3 a4 b5 n w3 (a7 + 1) s4) fun j164 =>
    jn (fun (_ : Unit) =>
    jn (fun (_ : Unit) =>
    if a6 < 2 then
    j164 a6 s0
    else
    bd1 (ald s0 50 50 ((a6 + (-1)) - 1)) fun v6 =>
    bd1 (ald s0 50 50 (a6 + (-1))) fun v8 =>
    bd2 (fX2_joined (-v2) v6 v8 s0) fun u11 s9 =>
    bd1 (ast s9 50 50 ((a6 + (-1)) - 1) u11) fun s13 =>
    j164 (a6 + (-1)) s13) fun j124 =>
    if v2 = (-33) then
    if a6 < 1 then
    j124 ()
    else
    bd1 (ald s0 50 50 (a6 - 1)) fun v16 =>
    jn (fun (w17 : Int32) =>
    bd1 (ast s0 50 50 (a6 - 1) w17) fun s19 =>
    j164 a6 s19) fun j120 =>
    if v16 = 0 then
    j120 1
    else
    j120 0
    else
    j124 ()) fun j82 =>
    if v2 < (-3) then
    j82 ()
    else
    if 50 ≤ a6 then
    j82 ()
    else
    bd2 (fX2_operand v2 a2 a3 a4 s0) fun u25 s23 =>
    bd1 (ast s23 50 50 a6 u25) fun s27 =>
    j164 (a6 + 1) s27
def fX2_workedOut (a1 : Int32) (a2 : Int32) (a3 : Int32) (a4 : Int32) (s0 : St) : Option (Int32 × St) :=
    if a1 = 0 then
    bd2 (fX2_workedOut_23 a1 a2 a3 a4 16 FU 0 0 s0) fun v40 s39 =>
    jn (fun (w41 : Int32) =>
    jn (fun (w42 : Int32) =>
    some (imx 0 (imn w42 w41), s39)) fun j201 =>
    if a1 = 0 then
    j201 4
    else
    j201 9) fun j188 =>
    if v40 ≤ 0 then
    j188 a2
    else
    bd1 (ald s39 50 50 (v40 - 1)) fun v45 =>
    j188 v45
    else
    bd2 (fX2_workedOut_23 a1 a2 a3 a4 18 FU 0 0 s0) fun v32 s31 =>
    jn (fun (w33 : Int32) =>
    jn (fun (w34 : Int32) =>
    some (imx 0 (imn w34 w33), s31)) fun j201 =>
    if a1 = 0 then
    j201 4
    else
    j201 9) fun j188 =>
    if v32 ≤ 0 then
    j188 a2
    else
    bd1 (ald s31 50 50 (v32 - 1)) fun v37 =>
    j188 v37
set_option maxHeartbeats 4000000 in
set_option maxRecDepth 100000 in
theorem LX2_workedOut_23 {l : Launch} {E : EE} {p : Program} {e : Env} {ms : State} {m : MethodId} {args : Array Value} {below : List Frame} {meth : Method} {c : Code} {a1 : Int32} {a2 : Int32} {a3 : Int32} {a4 : Int32} {b5 : Nat} {Q : State → Prop} (X : Cx E layC p ms m args c cX2_workedOut RX2 9) (hb5 : isR b5) : ∀ (n : Nat) (a6 : Int32) (a7 : Int32) (s0 : St) (q6 : Int32) (t8 : St), fX2_workedOut_23 a1 a2 a3 a4 b5 n a6 a7 s0 = some (q6, t8) → AW E layC p l e (rmD 1) ms m args below meth c 9 0 0 Q 170 [(0, .ref (ea E 49)), (1, .int a1), (2, .int a2), (6, .int q6)] [] t8 → AW E layC p l e (rmD 1) ms m args below meth c 9 0 0 Q 23 [(0, .ref (ea E 49)), (1, .int a1), (2, .int a2), (3, .int a3), (4, .int a4), (5, .ref (ea E b5)), (6, .int a6), (7, .int a7)] [] s0 := by
  intro n
  induction n with
  | zero =>
    intro a6 a7 s0 q6 t8 h hE
    cases h
  | succ n ih =>
    intro a6 a7 s0 q6 t8 h hE
    rw [fX2_workedOut_23] at h
    refine r_iload X dX2_workedOut_23 7 rfl ?_
    refine r_aload X dX2_workedOut_25 5 rfl ?_
    refine r_geti X dX2_workedOut_27 i_X4 v_X4 (lR0 hb5) 1 rfl (Nat.le_of_ble_eq_true rfl) g_169 ?_
    refine r_icmp_ge X 170 dX2_workedOut_30 (by decide) (fun c30 => ?_) (fun c30 => ?_)
    · rw [if_pos c30] at h
      refine r_sub (L' := [(0, .ref (ea E 49)), (1, .int a1), (2, .int a2), (6, .int a6)]) [0, 1, 2, 6] rfl ?_
      cases h
      exact hE
    · rw [if_neg c30] at h
      refine r_aload X dX2_workedOut_33 5 rfl ?_
      refine r_getr X dX2_workedOut_35 i_X4 v_X4 (lR0 hb5) 0 rfl (Nat.le_of_ble_eq_true rfl) g_164 ?_
      refine r_iload X dX2_workedOut_38 7 rfl ?_
      obtain ⟨g1, v2, ev2, h⟩ := ld_ok h
      refine s_iald X dX2_workedOut_40 (lR1 hb5) g1 ev2 ?_
      refine r_istore (L' := [(0, .ref (ea E 49)), (1, .int a1), (2, .int a2), (3, .int a3), (4, .int a4), (5, .ref (ea E b5)), (6, .int a6), (7, .int a7), (8, .int v2)]) X dX2_workedOut_41 [1, 2, 3, 4, 5, 6, 7, 8, 0] rfl (Nat.le_of_ble_eq_true rfl) ?_
      refine r_iload X dX2_workedOut_43 8 rfl ?_
      refine r_bipush X dX2_workedOut_45 (v := (-3)) (by decide) ?_
      obtain ⟨j164, ej164, h⟩ := jn2_ok h
      have hj164 : ∀ (w3 : Int32) (s4 : St), j164 w3 s4 = some (q6, t8) → AW E layC p l e (rmD 1) ms m args below meth c 9 0 0 Q 164 [(0, .ref (ea E 49)), (1, .int a1), (2, .int a2), (3, .int a3), (4, .int a4), (5, .ref (ea E b5)), (6, .int w3), (7, .int a7)] [] s4 := by
        intro w3 s4 h
        rw [ej164] at h
        refine r_iinc (L' := [(0, .ref (ea E 49)), (1, .int a1), (2, .int a2), (3, .int a3), (4, .int a4), (5, .ref (ea E b5)), (6, .int w3), (7, .int (a7 + 1))]) (v := a7 + 1) X dX2_workedOut_164 7 rfl rfl [1, 2, 3, 4, 5, 6, 7, 0] rfl (Nat.le_of_ble_eq_true rfl) ?_
        refine r_goto X 23 dX2_workedOut_167 (by decide) ?_
        exact ih _ _ _ _ _ h hE
      obtain ⟨j82, ej82, h⟩ := jn1_ok h
      have hj82 : ∀ (u : Unit), j82 u = some (q6, t8) → AW E layC p l e (rmD 1) ms m args below meth c 9 0 0 Q 82 [(0, .ref (ea E 49)), (1, .int a1), (2, .int a2), (3, .int a3), (4, .int a4), (5, .ref (ea E b5)), (6, .int a6), (7, .int a7), (8, .int v2)] [] s0 := by
        intro u h
        rw [ej82] at h
        refine r_iload X dX2_workedOut_82 8 rfl ?_
        refine r_bipush X dX2_workedOut_84 (v := (-33)) (by decide) ?_
        obtain ⟨j124, ej124, h⟩ := jn1_ok h
        have hj124 : ∀ (u : Unit), j124 u = some (q6, t8) → AW E layC p l e (rmD 1) ms m args below meth c 9 0 0 Q 124 [(0, .ref (ea E 49)), (1, .int a1), (2, .int a2), (3, .int a3), (4, .int a4), (5, .ref (ea E b5)), (6, .int a6), (7, .int a7), (8, .int v2)] [] s0 := by
          intro u h
          rw [ej124] at h
          refine r_iload X dX2_workedOut_124 6 rfl ?_
          refine r_iconst X dX2_workedOut_126 (v := 2) (by decide) ?_
          refine r_icmp_lt X 164 dX2_workedOut_127 (by decide) (fun c14 => ?_) (fun c14 => ?_)
          · rw [if_pos c14] at h
            refine r_sub (L' := [(0, .ref (ea E 49)), (1, .int a1), (2, .int a2), (3, .int a3), (4, .int a4), (5, .ref (ea E b5)), (6, .int a6), (7, .int a7)]) [0, 1, 2, 3, 4, 5, 6, 7] rfl ?_
            exact hj164 _ _ h
          · rw [if_neg c14] at h
            refine r_iinc (L' := [(0, .ref (ea E 49)), (1, .int a1), (2, .int a2), (3, .int a3), (4, .int a4), (5, .ref (ea E b5)), (6, .int (a6 + (-1))), (7, .int a7), (8, .int v2)]) (v := a6 + (-1)) X dX2_workedOut_130 6 rfl rfl [1, 2, 3, 4, 5, 6, 0, 7, 8] rfl (Nat.le_of_ble_eq_true rfl) ?_
            refine r_aload_n X dX2_workedOut_133 0 rfl rfl ?_
            refine r_getr X dX2_workedOut_134 i_X2 v_X2 lC_49 2 rfl (Nat.le_of_ble_eq_true rfl) g_214 ?_
            refine r_iload X dX2_workedOut_137 6 rfl ?_
            refine r_iconst X dX2_workedOut_139 (v := 1) (by decide) ?_
            refine r_isub X dX2_workedOut_140 ?_
            refine r_iload X dX2_workedOut_141 8 rfl ?_
            refine r_ineg X dX2_workedOut_143 ?_
            refine r_aload_n X dX2_workedOut_144 0 rfl rfl ?_
            refine r_getr X dX2_workedOut_145 i_X2 v_X2 lC_49 2 rfl (Nat.le_of_ble_eq_true rfl) g_214 ?_
            refine r_iload X dX2_workedOut_148 6 rfl ?_
            refine r_iconst X dX2_workedOut_150 (v := 1) (by decide) ?_
            refine r_isub X dX2_workedOut_151 ?_
            obtain ⟨g5, v6, ev6, h⟩ := ld_ok h
            refine s_iald X dX2_workedOut_152 lC_50 g5 ev6 ?_
            refine r_aload_n X dX2_workedOut_153 0 rfl rfl ?_
            refine r_getr X dX2_workedOut_154 i_X2 v_X2 lC_49 2 rfl (Nat.le_of_ble_eq_true rfl) g_214 ?_
            refine r_iload X dX2_workedOut_157 6 rfl ?_
            obtain ⟨g7, v8, ev8, h⟩ := ld_ok h
            refine s_iald X dX2_workedOut_159 lC_50 g7 ev8 ?_
            obtain ⟨u11, s9, e10, h⟩ := bd2_ok h
            refine kX2_joined X (ctX2_joined e10) dX2_workedOut_160 g_415 (Nat.le_of_ble_eq_true rfl) (Nat.le_of_ble_eq_true rfl) ?_
            obtain ⟨g12, s13, es13, h⟩ := as_ok h
            refine s_iast X dX2_workedOut_163 lC_50 g12 es13 ?_
            refine r_sub (L' := [(0, .ref (ea E 49)), (1, .int a1), (2, .int a2), (3, .int a3), (4, .int a4), (5, .ref (ea E b5)), (6, .int (a6 + (-1))), (7, .int a7)]) [0, 1, 2, 3, 4, 5, 6, 7] rfl ?_
            exact hj164 _ _ h
        refine r_icmp_ne X 124 dX2_workedOut_86 (by decide) (fun c22 => ?_) (fun c22 => ?_)
        · rw [if_neg c22] at h
          exact hj124 _ h
        · rw [if_pos c22] at h
          refine r_iload X dX2_workedOut_89 6 rfl ?_
          refine r_iconst X dX2_workedOut_91 (v := 1) (by decide) ?_
          refine r_icmp_lt X 124 dX2_workedOut_92 (by decide) (fun c21 => ?_) (fun c21 => ?_)
          · rw [if_pos c21] at h
            exact hj124 _ h
          · rw [if_neg c21] at h
            refine r_aload_n X dX2_workedOut_95 0 rfl rfl ?_
            refine r_getr X dX2_workedOut_96 i_X2 v_X2 lC_49 2 rfl (Nat.le_of_ble_eq_true rfl) g_214 ?_
            refine r_iload X dX2_workedOut_99 6 rfl ?_
            refine r_iconst X dX2_workedOut_101 (v := 1) (by decide) ?_
            refine r_isub X dX2_workedOut_102 ?_
            refine r_aload_n X dX2_workedOut_103 0 rfl rfl ?_
            refine r_getr X dX2_workedOut_104 i_X2 v_X2 lC_49 2 rfl (Nat.le_of_ble_eq_true rfl) g_214 ?_
            refine r_iload X dX2_workedOut_107 6 rfl ?_
            refine r_iconst X dX2_workedOut_109 (v := 1) (by decide) ?_
            refine r_isub X dX2_workedOut_110 ?_
            obtain ⟨g15, v16, ev16, h⟩ := ld_ok h
            refine s_iald X dX2_workedOut_111 lC_50 g15 ev16 ?_
            obtain ⟨j120, ej120, h⟩ := jn1_ok h
            have hj120 : ∀ (w17 : Int32), j120 w17 = some (q6, t8) → AW E layC p l e (rmD 1) ms m args below meth c 9 0 0 Q 120 [(0, .ref (ea E 49)), (1, .int a1), (2, .int a2), (3, .int a3), (4, .int a4), (5, .ref (ea E b5)), (6, .int a6), (7, .int a7)] [.int w17, .int (a6 - 1), .ref (ea E 50)] s0 := by
              intro w17 h
              rw [ej120] at h
              obtain ⟨g18, s19, es19, h⟩ := as_ok h
              refine s_iast X dX2_workedOut_120 lC_50 g18 es19 ?_
              refine r_goto X 164 dX2_workedOut_121 (by decide) ?_
              exact hj164 _ _ h
            refine r_if_ne X 119 dX2_workedOut_112 (by decide) (fun c20 => ?_) (fun c20 => ?_)
            · rw [if_neg c20] at h
              refine r_iconst X dX2_workedOut_119 (v := 0) (by decide) ?_
              refine r_sub (L' := [(0, .ref (ea E 49)), (1, .int a1), (2, .int a2), (3, .int a3), (4, .int a4), (5, .ref (ea E b5)), (6, .int a6), (7, .int a7)]) [0, 1, 2, 3, 4, 5, 6, 7] rfl ?_
              exact hj120 _ h
            · rw [if_pos c20] at h
              refine r_iconst X dX2_workedOut_115 (v := 1) (by decide) ?_
              refine r_goto X 120 dX2_workedOut_116 (by decide) ?_
              refine r_sub (L' := [(0, .ref (ea E 49)), (1, .int a1), (2, .int a2), (3, .int a3), (4, .int a4), (5, .ref (ea E b5)), (6, .int a6), (7, .int a7)]) [0, 1, 2, 3, 4, 5, 6, 7] rfl ?_
              exact hj120 _ h
      refine r_icmp_lt X 82 dX2_workedOut_47 (by decide) (fun c29 => ?_) (fun c29 => ?_)
      · rw [if_pos c29] at h
        exact hj82 _ h
      · rw [if_neg c29] at h
        refine r_iload X dX2_workedOut_50 6 rfl ?_
        refine r_aload_n X dX2_workedOut_52 0 rfl rfl ?_
        refine r_getr X dX2_workedOut_53 i_X2 v_X2 lC_49 2 rfl (Nat.le_of_ble_eq_true rfl) g_214 ?_
        refine s_alen X dX2_workedOut_56 lC_50 (v := 50) (by decide) ?_
        refine r_icmp_ge X 82 dX2_workedOut_57 (by decide) (fun c28 => ?_) (fun c28 => ?_)
        · rw [if_pos c28] at h
          exact hj82 _ h
        · rw [if_neg c28] at h
          refine r_aload_n X dX2_workedOut_60 0 rfl rfl ?_
          refine r_getr X dX2_workedOut_61 i_X2 v_X2 lC_49 2 rfl (Nat.le_of_ble_eq_true rfl) g_214 ?_
          refine r_iload X dX2_workedOut_64 6 rfl ?_
          refine r_iload X dX2_workedOut_66 8 rfl ?_
          refine r_iload_n X dX2_workedOut_68 2 rfl rfl ?_
          refine r_iload_n X dX2_workedOut_69 3 rfl rfl ?_
          refine r_iload X dX2_workedOut_70 4 rfl ?_
          obtain ⟨u25, s23, e24, h⟩ := bd2_ok h
          refine kX2_operand X (ctX2_operand e24) dX2_workedOut_72 g_412 (Nat.le_of_ble_eq_true rfl) (Nat.le_of_ble_eq_true rfl) ?_
          obtain ⟨g26, s27, es27, h⟩ := as_ok h
          refine s_iast X dX2_workedOut_75 lC_50 g26 es27 ?_
          refine r_iinc (L' := [(0, .ref (ea E 49)), (1, .int a1), (2, .int a2), (3, .int a3), (4, .int a4), (5, .ref (ea E b5)), (6, .int (a6 + 1)), (7, .int a7), (8, .int v2)]) (v := a6 + 1) X dX2_workedOut_76 6 rfl rfl [1, 2, 3, 4, 5, 6, 0, 7, 8] rfl (Nat.le_of_ble_eq_true rfl) ?_
          refine r_goto X 164 dX2_workedOut_79 (by decide) ?_
          refine r_sub (L' := [(0, .ref (ea E 49)), (1, .int a1), (2, .int a2), (3, .int a3), (4, .int a4), (5, .ref (ea E b5)), (6, .int (a6 + 1)), (7, .int a7)]) [0, 1, 2, 3, 4, 5, 6, 7] rfl ?_
          exact hj164 _ _ h
set_option maxHeartbeats 4000000 in
set_option maxRecDepth 100000 in
theorem ctX2_workedOut {l : Launch} {E : EE} {a1 : Int32} {a2 : Int32} {a3 : Int32} {a4 : Int32} {s0 : St} {r9 : Int32} {t9 : St}  (h : fX2_workedOut a1 a2 a3 a4 s0 = some (r9, t9)) : Ct l E layC yX2_workedOut cX2_workedOut 9 (some .int) 1 [.ref (ea E 49), .int a1, .int a2, .int a3, .int a4] s0 (some (.int r9)) t9 := by
  refine Ct.of (by decide) (Nat.le_of_ble_eq_true rfl) ?_
  intro p e ms m below meth c X hlk hr
  have X : Cx E layC p ms m [.ref (ea E 49), .int a1, .int a2, .int a3, .int a4].toArray c cX2_workedOut RX2 9 := X
  refine r_sub (L' := [(0, .ref (ea E 49)), (1, .int a1), (2, .int a2), (3, .int a3), (4, .int a4)]) [0, 1, 2, 3, 4] rfl ?_
  unfold fX2_workedOut at h
  refine r_iload_n X dX2_workedOut_0 1 rfl rfl ?_
  refine r_if_ne X 11 dX2_workedOut_1 (by decide) (fun c47 => ?_) (fun c47 => ?_)
  · rw [if_neg c47] at h
    refine r_aload_n X dX2_workedOut_11 0 rfl rfl ?_
    refine r_getr X dX2_workedOut_12 i_X2 v_X2 lC_49 1 rfl (Nat.le_of_ble_eq_true rfl) g_213 ?_
    refine r_astore (L' := [(0, .ref (ea E 49)), (1, .int a1), (2, .int a2), (3, .int a3), (4, .int a4), (5, .ref (ea E 18))]) X dX2_workedOut_15 [1, 2, 3, 4, 5, 0] rfl (Nat.le_of_ble_eq_true rfl) ?_
    refine r_iconst X dX2_workedOut_17 (v := 0) (by decide) ?_
    refine r_istore (L' := [(0, .ref (ea E 49)), (1, .int a1), (2, .int a2), (3, .int a3), (4, .int a4), (5, .ref (ea E 18)), (6, .int 0)]) X dX2_workedOut_18 [1, 2, 3, 4, 5, 6, 0] rfl (Nat.le_of_ble_eq_true rfl) ?_
    refine r_iconst X dX2_workedOut_20 (v := 0) (by decide) ?_
    refine r_istore (L' := [(0, .ref (ea E 49)), (1, .int a1), (2, .int a2), (3, .int a3), (4, .int a4), (5, .ref (ea E 18)), (6, .int 0), (7, .int 0)]) X dX2_workedOut_21 [1, 2, 3, 4, 5, 6, 7, 0] rfl (Nat.le_of_ble_eq_true rfl) ?_
    obtain ⟨v32, s31, eo, h⟩ := bd2_ok h
    refine LX2_workedOut_23 X hR_18 FU _ _ _ _ _ eo ?_
    refine r_iload X dX2_workedOut_170 3 rfl ?_
    obtain ⟨j188, ej188, h⟩ := jn1_ok h
    have hj188 : ∀ (w33 : Int32), j188 w33 = some (r9, t9) → AW E layC p l e (rmD 1) ms m [.ref (ea E 49), .int a1, .int a2, .int a3, .int a4].toArray below meth c 9 0 0 (MQc E layC below [.ref (ea E 49), .int a1, .int a2, .int a3, .int a4].toArray ms (some (.int r9)) t9) 188 [(1, .int a1)] [.int w33] s31 := by
      intro w33 h
      rw [ej188] at h
      refine r_istore (L' := [(1, .int a1), (7, .int w33)]) X dX2_workedOut_188 [1, 0] rfl (Nat.le_of_ble_eq_true rfl) ?_
      refine r_iconst X dX2_workedOut_190 (v := 0) (by decide) ?_
      refine r_iload_n X dX2_workedOut_191 0 rfl rfl ?_
      obtain ⟨j201, ej201, h⟩ := jn1_ok h
      have hj201 : ∀ (w34 : Int32), j201 w34 = some (r9, t9) → AW E layC p l e (rmD 1) ms m [.ref (ea E 49), .int a1, .int a2, .int a3, .int a4].toArray below meth c 9 0 0 (MQc E layC below [.ref (ea E 49), .int a1, .int a2, .int a3, .int a4].toArray ms (some (.int r9)) t9) 201 [(7, .int w33)] [.int w34, .int 0] s31 := by
        intro w34 h
        rw [ej201] at h
        refine r_iload X dX2_workedOut_201 0 rfl ?_
        refine s_mmin X dX2_workedOut_203 g_418 g_419 g_71 g_420 (Nat.le_of_ble_eq_true rfl) (Nat.le_of_ble_eq_true rfl) ?_
        refine s_mmax X dX2_workedOut_206 g_421 g_160 g_71 g_161 (Nat.le_of_ble_eq_true rfl) (Nat.le_of_ble_eq_true rfl) ?_
        exact s_iret X hlk hr dX2_workedOut_209 h
      refine r_if_ne X 199 dX2_workedOut_192 (by decide) (fun c35 => ?_) (fun c35 => ?_)
      · rw [if_neg c35] at h
        refine r_bipush X dX2_workedOut_199 (v := 9) (by decide) ?_
        refine r_sub (L' := [(7, .int w33)]) [1] rfl ?_
        exact hj201 _ h
      · rw [if_pos c35] at h
        refine r_iconst X dX2_workedOut_195 (v := 4) (by decide) ?_
        refine r_goto X 201 dX2_workedOut_196 (by decide) ?_
        refine r_sub (L' := [(7, .int w33)]) [1] rfl ?_
        exact hj201 _ h
    refine r_if_le X 187 dX2_workedOut_172 (by decide) (fun c38 => ?_) (fun c38 => ?_)
    · rw [if_pos c38] at h
      refine r_iload_n X dX2_workedOut_187 2 rfl rfl ?_
      refine r_sub (L' := [(1, .int a1)]) [1] rfl ?_
      exact hj188 _ h
    · rw [if_neg c38] at h
      refine r_aload_n X dX2_workedOut_175 0 rfl rfl ?_
      refine r_getr X dX2_workedOut_176 i_X2 v_X2 lC_49 2 rfl (Nat.le_of_ble_eq_true rfl) g_214 ?_
      refine r_iload X dX2_workedOut_179 3 rfl ?_
      refine r_iconst X dX2_workedOut_181 (v := 1) (by decide) ?_
      refine r_isub X dX2_workedOut_182 ?_
      obtain ⟨g36, v37, ev37, h⟩ := ld_ok h
      refine s_iald X dX2_workedOut_183 lC_50 g36 ev37 ?_
      refine r_goto X 188 dX2_workedOut_184 (by decide) ?_
      refine r_sub (L' := [(1, .int a1)]) [1] rfl ?_
      exact hj188 _ h
  · rw [if_pos c47] at h
    refine r_aload_n X dX2_workedOut_4 0 rfl rfl ?_
    refine r_getr X dX2_workedOut_5 i_X2 v_X2 lC_49 0 rfl (Nat.le_of_ble_eq_true rfl) g_212 ?_
    refine r_goto X 15 dX2_workedOut_8 (by decide) ?_
    refine r_astore (L' := [(0, .ref (ea E 49)), (1, .int a1), (2, .int a2), (3, .int a3), (4, .int a4), (5, .ref (ea E 16))]) X dX2_workedOut_15 [1, 2, 3, 4, 5, 0] rfl (Nat.le_of_ble_eq_true rfl) ?_
    refine r_iconst X dX2_workedOut_17 (v := 0) (by decide) ?_
    refine r_istore (L' := [(0, .ref (ea E 49)), (1, .int a1), (2, .int a2), (3, .int a3), (4, .int a4), (5, .ref (ea E 16)), (6, .int 0)]) X dX2_workedOut_18 [1, 2, 3, 4, 5, 6, 0] rfl (Nat.le_of_ble_eq_true rfl) ?_
    refine r_iconst X dX2_workedOut_20 (v := 0) (by decide) ?_
    refine r_istore (L' := [(0, .ref (ea E 49)), (1, .int a1), (2, .int a2), (3, .int a3), (4, .int a4), (5, .ref (ea E 16)), (6, .int 0), (7, .int 0)]) X dX2_workedOut_21 [1, 2, 3, 4, 5, 6, 7, 0] rfl (Nat.le_of_ble_eq_true rfl) ?_
    obtain ⟨v40, s39, eo, h⟩ := bd2_ok h
    refine LX2_workedOut_23 X hR_16 FU _ _ _ _ _ eo ?_
    refine r_iload X dX2_workedOut_170 3 rfl ?_
    obtain ⟨j188, ej188, h⟩ := jn1_ok h
    have hj188 : ∀ (w41 : Int32), j188 w41 = some (r9, t9) → AW E layC p l e (rmD 1) ms m [.ref (ea E 49), .int a1, .int a2, .int a3, .int a4].toArray below meth c 9 0 0 (MQc E layC below [.ref (ea E 49), .int a1, .int a2, .int a3, .int a4].toArray ms (some (.int r9)) t9) 188 [(1, .int a1)] [.int w41] s39 := by
      intro w41 h
      rw [ej188] at h
      refine r_istore (L' := [(1, .int a1), (7, .int w41)]) X dX2_workedOut_188 [1, 0] rfl (Nat.le_of_ble_eq_true rfl) ?_
      refine r_iconst X dX2_workedOut_190 (v := 0) (by decide) ?_
      refine r_iload_n X dX2_workedOut_191 0 rfl rfl ?_
      obtain ⟨j201, ej201, h⟩ := jn1_ok h
      have hj201 : ∀ (w42 : Int32), j201 w42 = some (r9, t9) → AW E layC p l e (rmD 1) ms m [.ref (ea E 49), .int a1, .int a2, .int a3, .int a4].toArray below meth c 9 0 0 (MQc E layC below [.ref (ea E 49), .int a1, .int a2, .int a3, .int a4].toArray ms (some (.int r9)) t9) 201 [(7, .int w41)] [.int w42, .int 0] s39 := by
        intro w42 h
        rw [ej201] at h
        refine r_iload X dX2_workedOut_201 0 rfl ?_
        refine s_mmin X dX2_workedOut_203 g_418 g_419 g_71 g_420 (Nat.le_of_ble_eq_true rfl) (Nat.le_of_ble_eq_true rfl) ?_
        refine s_mmax X dX2_workedOut_206 g_421 g_160 g_71 g_161 (Nat.le_of_ble_eq_true rfl) (Nat.le_of_ble_eq_true rfl) ?_
        exact s_iret X hlk hr dX2_workedOut_209 h
      refine r_if_ne X 199 dX2_workedOut_192 (by decide) (fun c43 => ?_) (fun c43 => ?_)
      · rw [if_neg c43] at h
        refine r_bipush X dX2_workedOut_199 (v := 9) (by decide) ?_
        refine r_sub (L' := [(7, .int w41)]) [1] rfl ?_
        exact hj201 _ h
      · rw [if_pos c43] at h
        refine r_iconst X dX2_workedOut_195 (v := 4) (by decide) ?_
        refine r_goto X 201 dX2_workedOut_196 (by decide) ?_
        refine r_sub (L' := [(7, .int w41)]) [1] rfl ?_
        exact hj201 _ h
    refine r_if_le X 187 dX2_workedOut_172 (by decide) (fun c46 => ?_) (fun c46 => ?_)
    · rw [if_pos c46] at h
      refine r_iload_n X dX2_workedOut_187 2 rfl rfl ?_
      refine r_sub (L' := [(1, .int a1)]) [1] rfl ?_
      exact hj188 _ h
    · rw [if_neg c46] at h
      refine r_aload_n X dX2_workedOut_175 0 rfl rfl ?_
      refine r_getr X dX2_workedOut_176 i_X2 v_X2 lC_49 2 rfl (Nat.le_of_ble_eq_true rfl) g_214 ?_
      refine r_iload X dX2_workedOut_179 3 rfl ?_
      refine r_iconst X dX2_workedOut_181 (v := 1) (by decide) ?_
      refine r_isub X dX2_workedOut_182 ?_
      obtain ⟨g44, v45, ev45, h⟩ := ld_ok h
      refine s_iald X dX2_workedOut_183 lC_50 g44 ev45 ?_
      refine r_goto X 188 dX2_workedOut_184 (by decide) ?_
      refine r_sub (L' := [(1, .int a1)]) [1] rfl ?_
      exact hj188 _ h
/-! X2_given -/
theorem nX2_given : yX2_given.cls ≠ "java/lang/invoke/MethodHandle" ∧ yX2_given.cls ≠ "java/lang/invoke/VarHandle" ∧ (parseMethodDescriptor yX2_given.desc).map (fun d => d.parameters.length) = some 4 := by decide +kernel
theorem kX2_given {l : Launch} {E : EE} {p : Program} {e : Env} {ms : State} {m : MethodId} {args : Array Value} {below : List Frame} {meth : Method} {c : Code} {cc : ByteArray} {own : String} {nL pc idx d D : Nat} {Q : State → Prop} {L : List (Nat × Value)} {rest : List Value} {σ τ : St} {a1 : Int32} {a2 : Int32} {a3 : Int32} {a4 : Int32} {r : Int32} {fl : List (Option Nat)} (X : Cx E layC p ms m args c cc own nL) (hM : Ct l E layC yX2_given cX2_given 6 (some .int) d [.ref (ea E 49), .int a1, .int a2, .int a3, .int a4] σ (some (.int r)) τ) (hd : decode cc pc = .ok (.invokevirtual idx, 3)) (hlay : layC[49]? = some (.inl (1, fl))) (w1 : Cond.methodLink own idx yX2_given ∈ gw) (hR : d + 1 ≤ D) (hrs : (rest.map fun v => v.category).sum ≤ 8) (k : AW E layC p l e (rmD D) ms m args below meth c nL 0 0 Q (pc + 3) L (.int r :: rest) τ) : AW E layC p l e (rmD D) ms m args below meth c nL 0 0 Q pc L (.int a4 :: .int a3 :: .int a2 :: .int a1 :: .ref (ea E 49) :: rest) σ :=
  s_callV X [.int a1, .int a2, .int a3, .int a4] rest hM hd v_X2 hlay w1 g_405 g_406 g_72 g_407 nX2_given rfl rfl hrs (Nat.le_of_ble_eq_true rfl) hR k
def fX2_given (a1 : Int32) (a2 : Int32) (a3 : Int32) (a4 : Int32) (s0 : St) : Option (Int32 × St) :=
    jn (fun (_ : Unit) =>
    bd2 (fX2_workedOut a1 a2 a3 a4 s0) fun u3 s1 =>
    some (u3, s1)) fun j47 =>
    if a2 < (-1) then
    j47 ()
    else
    if 7 < a2 then
    j47 ()
    else
    if (((((((a1 * 9) + a2) - (-1)) * 10) + a3) * 10) + a4) < 0 then
    j47 ()
    else
    if (((((((a1 * 9) + a2) - (-1)) * 10) + a3) * 10) + a4) < 1800 then
    bd1 (ald s0 51 1800 (((((((a1 * 9) + a2) - (-1)) * 10) + a3) * 10) + a4)) fun v5 =>
    jn (fun (s6 : St) =>
    bd1 (ald s6 51 1800 (((((((a1 * 9) + a2) - (-1)) * 10) + a3) * 10) + a4)) fun v8 =>
    some (v8, s6)) fun j84 =>
    if 0 ≤ v5 then
    j84 s0
    else
    bd2 (fX2_workedOut a1 a2 a3 a4 s0) fun u11 s9 =>
    bd1 (bast s9 51 1800 (((((((a1 * 9) + a2) - (-1)) * 10) + a3) * 10) + a4) (i8 u11)) fun s13 =>
    j84 s13
    else
    j47 ()
set_option maxHeartbeats 4000000 in
set_option maxRecDepth 100000 in
theorem ctX2_given {l : Launch} {E : EE} {a1 : Int32} {a2 : Int32} {a3 : Int32} {a4 : Int32} {s0 : St} {r9 : Int32} {t9 : St}  (h : fX2_given a1 a2 a3 a4 s0 = some (r9, t9)) : Ct l E layC yX2_given cX2_given 6 (some .int) 2 [.ref (ea E 49), .int a1, .int a2, .int a3, .int a4] s0 (some (.int r9)) t9 := by
  refine Ct.of (by decide) (Nat.le_of_ble_eq_true rfl) ?_
  intro p e ms m below meth c X hlk hr
  have X : Cx E layC p ms m [.ref (ea E 49), .int a1, .int a2, .int a3, .int a4].toArray c cX2_given RX2 6 := X
  refine r_sub (L' := [(0, .ref (ea E 49)), (1, .int a1), (2, .int a2), (3, .int a3), (4, .int a4)]) [0, 1, 2, 3, 4] rfl ?_
  unfold fX2_given at h
  refine r_iload_n X dX2_given_0 1 rfl rfl ?_
  refine r_bipush X dX2_given_1 (v := 9) (by decide) ?_
  refine r_imul X dX2_given_3 ?_
  refine r_iload_n X dX2_given_4 2 rfl rfl ?_
  refine r_iadd X dX2_given_5 ?_
  refine r_iconst X dX2_given_6 (v := (-1)) (by decide) ?_
  refine r_isub X dX2_given_7 ?_
  refine r_bipush X dX2_given_8 (v := 10) (by decide) ?_
  refine r_imul X dX2_given_10 ?_
  refine r_iload_n X dX2_given_11 3 rfl rfl ?_
  refine r_iadd X dX2_given_12 ?_
  refine r_bipush X dX2_given_13 (v := 10) (by decide) ?_
  refine r_imul X dX2_given_15 ?_
  refine r_iload X dX2_given_16 4 rfl ?_
  refine r_iadd X dX2_given_18 ?_
  refine r_istore (L' := [(0, .ref (ea E 49)), (1, .int a1), (2, .int a2), (3, .int a3), (4, .int a4), (5, .int (((((((a1 * 9) + a2) - (-1)) * 10) + a3) * 10) + a4))]) X dX2_given_19 [1, 2, 3, 4, 5, 0] rfl (Nat.le_of_ble_eq_true rfl) ?_
  refine r_iload_n X dX2_given_21 2 rfl rfl ?_
  refine r_iconst X dX2_given_22 (v := (-1)) (by decide) ?_
  obtain ⟨j47, ej47, h⟩ := jn1_ok h
  have hj47 : ∀ (u : Unit), j47 u = some (r9, t9) → AW E layC p l e (rmD 2) ms m [.ref (ea E 49), .int a1, .int a2, .int a3, .int a4].toArray below meth c 6 0 0 (MQc E layC below [.ref (ea E 49), .int a1, .int a2, .int a3, .int a4].toArray ms (some (.int r9)) t9) 47 [(0, .ref (ea E 49)), (1, .int a1), (2, .int a2), (3, .int a3), (4, .int a4)] [] s0 := by
    intro u h
    rw [ej47] at h
    refine r_aload_n X dX2_given_47 0 rfl rfl ?_
    refine r_iload_n X dX2_given_48 1 rfl rfl ?_
    refine r_iload_n X dX2_given_49 2 rfl rfl ?_
    refine r_iload_n X dX2_given_50 3 rfl rfl ?_
    refine r_iload X dX2_given_51 4 rfl ?_
    obtain ⟨u3, s1, e2, h⟩ := bd2_ok h
    refine kX2_workedOut X (ctX2_workedOut e2) dX2_given_53 lC_49 g_408 (Nat.le_of_ble_eq_true rfl) (Nat.le_of_ble_eq_true rfl) ?_
    exact s_iret X hlk hr dX2_given_56 h
  refine r_icmp_lt X 47 dX2_given_23 (by decide) (fun c18 => ?_) (fun c18 => ?_)
  · rw [if_pos c18] at h
    refine r_sub (L' := [(0, .ref (ea E 49)), (1, .int a1), (2, .int a2), (3, .int a3), (4, .int a4)]) [0, 1, 2, 3, 4] rfl ?_
    exact hj47 _ h
  · rw [if_neg c18] at h
    refine r_iload_n X dX2_given_26 2 rfl rfl ?_
    refine r_bipush X dX2_given_27 (v := 7) (by decide) ?_
    refine r_icmp_gt X 47 dX2_given_29 (by decide) (fun c17 => ?_) (fun c17 => ?_)
    · rw [if_pos c17] at h
      refine r_sub (L' := [(0, .ref (ea E 49)), (1, .int a1), (2, .int a2), (3, .int a3), (4, .int a4)]) [0, 1, 2, 3, 4] rfl ?_
      exact hj47 _ h
    · rw [if_neg c17] at h
      refine r_iload X dX2_given_32 5 rfl ?_
      refine r_if_lt X 47 dX2_given_34 (by decide) (fun c16 => ?_) (fun c16 => ?_)
      · rw [if_pos c16] at h
        refine r_sub (L' := [(0, .ref (ea E 49)), (1, .int a1), (2, .int a2), (3, .int a3), (4, .int a4)]) [0, 1, 2, 3, 4] rfl ?_
        exact hj47 _ h
      · rw [if_neg c16] at h
        refine r_iload X dX2_given_37 5 rfl ?_
        refine r_aload_n X dX2_given_39 0 rfl rfl ?_
        refine r_getr X dX2_given_40 i_X2 v_X2 lC_49 3 rfl (Nat.le_of_ble_eq_true rfl) g_215 ?_
        refine s_alen X dX2_given_43 lC_51 (v := 1800) (by decide) ?_
        refine r_icmp_lt X 57 dX2_given_44 (by decide) (fun c15 => ?_) (fun c15 => ?_)
        · rw [if_pos c15] at h
          refine r_aload_n X dX2_given_57 0 rfl rfl ?_
          refine r_getr X dX2_given_58 i_X2 v_X2 lC_49 3 rfl (Nat.le_of_ble_eq_true rfl) g_215 ?_
          refine r_iload X dX2_given_61 5 rfl ?_
          obtain ⟨g4, v5, ev5, h⟩ := ld_ok h
          refine s_bald X dX2_given_63 lC_51 g4 ev5 ?_
          obtain ⟨j84, ej84, h⟩ := jn1_ok h
          have hj84 : ∀ (s6 : St), j84 s6 = some (r9, t9) → AW E layC p l e (rmD 2) ms m [.ref (ea E 49), .int a1, .int a2, .int a3, .int a4].toArray below meth c 6 0 0 (MQc E layC below [.ref (ea E 49), .int a1, .int a2, .int a3, .int a4].toArray ms (some (.int r9)) t9) 84 [(0, .ref (ea E 49)), (5, .int (((((((a1 * 9) + a2) - (-1)) * 10) + a3) * 10) + a4))] [] s6 := by
            intro s6 h
            rw [ej84] at h
            refine r_aload_n X dX2_given_84 0 rfl rfl ?_
            refine r_getr X dX2_given_85 i_X2 v_X2 lC_49 3 rfl (Nat.le_of_ble_eq_true rfl) g_215 ?_
            refine r_iload X dX2_given_88 1 rfl ?_
            obtain ⟨g7, v8, ev8, h⟩ := ld_ok h
            refine s_bald X dX2_given_90 lC_51 g7 ev8 ?_
            exact s_iret X hlk hr dX2_given_91 h
          refine r_if_ge X 84 dX2_given_64 (by decide) (fun c14 => ?_) (fun c14 => ?_)
          · rw [if_pos c14] at h
            refine r_sub (L' := [(0, .ref (ea E 49)), (5, .int (((((((a1 * 9) + a2) - (-1)) * 10) + a3) * 10) + a4))]) [0, 5] rfl ?_
            exact hj84 _ h
          · rw [if_neg c14] at h
            refine r_aload_n X dX2_given_67 0 rfl rfl ?_
            refine r_getr X dX2_given_68 i_X2 v_X2 lC_49 3 rfl (Nat.le_of_ble_eq_true rfl) g_215 ?_
            refine r_iload X dX2_given_71 5 rfl ?_
            refine r_aload_n X dX2_given_73 0 rfl rfl ?_
            refine r_iload_n X dX2_given_74 1 rfl rfl ?_
            refine r_iload_n X dX2_given_75 2 rfl rfl ?_
            refine r_iload_n X dX2_given_76 3 rfl rfl ?_
            refine r_iload X dX2_given_77 4 rfl ?_
            obtain ⟨u11, s9, e10, h⟩ := bd2_ok h
            refine kX2_workedOut X (ctX2_workedOut e10) dX2_given_79 lC_49 g_408 (Nat.le_of_ble_eq_true rfl) (Nat.le_of_ble_eq_true rfl) ?_
            refine s_i2b X dX2_given_82 ?_
            obtain ⟨g12, s13, es13, h⟩ := bs_ok h
            refine s_bast X dX2_given_83 lC_51 g12 es13 ?_
            refine r_sub (L' := [(0, .ref (ea E 49)), (5, .int (((((((a1 * 9) + a2) - (-1)) * 10) + a3) * 10) + a4))]) [0, 5] rfl ?_
            exact hj84 _ h
        · rw [if_neg c15] at h
          refine r_sub (L' := [(0, .ref (ea E 49)), (1, .int a1), (2, .int a2), (3, .int a3), (4, .int a4)]) [0, 1, 2, 3, 4] rfl ?_
          exact hj47 _ h
/-! X0_leftOf -/
theorem nX0_leftOf : yX0_leftOf.cls ≠ "java/lang/invoke/MethodHandle" ∧ yX0_leftOf.cls ≠ "java/lang/invoke/VarHandle" ∧ (parseMethodDescriptor yX0_leftOf.desc).map (fun d => d.parameters.length) = some 3 := by decide +kernel
theorem kX0_leftOf {l : Launch} {E : EE} {p : Program} {e : Env} {ms : State} {m : MethodId} {args : Array Value} {below : List Frame} {meth : Method} {c : Code} {cc : ByteArray} {own : String} {nL pc idx d D : Nat} {Q : State → Prop} {L : List (Nat × Value)} {rest : List Value} {σ τ : St} {b0 : Nat} {a2 : Int32} {a3 : Int32} {r : Int32} {fl : List (Option Nat)} (X : Cx E layC p ms m args c cc own nL) (hM : Ct l E layC yX0_leftOf cX0_leftOf 7 (some .int) d [.ref (ea E b0), .ref (ea E 49), .int a2, .int a3] σ (some (.int r)) τ) (hd : decode cc pc = .ok (.invokevirtual idx, 3)) (hlay : layC[b0]? = some (.inl (0, fl))) (w1 : Cond.methodLink own idx yX0_leftOf ∈ gw) (hR : d + 1 ≤ D) (hrs : (rest.map fun v => v.category).sum ≤ 8) (k : AW E layC p l e (rmD D) ms m args below meth c nL 0 0 Q (pc + 3) L (.int r :: rest) τ) : AW E layC p l e (rmD D) ms m args below meth c nL 0 0 Q pc L (.int a3 :: .int a2 :: .ref (ea E 49) :: .ref (ea E b0) :: rest) σ :=
  s_callV X [.ref (ea E 49), .int a2, .int a3] rest hM hd v_X0 hlay w1 g_392 g_393 g_69 g_394 nX0_leftOf rfl rfl hrs (Nat.le_of_ble_eq_true rfl) hR k
def fX0_leftOf (b0 : Nat) (a2 : Int32) (a3 : Int32) (s0 : St) : Option (Int32 × St) :=
    bd1 (ald s0 (b0 + 3) 6 a2) fun v2 =>
    bd1 (ald s0 (b0 + 1) 16 v2) fun v4 =>
    bd1 (ald s0 (b0 + 6) 8 a3) fun v6 =>
    bd1 (ald s0 (b0 + 4) 8 a3) fun v8 =>
    bd1 (ald s0 (b0 + 5) 8 a3) fun v10 =>
    bd1 (ald s0 (b0 + 3) 6 a2) fun v12 =>
    bd1 (ald s0 (b0 + 2) 16 v12) fun v14 =>
    bd2 (fX1_leaves v8 v10 v4 v14 v6 (s0 b0 11) s0) fun u17 s15 =>
    bd2 (fX2_given 0 u17 v4 v6 s15) fun u20 s18 =>
    some (u20, s18)
set_option maxHeartbeats 4000000 in
set_option maxRecDepth 100000 in
theorem ctX0_leftOf {l : Launch} {E : EE} {b0 : Nat} {a2 : Int32} {a3 : Int32} {s0 : St} {r9 : Int32} {t9 : St} (hb0 : isH b0) (h : fX0_leftOf b0 a2 a3 s0 = some (r9, t9)) : Ct l E layC yX0_leftOf cX0_leftOf 7 (some .int) 3 [.ref (ea E b0), .ref (ea E 49), .int a2, .int a3] s0 (some (.int r9)) t9 := by
  refine Ct.of (by decide) (Nat.le_of_ble_eq_true rfl) ?_
  intro p e ms m below meth c X hlk hr
  have X : Cx E layC p ms m [.ref (ea E b0), .ref (ea E 49), .int a2, .int a3].toArray c cX0_leftOf RX0 7 := X
  refine r_sub (L' := [(0, .ref (ea E b0)), (1, .ref (ea E 49)), (2, .int a2), (3, .int a3)]) [0, 1, 2, 3] rfl ?_
  unfold fX0_leftOf at h
  refine r_aload_n X dX0_leftOf_0 0 rfl rfl ?_
  refine r_getr X dX0_leftOf_1 i_X0 v_X0 (lH0 hb0) 0 rfl (Nat.le_of_ble_eq_true rfl) g_100 ?_
  refine r_aload_n X dX0_leftOf_4 0 rfl rfl ?_
  refine r_getr X dX0_leftOf_5 i_X0 v_X0 (lH0 hb0) 2 rfl (Nat.le_of_ble_eq_true rfl) g_104 ?_
  refine r_iload_n X dX0_leftOf_8 2 rfl rfl ?_
  obtain ⟨g1, v2, ev2, h⟩ := ld_ok h
  refine s_iald X dX0_leftOf_9 (lH3 hb0) g1 ev2 ?_
  obtain ⟨g3, v4, ev4, h⟩ := ld_ok h
  refine s_iald X dX0_leftOf_10 (lH1 hb0) g3 ev4 ?_
  refine r_istore (L' := [(0, .ref (ea E b0)), (1, .ref (ea E 49)), (2, .int a2), (3, .int a3), (4, .int v4)]) X dX0_leftOf_11 [1, 2, 3, 4, 0] rfl (Nat.le_of_ble_eq_true rfl) ?_
  refine r_aload_n X dX0_leftOf_13 0 rfl rfl ?_
  refine r_getr X dX0_leftOf_14 i_X0 v_X0 (lH0 hb0) 5 rfl (Nat.le_of_ble_eq_true rfl) g_110 ?_
  refine r_iload_n X dX0_leftOf_17 3 rfl rfl ?_
  obtain ⟨g5, v6, ev6, h⟩ := ld_ok h
  refine s_iald X dX0_leftOf_18 (lH6 hb0) g5 ev6 ?_
  refine r_istore (L' := [(0, .ref (ea E b0)), (1, .ref (ea E 49)), (2, .int a2), (3, .int a3), (4, .int v4), (5, .int v6)]) X dX0_leftOf_19 [1, 2, 3, 4, 5, 0] rfl (Nat.le_of_ble_eq_true rfl) ?_
  refine r_aload_n X dX0_leftOf_21 0 rfl rfl ?_
  refine r_getr X dX0_leftOf_22 i_X0 v_X0 (lH0 hb0) 3 rfl (Nat.le_of_ble_eq_true rfl) g_106 ?_
  refine r_iload_n X dX0_leftOf_25 3 rfl rfl ?_
  obtain ⟨g7, v8, ev8, h⟩ := ld_ok h
  refine s_iald X dX0_leftOf_26 (lH4 hb0) g7 ev8 ?_
  refine r_aload_n X dX0_leftOf_27 0 rfl rfl ?_
  refine r_getr X dX0_leftOf_28 i_X0 v_X0 (lH0 hb0) 4 rfl (Nat.le_of_ble_eq_true rfl) g_108 ?_
  refine r_iload_n X dX0_leftOf_31 3 rfl rfl ?_
  obtain ⟨g9, v10, ev10, h⟩ := ld_ok h
  refine s_iald X dX0_leftOf_32 (lH5 hb0) g9 ev10 ?_
  refine r_iload X dX0_leftOf_33 4 rfl ?_
  refine r_aload_n X dX0_leftOf_35 0 rfl rfl ?_
  refine r_getr X dX0_leftOf_36 i_X0 v_X0 (lH0 hb0) 1 rfl (Nat.le_of_ble_eq_true rfl) g_102 ?_
  refine r_aload_n X dX0_leftOf_39 0 rfl rfl ?_
  refine r_getr X dX0_leftOf_40 i_X0 v_X0 (lH0 hb0) 2 rfl (Nat.le_of_ble_eq_true rfl) g_104 ?_
  refine r_iload_n X dX0_leftOf_43 2 rfl rfl ?_
  obtain ⟨g11, v12, ev12, h⟩ := ld_ok h
  refine s_iald X dX0_leftOf_44 (lH3 hb0) g11 ev12 ?_
  obtain ⟨g13, v14, ev14, h⟩ := ld_ok h
  refine s_iald X dX0_leftOf_45 (lH2 hb0) g13 ev14 ?_
  refine r_iload X dX0_leftOf_46 5 rfl ?_
  refine r_aload_n X dX0_leftOf_48 0 rfl rfl ?_
  refine r_geti X dX0_leftOf_49 i_X0 v_X0 (lH0 hb0) 11 rfl (Nat.le_of_ble_eq_true rfl) g_121 ?_
  obtain ⟨u17, s15, e16, h⟩ := bd2_ok h
  refine kX1_leaves X (ctX1_leaves e16) dX0_leftOf_52 g_395 (Nat.le_of_ble_eq_true rfl) (Nat.le_of_ble_eq_true rfl) ?_
  refine r_istore (L' := [(1, .ref (ea E 49)), (4, .int v4), (5, .int v6), (6, .int u17)]) X dX0_leftOf_55 [2, 5, 6, 0] rfl (Nat.le_of_ble_eq_true rfl) ?_
  refine r_aload_n X dX0_leftOf_57 0 rfl rfl ?_
  refine r_iconst X dX0_leftOf_58 (v := 0) (by decide) ?_
  refine r_iload X dX0_leftOf_59 3 rfl ?_
  refine r_iload X dX0_leftOf_61 1 rfl ?_
  refine r_iload X dX0_leftOf_63 2 rfl ?_
  obtain ⟨u20, s18, e19, h⟩ := bd2_ok h
  refine kX2_given X (ctX2_given e19) dX0_leftOf_65 lC_49 g_404 (Nat.le_of_ble_eq_true rfl) (Nat.le_of_ble_eq_true rfl) ?_
  exact s_iret X hlk hr dX0_leftOf_68 h
/-! X0_tasteOf -/
theorem nX0_tasteOf : yX0_tasteOf.cls ≠ "java/lang/invoke/MethodHandle" ∧ yX0_tasteOf.cls ≠ "java/lang/invoke/VarHandle" ∧ (parseMethodDescriptor yX0_tasteOf.desc).map (fun d => d.parameters.length) = some 4 := by decide +kernel
theorem kX0_tasteOf {l : Launch} {E : EE} {p : Program} {e : Env} {ms : State} {m : MethodId} {args : Array Value} {below : List Frame} {meth : Method} {c : Code} {cc : ByteArray} {own : String} {nL pc idx d D : Nat} {Q : State → Prop} {L : List (Nat × Value)} {rest : List Value} {σ τ : St} {b0 : Nat} {a2 : Int32} {a3 : Int32} {a4 : Int32} {r : Int32} {fl : List (Option Nat)} (X : Cx E layC p ms m args c cc own nL) (hM : Ct l E layC yX0_tasteOf cX0_tasteOf 5 (some .int) d [.ref (ea E b0), .ref (ea E 49), .int a2, .int a3, .int a4] σ (some (.int r)) τ) (hd : decode cc pc = .ok (.invokevirtual idx, 3)) (hlay : layC[b0]? = some (.inl (0, fl))) (w1 : Cond.methodLink own idx yX0_tasteOf ∈ gw) (hR : d + 1 ≤ D) (hrs : (rest.map fun v => v.category).sum ≤ 8) (k : AW E layC p l e (rmD D) ms m args below meth c nL 0 0 Q (pc + 3) L (.int r :: rest) τ) : AW E layC p l e (rmD D) ms m args below meth c nL 0 0 Q pc L (.int a4 :: .int a3 :: .int a2 :: .ref (ea E 49) :: .ref (ea E b0) :: rest) σ :=
  s_callV X [.ref (ea E 49), .int a2, .int a3, .int a4] rest hM hd v_X0 hlay w1 g_533 g_534 g_69 g_535 nX0_tasteOf rfl rfl hrs (Nat.le_of_ble_eq_true rfl) hR k
def fX0_tasteOf (b0 : Nat) (a2 : Int32) (a3 : Int32) (a4 : Int32) (s0 : St) : Option (Int32 × St) :=
    bd1 (ald s0 (b0 + 3) 6 a2) fun v2 =>
    bd1 (ald s0 (b0 + 1) 16 v2) fun v4 =>
    bd1 (ald s0 (b0 + 6) 8 a3) fun v6 =>
    bd2 (fX2_given 1 a4 v4 v6 s0) fun u9 s7 =>
    some (u9, s7)
set_option maxHeartbeats 4000000 in
set_option maxRecDepth 100000 in
theorem ctX0_tasteOf {l : Launch} {E : EE} {b0 : Nat} {a2 : Int32} {a3 : Int32} {a4 : Int32} {s0 : St} {r9 : Int32} {t9 : St} (hb0 : isH b0) (h : fX0_tasteOf b0 a2 a3 a4 s0 = some (r9, t9)) : Ct l E layC yX0_tasteOf cX0_tasteOf 5 (some .int) 3 [.ref (ea E b0), .ref (ea E 49), .int a2, .int a3, .int a4] s0 (some (.int r9)) t9 := by
  refine Ct.of (by decide) (Nat.le_of_ble_eq_true rfl) ?_
  intro p e ms m below meth c X hlk hr
  have X : Cx E layC p ms m [.ref (ea E b0), .ref (ea E 49), .int a2, .int a3, .int a4].toArray c cX0_tasteOf RX0 5 := X
  refine r_sub (L' := [(0, .ref (ea E b0)), (1, .ref (ea E 49)), (2, .int a2), (3, .int a3), (4, .int a4)]) [0, 1, 2, 3, 4] rfl ?_
  unfold fX0_tasteOf at h
  refine r_aload_n X dX0_tasteOf_0 1 rfl rfl ?_
  refine r_iconst X dX0_tasteOf_1 (v := 1) (by decide) ?_
  refine r_iload X dX0_tasteOf_2 4 rfl ?_
  refine r_aload_n X dX0_tasteOf_4 0 rfl rfl ?_
  refine r_getr X dX0_tasteOf_5 i_X0 v_X0 (lH0 hb0) 0 rfl (Nat.le_of_ble_eq_true rfl) g_100 ?_
  refine r_aload_n X dX0_tasteOf_8 0 rfl rfl ?_
  refine r_getr X dX0_tasteOf_9 i_X0 v_X0 (lH0 hb0) 2 rfl (Nat.le_of_ble_eq_true rfl) g_104 ?_
  refine r_iload_n X dX0_tasteOf_12 2 rfl rfl ?_
  obtain ⟨g1, v2, ev2, h⟩ := ld_ok h
  refine s_iald X dX0_tasteOf_13 (lH3 hb0) g1 ev2 ?_
  obtain ⟨g3, v4, ev4, h⟩ := ld_ok h
  refine s_iald X dX0_tasteOf_14 (lH1 hb0) g3 ev4 ?_
  refine r_aload_n X dX0_tasteOf_15 0 rfl rfl ?_
  refine r_getr X dX0_tasteOf_16 i_X0 v_X0 (lH0 hb0) 5 rfl (Nat.le_of_ble_eq_true rfl) g_110 ?_
  refine r_iload_n X dX0_tasteOf_19 3 rfl rfl ?_
  obtain ⟨g5, v6, ev6, h⟩ := ld_ok h
  refine s_iald X dX0_tasteOf_20 (lH6 hb0) g5 ev6 ?_
  obtain ⟨u9, s7, e8, h⟩ := bd2_ok h
  refine kX2_given X (ctX2_given e8) dX0_tasteOf_21 lC_49 g_404 (Nat.le_of_ble_eq_true rfl) (Nat.le_of_ble_eq_true rfl) ?_
  exact s_iret X hlk hr dX0_tasteOf_24 h
/-! X0_leftOfAll -/
theorem nX0_leftOfAll : yX0_leftOfAll.cls ≠ "java/lang/invoke/MethodHandle" ∧ yX0_leftOfAll.cls ≠ "java/lang/invoke/VarHandle" ∧ (parseMethodDescriptor yX0_leftOfAll.desc).map (fun d => d.parameters.length) = some 2 := by decide +kernel
theorem kX0_leftOfAll {l : Launch} {E : EE} {p : Program} {e : Env} {ms : State} {m : MethodId} {args : Array Value} {below : List Frame} {meth : Method} {c : Code} {cc : ByteArray} {own : String} {nL pc idx d D : Nat} {Q : State → Prop} {L : List (Nat × Value)} {rest : List Value} {σ τ : St} {b0 : Nat} {a2 : Int32} {r : Int32} {fl : List (Option Nat)} (X : Cx E layC p ms m args c cc own nL) (hM : Ct l E layC yX0_leftOfAll cX0_leftOfAll 5 (some .int) d [.ref (ea E b0), .ref (ea E 49), .int a2] σ (some (.int r)) τ) (hd : decode cc pc = .ok (.invokevirtual idx, 3)) (hlay : layC[b0]? = some (.inl (0, fl))) (w1 : Cond.methodLink own idx yX0_leftOfAll ∈ gw) (hR : d + 1 ≤ D) (hrs : (rest.map fun v => v.category).sum ≤ 8) (k : AW E layC p l e (rmD D) ms m args below meth c nL 0 0 Q (pc + 3) L (.int r :: rest) τ) : AW E layC p l e (rmD D) ms m args below meth c nL 0 0 Q pc L (.int a2 :: .ref (ea E 49) :: .ref (ea E b0) :: rest) σ :=
  s_callV X [.ref (ea E 49), .int a2] rest hM hd v_X0 hlay w1 g_645 g_646 g_69 g_647 nX0_leftOfAll rfl rfl hrs (Nat.le_of_ble_eq_true rfl) hR k
def fX0_leftOfAll_5 (b0 : Nat) (a2 : Int32) : Nat → Int32 → Int32 → St → Option (Int32 × St)
  | 0, _, _, _ => none
  | n + 1, a3, a4, s0 =>
    if 6 ≤ a4 then
    some (a3, s0)
    else
    bd2 (fX0_leftOf b0 a4 a2 s0) fun u3 s1 =>
    fX0_leftOfAll_5 b0 a2 n (a3 + u3) (a4 + 1) s1
def fX0_leftOfAll (b0 : Nat) (a2 : Int32) (s0 : St) : Option (Int32 × St) :=
    bd2 (fX0_leftOfAll_5 b0 a2 FU 0 0 s0) fun v6 s5 =>
    some (v6, s5)
set_option maxHeartbeats 4000000 in
set_option maxRecDepth 100000 in
theorem LX0_leftOfAll_5 {l : Launch} {E : EE} {p : Program} {e : Env} {ms : State} {m : MethodId} {args : Array Value} {below : List Frame} {meth : Method} {c : Code} {b0 : Nat} {a2 : Int32} {Q : State → Prop} (X : Cx E layC p ms m args c cX0_leftOfAll RX0 5) (hb0 : isH b0) : ∀ (n : Nat) (a3 : Int32) (a4 : Int32) (s0 : St) (q3 : Int32) (t8 : St), fX0_leftOfAll_5 b0 a2 n a3 a4 s0 = some (q3, t8) → AW E layC p l e (rmD 4) ms m args below meth c 5 0 0 Q 29 [(3, .int q3)] [] t8 → AW E layC p l e (rmD 4) ms m args below meth c 5 0 0 Q 5 [(0, .ref (ea E b0)), (1, .ref (ea E 49)), (2, .int a2), (3, .int a3), (4, .int a4)] [] s0 := by
  intro n
  induction n with
  | zero =>
    intro a3 a4 s0 q3 t8 h hE
    cases h
  | succ n ih =>
    intro a3 a4 s0 q3 t8 h hE
    rw [fX0_leftOfAll_5] at h
    refine r_iload X dX0_leftOfAll_5 4 rfl ?_
    refine r_bipush X dX0_leftOfAll_7 (v := 6) (by decide) ?_
    refine r_icmp_ge X 29 dX0_leftOfAll_9 (by decide) (fun c4 => ?_) (fun c4 => ?_)
    · rw [if_pos c4] at h
      refine r_sub (L' := [(3, .int a3)]) [3] rfl ?_
      cases h
      exact hE
    · rw [if_neg c4] at h
      refine r_iload_n X dX0_leftOfAll_12 3 rfl rfl ?_
      refine r_aload_n X dX0_leftOfAll_13 0 rfl rfl ?_
      refine r_aload_n X dX0_leftOfAll_14 1 rfl rfl ?_
      refine r_iload X dX0_leftOfAll_15 4 rfl ?_
      refine r_iload_n X dX0_leftOfAll_17 2 rfl rfl ?_
      obtain ⟨u3, s1, e2, h⟩ := bd2_ok h
      refine kX0_leftOf X (ctX0_leftOf hb0 e2) dX0_leftOfAll_18 (lH0 hb0) g_530 (Nat.le_of_ble_eq_true rfl) (Nat.le_of_ble_eq_true rfl) ?_
      refine r_iadd X dX0_leftOfAll_21 ?_
      refine r_istore_n (L' := [(0, .ref (ea E b0)), (1, .ref (ea E 49)), (2, .int a2), (3, .int (a3 + u3)), (4, .int a4)]) X dX0_leftOfAll_22 [1, 2, 3, 0, 4] rfl rfl (Nat.le_of_ble_eq_true rfl) ?_
      refine r_iinc (L' := [(0, .ref (ea E b0)), (1, .ref (ea E 49)), (2, .int a2), (3, .int (a3 + u3)), (4, .int (a4 + 1))]) (v := a4 + 1) X dX0_leftOfAll_23 4 rfl rfl [1, 2, 3, 4, 0] rfl (Nat.le_of_ble_eq_true rfl) ?_
      refine r_goto X 5 dX0_leftOfAll_26 (by decide) ?_
      exact ih _ _ _ _ _ h hE
set_option maxHeartbeats 4000000 in
set_option maxRecDepth 100000 in
theorem ctX0_leftOfAll {l : Launch} {E : EE} {b0 : Nat} {a2 : Int32} {s0 : St} {r9 : Int32} {t9 : St} (hb0 : isH b0) (h : fX0_leftOfAll b0 a2 s0 = some (r9, t9)) : Ct l E layC yX0_leftOfAll cX0_leftOfAll 5 (some .int) 4 [.ref (ea E b0), .ref (ea E 49), .int a2] s0 (some (.int r9)) t9 := by
  refine Ct.of (by decide) (Nat.le_of_ble_eq_true rfl) ?_
  intro p e ms m below meth c X hlk hr
  have X : Cx E layC p ms m [.ref (ea E b0), .ref (ea E 49), .int a2].toArray c cX0_leftOfAll RX0 5 := X
  refine r_sub (L' := [(0, .ref (ea E b0)), (1, .ref (ea E 49)), (2, .int a2)]) [0, 1, 2] rfl ?_
  unfold fX0_leftOfAll at h
  refine r_iconst X dX0_leftOfAll_0 (v := 0) (by decide) ?_
  refine r_istore_n (L' := [(0, .ref (ea E b0)), (1, .ref (ea E 49)), (2, .int a2), (3, .int 0)]) X dX0_leftOfAll_1 [1, 2, 3, 0] rfl rfl (Nat.le_of_ble_eq_true rfl) ?_
  refine r_iconst X dX0_leftOfAll_2 (v := 0) (by decide) ?_
  refine r_istore (L' := [(0, .ref (ea E b0)), (1, .ref (ea E 49)), (2, .int a2), (3, .int 0), (4, .int 0)]) X dX0_leftOfAll_3 [1, 2, 3, 4, 0] rfl (Nat.le_of_ble_eq_true rfl) ?_
  obtain ⟨v6, s5, eo, h⟩ := bd2_ok h
  refine LX0_leftOfAll_5 X hb0 FU _ _ _ _ _ eo ?_
  refine r_iload_n X dX0_leftOfAll_29 0 rfl rfl ?_
  exact s_iret X hlk hr dX0_leftOfAll_30 h
