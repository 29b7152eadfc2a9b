/-! X8_loved -/
theorem nX8_loved : yX8_loved.cls ≠ "java/lang/invoke/MethodHandle" ∧ yX8_loved.cls ≠ "java/lang/invoke/VarHandle" ∧ (parseMethodDescriptor yX8_loved.desc).map (fun d => d.parameters.length) = some 2 := by decide +kernel
theorem kX8_loved {l : Launch} {E : EE} {p : Program} {e : Env} {ms : State} {m : MethodId} {args : Array Value} {below : List Frame} {meth : Method} {c : Code} {cc : ByteArray} {own : String} {nL pc idx d D : Nat} {Q : State → Prop} {L : List (Nat × Value)} {rest : List Value} {σ τ : St} {a1 : Int32} {a2 : Int32} {r : Int32} {fl : List (Option Nat)} (X : Cx E layC p ms m args c cc own nL) (hM : Ct l E layC yX8_loved cX8_loved 8 (some .int) d [.ref (ea E 0), .int a1, .int a2] σ (some (.int r)) τ) (hd : decode cc pc = .ok (.invokevirtual idx, 3)) (hlay : layC[0]? = some (.inl (7, fl))) (w1 : Cond.methodLink own idx yX8_loved ∈ gw) (hR : d + 1 ≤ D) (hrs : (rest.map fun v => v.category).sum ≤ 8) (k : AW E layC p l e (rmD D) ms m args below meth c nL 0 0 Q (pc + 3) L (.int r :: rest) τ) : AW E layC p l e (rmD D) ms m args below meth c nL 0 0 Q pc L (.int a2 :: .int a1 :: .ref (ea E 0) :: rest) σ :=
  s_callV X [.int a1, .int a2] rest hM hd v_X8 hlay w1 g_608 g_609 g_67 g_610 nX8_loved rfl rfl hrs (Nat.le_of_ble_eq_true rfl) hR k
def fX8_loved_75 (a2 : Int32) (b3 : Nat) (a4 : Int32) (a5 : Int32) : Nat → Int32 → Int32 → St → Option (Int32 × St)
  | 0, _, _, _ => none
  | n + 1, a6, a7, s0 =>
    if a6 = 0 then
    some (a6, s0)
    else
    if (s0 b3 1) ≤ a7 then
    some (a6, s0)
    else
    bd1 (fX0_spend 39 1 s0) fun s17 =>
    bd1 (ald s17 45 8 a2) fun v20 =>
    bd1 (ald s17 (b3 + 1) 40 a7) fun v22 =>
    jn (fun (w23 : Int32) =>
    fX8_loved_75 a2 b3 a4 a5 n w23 (a7 + 1) s17) fun j125 =>
    if v20 = v22 then
    j125 1
    else
    j125 0
def fX8_loved_47 (a2 : Int32) (b3 : Nat) : Nat → Int32 → Int32 → St → Option (Int32 × St)
  | 0, _, _, _ => none
  | n + 1, a4, a5, s0 =>
    if 8 ≤ a5 then
    some (a4, s0)
    else
    bd1 (fX8_thinkAnew  s0) fun s13 =>
    bd1 (ast s13 46 8 a2 a5) fun s16 =>
    bd2 (fX8_loved_75 a2 b3 a4 a5 FU 1 0 s16) fun v28 s27 =>
    jn (fun (w29 : Int32) =>
    fX8_loved_47 a2 b3 n w29 (a5 + 1) s27) fun j147 =>
    if v28 = 0 then
    j147 a4
    else
    j147 (a4 ||| (shl 1 a5))
def fX8_loved (a1 : Int32) (a2 : Int32) (s0 : St) : Option (Int32 × St) :=
    bd2 (fX8_isSheet a1 s0) fun u3 s1 =>
    jn (fun (s4 : St) =>
    bd2 (fX8_error 1 s4) fun u7 s5 =>
    some (u7, s5)) fun j15 =>
    if u3 = 0 then
    j15 s1
    else
    bd2 (fX8_isDiner a2 s1) fun u10 s8 =>
    if u10 = 0 then
    j15 s8
    else
    bd1 (rld 59 4 a1) fun v12 =>
    if (s8 v12 2) = 0 then
    bd2 (fX8_error 2 s8) fun u36 s34 =>
    some (u36, s34)
    else
    bd2 (fX8_loved_47 a2 v12 FU 0 0 s8) fun v33 s32 =>
    some (v33, s32)
set_option maxHeartbeats 4000000 in
set_option maxRecDepth 100000 in
theorem LX8_loved_75 {l : Launch} {E : EE} {p : Program} {e : Env} {ms : State} {m : MethodId} {args : Array Value} {below : List Frame} {meth : Method} {c : Code} {a2 : Int32} {b3 : Nat} {a4 : Int32} {a5 : Int32} {Q : State → Prop} (X : Cx E layC p ms m args c cX8_loved RX8 8) (hb3 : isS b3) : ∀ (n : Nat) (a6 : Int32) (a7 : Int32) (s0 : St) (q6 : Int32) (t8 : St), fX8_loved_75 a2 b3 a4 a5 n a6 a7 s0 = some (q6, t8) → AW E layC p l e (rmD 6) ms m args below meth c 8 0 0 Q 133 [(0, .ref (ea E 0)), (2, .int a2), (3, .ref (ea E b3)), (4, .int a4), (5, .int a5), (6, .int q6)] [] t8 → AW E layC p l e (rmD 6) ms m args below meth c 8 0 0 Q 75 [(0, .ref (ea E 0)), (2, .int a2), (3, .ref (ea E b3)), (4, .int a4), (5, .int a5), (6, .int a6), (7, .int a7)] [] s0 := by
  intro n
  induction n with
  | zero =>
    intro a6 a7 s0 q6 t8 h hE
    cases h
  | succ n ih =>
    intro a6 a7 s0 q6 t8 h hE
    rw [fX8_loved_75] at h
    refine r_iload X dX8_loved_75 5 rfl ?_
    refine r_if_eq X 133 dX8_loved_77 (by decide) (fun c26 => ?_) (fun c26 => ?_)
    · rw [if_pos c26] at h
      refine r_sub (L' := [(0, .ref (ea E 0)), (2, .int a2), (3, .ref (ea E b3)), (4, .int a4), (5, .int a5), (6, .int a6)]) [0, 1, 2, 3, 4, 5] rfl ?_
      cases h
      exact hE
    · rw [if_neg c26] at h
      refine r_iload X dX8_loved_80 6 rfl ?_
      refine r_aload_n X dX8_loved_82 2 rfl rfl ?_
      refine r_geti X dX8_loved_83 i_X5 v_X5 (lS0 hb3) 1 rfl (Nat.le_of_ble_eq_true rfl) g_283 ?_
      refine r_icmp_ge X 133 dX8_loved_86 (by decide) (fun c25 => ?_) (fun c25 => ?_)
      · rw [if_pos c25] at h
        refine r_sub (L' := [(0, .ref (ea E 0)), (2, .int a2), (3, .ref (ea E b3)), (4, .int a4), (5, .int a5), (6, .int a6)]) [0, 1, 2, 3, 4, 5] rfl ?_
        cases h
        exact hE
      · rw [if_neg c25] at h
        refine r_aload_n X dX8_loved_89 0 rfl rfl ?_
        refine r_getr X dX8_loved_90 i_X8 v_X8 lC_0 2 rfl (Nat.le_of_ble_eq_true rfl) g_295 ?_
        refine r_aload_n X dX8_loved_93 0 rfl rfl ?_
        refine r_getr X dX8_loved_94 i_X8 v_X8 lC_0 3 rfl (Nat.le_of_ble_eq_true rfl) g_296 ?_
        refine r_iconst X dX8_loved_97 (v := 1) (by decide) ?_
        obtain ⟨s17, e18, h⟩ := bd1_ok h
        refine kX0_spend X (ctX0_spend hH_39 e18) dX8_loved_98 lC_39 g_522 (Nat.le_of_ble_eq_true rfl) (Nat.le_of_ble_eq_true rfl) ?_
        refine r_aload_n X dX8_loved_101 0 rfl rfl ?_
        refine r_getr X dX8_loved_102 i_X8 v_X8 lC_0 2 rfl (Nat.le_of_ble_eq_true rfl) g_295 ?_
        refine r_getr X dX8_loved_105 i_X0 v_X0 lC_39 5 rfl (Nat.le_of_ble_eq_true rfl) g_111 ?_
        refine r_iload_n X dX8_loved_108 1 rfl rfl ?_
        obtain ⟨g19, v20, ev20, h⟩ := ld_ok h
        refine s_iald X dX8_loved_109 lC_45 g19 ev20 ?_
        refine r_aload_n X dX8_loved_110 2 rfl rfl ?_
        refine r_getr X dX8_loved_111 i_X5 v_X5 (lS0 hb3) 0 rfl (Nat.le_of_ble_eq_true rfl) g_281 ?_
        refine r_iload X dX8_loved_114 6 rfl ?_
        obtain ⟨g21, v22, ev22, h⟩ := ld_ok h
        refine s_iald X dX8_loved_116 (lS1 hb3) g21 ev22 ?_
        obtain ⟨j125, ej125, h⟩ := jn1_ok h
        have hj125 : ∀ (w23 : Int32), j125 w23 = some (q6, t8) → AW E layC p l e (rmD 6) ms m args below meth c 8 0 0 Q 125 [(0, .ref (ea E 0)), (2, .int a2), (3, .ref (ea E b3)), (4, .int a4), (5, .int a5), (7, .int a7)] [.int w23] s17 := by
          intro w23 h
          rw [ej125] at h
          refine r_istore (L' := [(0, .ref (ea E 0)), (2, .int a2), (3, .ref (ea E b3)), (4, .int a4), (5, .int a5), (6, .int w23), (7, .int a7)]) X dX8_loved_125 [1, 2, 3, 4, 5, 0, 6] rfl (Nat.le_of_ble_eq_true rfl) ?_
          refine r_iinc (L' := [(0, .ref (ea E 0)), (2, .int a2), (3, .ref (ea E b3)), (4, .int a4), (5, .int a5), (6, .int w23), (7, .int (a7 + 1))]) (v := a7 + 1) X dX8_loved_127 6 rfl rfl [1, 2, 3, 4, 5, 6, 0] rfl (Nat.le_of_ble_eq_true rfl) ?_
          refine r_goto X 75 dX8_loved_130 (by decide) ?_
          exact ih _ _ _ _ _ h hE
        refine r_icmp_ne X 124 dX8_loved_117 (by decide) (fun c24 => ?_) (fun c24 => ?_)
        · rw [if_neg c24] at h
          refine r_iconst X dX8_loved_124 (v := 0) (by decide) ?_
          refine r_sub (L' := [(0, .ref (ea E 0)), (2, .int a2), (3, .ref (ea E b3)), (4, .int a4), (5, .int a5), (7, .int a7)]) [0, 1, 2, 3, 4, 6] rfl ?_
          exact hj125 _ h
        · rw [if_pos c24] at h
          refine r_iconst X dX8_loved_120 (v := 1) (by decide) ?_
          refine r_goto X 125 dX8_loved_121 (by decide) ?_
          refine r_sub (L' := [(0, .ref (ea E 0)), (2, .int a2), (3, .ref (ea E b3)), (4, .int a4), (5, .int a5), (7, .int a7)]) [0, 1, 2, 3, 4, 6] rfl ?_
          exact hj125 _ h
set_option maxHeartbeats 4000000 in
set_option maxRecDepth 100000 in
theorem LX8_loved_47 {l : Launch} {E : EE} {p : Program} {e : Env} {ms : State} {m : MethodId} {args : Array Value} {below : List Frame} {meth : Method} {c : Code} {a2 : Int32} {b3 : Nat} {Q : State → Prop} (X : Cx E layC p ms m args c cX8_loved RX8 8) (hb3 : isS b3) : ∀ (n : Nat) (a4 : Int32) (a5 : Int32) (s0 : St) (q4 : Int32) (t8 : St), fX8_loved_47 a2 b3 n a4 a5 s0 = some (q4, t8) → AW E layC p l e (rmD 6) ms m args below meth c 8 0 0 Q 153 [(4, .int q4)] [] t8 → AW E layC p l e (rmD 6) ms m args below meth c 8 0 0 Q 47 [(0, .ref (ea E 0)), (2, .int a2), (3, .ref (ea E b3)), (4, .int a4), (5, .int a5)] [] s0 := by
  intro n
  induction n with
  | zero =>
    intro a4 a5 s0 q4 t8 h hE
    cases h
  | succ n ih =>
    intro a4 a5 s0 q4 t8 h hE
    rw [fX8_loved_47] at h
    refine r_iload X dX8_loved_47 4 rfl ?_
    refine r_bipush X dX8_loved_49 (v := 8) (by decide) ?_
    refine r_icmp_ge X 153 dX8_loved_51 (by decide) (fun c31 => ?_) (fun c31 => ?_)
    · rw [if_pos c31] at h
      refine r_sub (L' := [(4, .int a4)]) [3] rfl ?_
      cases h
      exact hE
    · rw [if_neg c31] at h
      refine r_aload_n X dX8_loved_54 0 rfl rfl ?_
      obtain ⟨s13, e14, h⟩ := bd1_ok h
      refine kX8_thinkAnew X (ctX8_thinkAnew e14) dX8_loved_55 lC_0 g_559 (Nat.le_of_ble_eq_true rfl) (Nat.le_of_ble_eq_true rfl) ?_
      refine r_aload_n X dX8_loved_58 0 rfl rfl ?_
      refine r_getr X dX8_loved_59 i_X8 v_X8 lC_0 2 rfl (Nat.le_of_ble_eq_true rfl) g_295 ?_
      refine r_getr X dX8_loved_62 i_X0 v_X0 lC_39 6 rfl (Nat.le_of_ble_eq_true rfl) g_113 ?_
      refine r_iload_n X dX8_loved_65 1 rfl rfl ?_
      refine r_iload X dX8_loved_66 4 rfl ?_
      obtain ⟨g15, s16, es16, h⟩ := as_ok h
      refine s_iast X dX8_loved_68 lC_46 g15 es16 ?_
      refine r_iconst X dX8_loved_69 (v := 1) (by decide) ?_
      refine r_istore (L' := [(0, .ref (ea E 0)), (2, .int a2), (3, .ref (ea E b3)), (4, .int a4), (5, .int a5), (6, .int 1)]) X dX8_loved_70 [1, 2, 3, 4, 5, 0] rfl (Nat.le_of_ble_eq_true rfl) ?_
      refine r_iconst X dX8_loved_72 (v := 0) (by decide) ?_
      refine r_istore (L' := [(0, .ref (ea E 0)), (2, .int a2), (3, .ref (ea E b3)), (4, .int a4), (5, .int a5), (6, .int 1), (7, .int 0)]) X dX8_loved_73 [1, 2, 3, 4, 5, 6, 0] rfl (Nat.le_of_ble_eq_true rfl) ?_
      obtain ⟨v28, s27, eo, h⟩ := bd2_ok h
      refine LX8_loved_75 X hb3 FU _ _ _ _ _ eo ?_
      refine r_iload X dX8_loved_133 5 rfl ?_
      obtain ⟨j147, ej147, h⟩ := jn1_ok h
      have hj147 : ∀ (w29 : Int32), j147 w29 = some (q4, t8) → AW E layC p l e (rmD 6) ms m args below meth c 8 0 0 Q 147 [(0, .ref (ea E 0)), (2, .int a2), (3, .ref (ea E b3)), (4, .int w29), (5, .int a5)] [] s27 := by
        intro w29 h
        rw [ej147] at h
        refine r_iinc (L' := [(0, .ref (ea E 0)), (2, .int a2), (3, .ref (ea E b3)), (4, .int w29), (5, .int (a5 + 1))]) (v := a5 + 1) X dX8_loved_147 4 rfl rfl [1, 2, 3, 4, 0] rfl (Nat.le_of_ble_eq_true rfl) ?_
        refine r_goto X 47 dX8_loved_150 (by decide) ?_
        exact ih _ _ _ _ _ h hE
      refine r_if_eq X 147 dX8_loved_135 (by decide) (fun c30 => ?_) (fun c30 => ?_)
      · rw [if_pos c30] at h
        refine r_sub (L' := [(0, .ref (ea E 0)), (2, .int a2), (3, .ref (ea E b3)), (4, .int a4), (5, .int a5)]) [0, 1, 2, 3, 4] rfl ?_
        exact hj147 _ h
      · rw [if_neg c30] at h
        refine r_iload X dX8_loved_138 3 rfl ?_
        refine r_iconst X dX8_loved_140 (v := 1) (by decide) ?_
        refine r_iload X dX8_loved_141 4 rfl ?_
        refine s_ishl X dX8_loved_143 ?_
        refine r_ior X dX8_loved_144 ?_
        refine r_istore (L' := [(0, .ref (ea E 0)), (2, .int a2), (3, .ref (ea E b3)), (4, .int (a4 ||| (shl 1 a5))), (5, .int a5)]) X dX8_loved_145 [1, 2, 3, 0, 4] rfl (Nat.le_of_ble_eq_true rfl) ?_
        exact hj147 _ h
set_option maxHeartbeats 4000000 in
set_option maxRecDepth 100000 in
theorem ctX8_loved {l : Launch} {E : EE} {a1 : Int32} {a2 : Int32} {s0 : St} {r9 : Int32} {t9 : St}  (h : fX8_loved a1 a2 s0 = some (r9, t9)) : Ct l E layC yX8_loved cX8_loved 8 (some .int) 6 [.ref (ea E 0), .int a1, .int a2] s0 (some (.int r9)) t9 := by
  refine Ct.of (by decide) (Nat.le_of_ble_eq_true rfl) ?_
  intro p e ms m below meth c X hlk hr
  have X : Cx E layC p ms m [.ref (ea E 0), .int a1, .int a2].toArray c cX8_loved RX8 8 := X
  refine r_sub (L' := [(0, .ref (ea E 0)), (1, .int a1), (2, .int a2)]) [0, 1, 2] rfl ?_
  unfold fX8_loved at h
  refine r_iload_n X dX8_loved_0 1 rfl rfl ?_
  obtain ⟨u3, s1, e2, h⟩ := bd2_ok h
  refine kX8_isSheet X (ctX8_isSheet e2) dX8_loved_1 g_600 (Nat.le_of_ble_eq_true rfl) (Nat.le_of_ble_eq_true rfl) ?_
  obtain ⟨j15, ej15, h⟩ := jn1_ok h
  have hj15 : ∀ (s4 : St), j15 s4 = some (r9, t9) → AW E layC p l e (rmD 6) ms m [.ref (ea E 0), .int a1, .int a2].toArray below meth c 8 0 0 (MQc E layC below [.ref (ea E 0), .int a1, .int a2].toArray ms (some (.int r9)) t9) 15 [(0, .ref (ea E 0))] [] s4 := by
    intro s4 h
    rw [ej15] at h
    refine r_aload_n X dX8_loved_15 0 rfl rfl ?_
    refine r_iconst X dX8_loved_16 (v := 1) (by decide) ?_
    obtain ⟨u7, s5, e6, h⟩ := bd2_ok h
    refine kX8_error X (ctX8_error e6) dX8_loved_17 lC_0 g_337 (Nat.le_of_ble_eq_true rfl) (Nat.le_of_ble_eq_true rfl) ?_
    exact s_iret X hlk hr dX8_loved_20 h
  refine r_if_eq X 15 dX8_loved_4 (by decide) (fun c39 => ?_) (fun c39 => ?_)
  · rw [if_pos c39] at h
    refine r_sub (L' := [(0, .ref (ea E 0))]) [0] rfl ?_
    exact hj15 _ h
  · rw [if_neg c39] at h
    refine r_aload_n X dX8_loved_7 0 rfl rfl ?_
    refine r_iload_n X dX8_loved_8 2 rfl rfl ?_
    obtain ⟨u10, s8, e9, h⟩ := bd2_ok h
    refine kX8_isDiner X (ctX8_isDiner e9) dX8_loved_9 lC_0 g_380 (Nat.le_of_ble_eq_true rfl) (Nat.le_of_ble_eq_true rfl) ?_
    refine r_if_ne X 21 dX8_loved_12 (by decide) (fun c38 => ?_) (fun c38 => ?_)
    · rw [if_neg c38] at h
      refine r_aload_n X dX8_loved_21 0 rfl rfl ?_
      refine r_getr X dX8_loved_22 i_X8 v_X8 lC_0 6 rfl (Nat.le_of_ble_eq_true rfl) g_299 ?_
      refine r_iload_n X dX8_loved_25 1 rfl rfl ?_
      obtain ⟨g11, v12, ev12, h⟩ := rl_ok h
      refine s_aald X dX8_loved_26 lC_58 g11 ev12 ?_
      refine r_astore_n (L' := [(0, .ref (ea E 0)), (2, .int a2), (3, .ref (ea E v12))]) X dX8_loved_27 [1, 3, 0] rfl rfl (Nat.le_of_ble_eq_true rfl) ?_
      refine r_aload_n X dX8_loved_28 2 rfl rfl ?_
      refine r_geti X dX8_loved_29 i_X5 v_X5 (lS0 (hS_of2 g11 ev12)) 2 rfl (Nat.le_of_ble_eq_true rfl) g_285 ?_
      refine r_if_ne X 41 dX8_loved_32 (by decide) (fun c37 => ?_) (fun c37 => ?_)
      · rw [if_neg c37] at h
        refine r_iconst X dX8_loved_41 (v := 0) (by decide) ?_
        refine r_istore (L' := [(0, .ref (ea E 0)), (2, .int a2), (3, .ref (ea E v12)), (4, .int 0)]) X dX8_loved_42 [1, 2, 3, 0] rfl (Nat.le_of_ble_eq_true rfl) ?_
        refine r_iconst X dX8_loved_44 (v := 0) (by decide) ?_
        refine r_istore (L' := [(0, .ref (ea E 0)), (2, .int a2), (3, .ref (ea E v12)), (4, .int 0), (5, .int 0)]) X dX8_loved_45 [1, 2, 3, 4, 0] rfl (Nat.le_of_ble_eq_true rfl) ?_
        obtain ⟨v33, s32, eo, h⟩ := bd2_ok h
        refine LX8_loved_47 X (hS_of2 g11 ev12) FU _ _ _ _ _ eo ?_
        refine r_iload X dX8_loved_153 0 rfl ?_
        exact s_iret X hlk hr dX8_loved_155 h
      · rw [if_pos c37] at h
        refine r_aload_n X dX8_loved_35 0 rfl rfl ?_
        refine r_iconst X dX8_loved_36 (v := 2) (by decide) ?_
        obtain ⟨u36, s34, e35, h⟩ := bd2_ok h
        refine kX8_error X (ctX8_error e35) dX8_loved_37 lC_0 g_337 (Nat.le_of_ble_eq_true rfl) (Nat.le_of_ble_eq_true rfl) ?_
        exact s_iret X hlk hr dX8_loved_40 h
    · rw [if_pos c38] at h
      refine r_sub (L' := [(0, .ref (ea E 0))]) [0] rfl ?_
      exact hj15 _ h
/-! X8_addToPack -/
theorem nX8_addToPack : yX8_addToPack.cls ≠ "java/lang/invoke/MethodHandle" ∧ yX8_addToPack.cls ≠ "java/lang/invoke/VarHandle" ∧ (parseMethodDescriptor yX8_addToPack.desc).map (fun d => d.parameters.length) = some 3 := by decide +kernel
theorem kX8_addToPack {l : Launch} {E : EE} {p : Program} {e : Env} {ms : State} {m : MethodId} {args : Array Value} {below : List Frame} {meth : Method} {c : Code} {cc : ByteArray} {own : String} {nL pc idx d D : Nat} {Q : State → Prop} {L : List (Nat × Value)} {rest : List Value} {σ τ : St} {a1 : Int32} {a2 : Int32} {a3 : Int32}  {fl : List (Option Nat)} (X : Cx E layC p ms m args c cc own nL) (hM : Ct l E layC yX8_addToPack cX8_addToPack 5 none d [.ref (ea E 0), .int a1, .int a2, .int a3] σ none τ) (hd : decode cc pc = .ok (.invokevirtual idx, 3)) (hlay : layC[0]? = some (.inl (7, fl))) (w1 : Cond.methodLink own idx yX8_addToPack ∈ gw) (hR : d + 1 ≤ D) (hrs : (rest.map fun v => v.category).sum ≤ 8) (k : AW E layC p l e (rmD D) ms m args below meth c nL 0 0 Q (pc + 3) L rest τ) : AW E layC p l e (rmD D) ms m args below meth c nL 0 0 Q pc L (.int a3 :: .int a2 :: .int a1 :: .ref (ea E 0) :: rest) σ :=
  s_callV X [.int a1, .int a2, .int a3] rest hM hd v_X8 hlay w1 g_621 g_14 g_67 g_622 nX8_addToPack rfl rfl hrs (Nat.le_of_ble_eq_true rfl) hR k
def fX8_addToPack_3 (a2 : Int32) (a3 : Int32) : Nat → Int32 → St → Option (St)
  | 0, _, _ => none
  | n + 1, a4, s0 =>
    if a4 < a2 then
    some s0
    else
    bd1 (ald s0 68 41 a4) fun v2 =>
    bd1 (ald s0 68 41 (a4 - a2)) fun v4 =>
    bd1 (ast s0 68 41 a4 (imx v2 (v4 + a3))) fun s6 =>
    fX8_addToPack_3 a2 a3 n (a4 + (-1)) s6
def fX8_addToPack (a1 : Int32) (a2 : Int32) (a3 : Int32) (s0 : St) : Option (St) :=
    bd1 (fX8_addToPack_3 a2 a3 FU a1 s0) fun s8 =>
    some s8
set_option maxHeartbeats 4000000 in
set_option maxRecDepth 100000 in
theorem LX8_addToPack_3 {l : Launch} {E : EE} {p : Program} {e : Env} {ms : State} {m : MethodId} {args : Array Value} {below : List Frame} {meth : Method} {c : Code} {a2 : Int32} {a3 : Int32} {Q : State → Prop} (X : Cx E layC p ms m args c cX8_addToPack RX8 5) : ∀ (n : Nat) (a4 : Int32) (s0 : St)  (t8 : St), fX8_addToPack_3 a2 a3 n a4 s0 = some t8 → AW E layC p l e (rmD 1) ms m args below meth c 5 0 0 Q 43 [] [] t8 → AW E layC p l e (rmD 1) ms m args below meth c 5 0 0 Q 3 [(0, .ref (ea E 0)), (2, .int a2), (3, .int a3), (4, .int a4)] [] s0 := by
  intro n
  induction n with
  | zero =>
    intro a4 s0 t8 h hE
    cases h
  | succ n ih =>
    intro a4 s0 t8 h hE
    rw [fX8_addToPack_3] at h
    refine r_iload X dX8_addToPack_3 3 rfl ?_
    refine r_iload_n X dX8_addToPack_5 1 rfl rfl ?_
    refine r_icmp_lt X 43 dX8_addToPack_6 (by decide) (fun c7 => ?_) (fun c7 => ?_)
    · rw [if_pos c7] at h
      refine r_sub (L' := []) [] rfl ?_
      cases h
      exact hE
    · rw [if_neg c7] at h
      refine r_aload_n X dX8_addToPack_9 0 rfl rfl ?_
      refine r_getr X dX8_addToPack_10 i_X8 v_X8 lC_0 8 rfl (Nat.le_of_ble_eq_true rfl) g_301 ?_
      refine r_iload X dX8_addToPack_13 3 rfl ?_
      refine r_aload_n X dX8_addToPack_15 0 rfl rfl ?_
      refine r_getr X dX8_addToPack_16 i_X8 v_X8 lC_0 8 rfl (Nat.le_of_ble_eq_true rfl) g_301 ?_
      refine r_iload X dX8_addToPack_19 3 rfl ?_
      obtain ⟨g1, v2, ev2, h⟩ := ld_ok h
      refine s_iald X dX8_addToPack_21 lC_68 g1 ev2 ?_
      refine r_aload_n X dX8_addToPack_22 0 rfl rfl ?_
      refine r_getr X dX8_addToPack_23 i_X8 v_X8 lC_0 8 rfl (Nat.le_of_ble_eq_true rfl) g_301 ?_
      refine r_iload X dX8_addToPack_26 3 rfl ?_
      refine r_iload_n X dX8_addToPack_28 1 rfl rfl ?_
      refine r_isub X dX8_addToPack_29 ?_
      obtain ⟨g3, v4, ev4, h⟩ := ld_ok h
      refine s_iald X dX8_addToPack_30 lC_68 g3 ev4 ?_
      refine r_iload_n X dX8_addToPack_31 2 rfl rfl ?_
      refine r_iadd X dX8_addToPack_32 ?_
      refine s_mmax X dX8_addToPack_33 g_623 g_160 g_71 g_161 (Nat.le_of_ble_eq_true rfl) (Nat.le_of_ble_eq_true rfl) ?_
      obtain ⟨g5, s6, es6, h⟩ := as_ok h
      refine s_iast X dX8_addToPack_36 lC_68 g5 es6 ?_
      refine r_iinc (L' := [(0, .ref (ea E 0)), (2, .int a2), (3, .int a3), (4, .int (a4 + (-1)))]) (v := a4 + (-1)) X dX8_addToPack_37 3 rfl rfl [1, 2, 3, 0] rfl (Nat.le_of_ble_eq_true rfl) ?_
      refine r_goto X 3 dX8_addToPack_40 (by decide) ?_
      exact ih _ _ _ h hE
set_option maxHeartbeats 4000000 in
set_option maxRecDepth 100000 in
theorem ctX8_addToPack {l : Launch} {E : EE} {a1 : Int32} {a2 : Int32} {a3 : Int32} {s0 : St} {t9 : St}  (h : fX8_addToPack a1 a2 a3 s0 = some t9) : Ct l E layC yX8_addToPack cX8_addToPack 5 none 1 [.ref (ea E 0), .int a1, .int a2, .int a3] s0 none t9 := by
  refine Ct.of (by decide) (Nat.le_of_ble_eq_true rfl) ?_
  intro p e ms m below meth c X hlk hr
  have X : Cx E layC p ms m [.ref (ea E 0), .int a1, .int a2, .int a3].toArray c cX8_addToPack RX8 5 := X
  refine r_sub (L' := [(0, .ref (ea E 0)), (1, .int a1), (2, .int a2), (3, .int a3)]) [0, 1, 2, 3] rfl ?_
  unfold fX8_addToPack at h
  refine r_iload_n X dX8_addToPack_0 1 rfl rfl ?_
  refine r_istore (L' := [(0, .ref (ea E 0)), (2, .int a2), (3, .int a3), (4, .int a1)]) X dX8_addToPack_1 [1, 3, 4, 0] rfl (Nat.le_of_ble_eq_true rfl) ?_
  obtain ⟨s8, eo, h⟩ := bd1_ok h
  refine LX8_addToPack_3 X FU _ _ _ eo ?_
  exact s_vret X hlk hr dX8_addToPack_43 h
/-! X8_pack -/
theorem nX8_pack : yX8_pack.cls ≠ "java/lang/invoke/MethodHandle" ∧ yX8_pack.cls ≠ "java/lang/invoke/VarHandle" ∧ (parseMethodDescriptor yX8_pack.desc).map (fun d => d.parameters.length) = some 1 := by decide +kernel
theorem kX8_pack {l : Launch} {E : EE} {p : Program} {e : Env} {ms : State} {m : MethodId} {args : Array Value} {below : List Frame} {meth : Method} {c : Code} {cc : ByteArray} {own : String} {nL pc idx d D : Nat} {Q : State → Prop} {L : List (Nat × Value)} {rest : List Value} {σ τ : St} {a1 : Int32} {r : Int32} {fl : List (Option Nat)} (X : Cx E layC p ms m args c cc own nL) (hM : Ct l E layC yX8_pack cX8_pack 5 (some .int) d [.ref (ea E 0), .int a1] σ (some (.int r)) τ) (hd : decode cc pc = .ok (.invokevirtual idx, 3)) (hlay : layC[0]? = some (.inl (7, fl))) (w1 : Cond.methodLink own idx yX8_pack ∈ gw) (hR : d + 1 ≤ D) (hrs : (rest.map fun v => v.category).sum ≤ 8) (k : AW E layC p l e (rmD D) ms m args below meth c nL 0 0 Q (pc + 3) L (.int r :: rest) τ) : AW E layC p l e (rmD D) ms m args below meth c nL 0 0 Q pc L (.int a1 :: .ref (ea E 0) :: rest) σ :=
  s_callV X [.int a1] rest hM hd v_X8 hlay w1 g_612 g_613 g_67 g_614 nX8_pack rfl rfl hrs (Nat.le_of_ble_eq_true rfl) hR k
def fX8_pack_34 (a1 : Int32) (a2 : Int32) : Nat → Int32 → St → Option (St)
  | 0, _, _ => none
  | n + 1, a3, s0 =>
    if (s0 2 12) ≤ a3 then
    some s0
    else
    bd2 (fX0_leftOf 2 a2 a3 s0) fun u8 s6 =>
    jn (fun (s9 : St) =>
    fX8_pack_34 a1 a2 n (a3 + 1) s9) fun j96 =>
    if u8 ≤ 0 then
    j96 s6
    else
    bd2 (fX0_tasteOf 2 a2 a3 u8 s6) fun u12 s10 =>
    bd1 (fX8_addToPack a1 u8 u12 s10) fun s13 =>
    j96 s13
def fX8_pack_26 (a1 : Int32) : Nat → Int32 → St → Option (St)
  | 0, _, _ => none
  | n + 1, a2, s0 =>
    if 6 ≤ a2 then
    some s0
    else
    bd1 (fX8_pack_34 a1 a2 FU 0 s0) fun s17 =>
    fX8_pack_26 a1 n (a2 + 1) s17
def fX8_pack (a1 : Int32) (s0 : St) : Option (Int32 × St) :=
    bd2 (fX8_within a1 0 40 s0) fun u3 s1 =>
    if u3 = 0 then
    bd2 (fX8_error 1 s1) fun u24 s22 =>
    some (u24, s22)
    else
    bd1 (fJ7_fill_53178 68 41 0 s1) fun s4 =>
    bd1 (fX8_pack_26 a1 FU 0 s4) fun s19 =>
    bd1 (ald s19 68 41 a1) fun v21 =>
    some (v21, s19)
set_option maxHeartbeats 4000000 in
set_option maxRecDepth 100000 in
theorem LX8_pack_34 {l : Launch} {E : EE} {p : Program} {e : Env} {ms : State} {m : MethodId} {args : Array Value} {below : List Frame} {meth : Method} {c : Code} {a1 : Int32} {a2 : Int32} {Q : State → Prop} (X : Cx E layC p ms m args c cX8_pack RX8 5) : ∀ (n : Nat) (a3 : Int32) (s0 : St)  (t8 : St), fX8_pack_34 a1 a2 n a3 s0 = some t8 → AW E layC p l e (rmD 4) ms m args below meth c 5 0 0 Q 102 [(0, .ref (ea E 0)), (1, .int a1), (2, .int a2)] [] t8 → AW E layC p l e (rmD 4) ms m args below meth c 5 0 0 Q 34 [(0, .ref (ea E 0)), (1, .int a1), (2, .int a2), (3, .int a3)] [] s0 := by
  intro n
  induction n with
  | zero =>
    intro a3 s0 t8 h hE
    cases h
  | succ n ih =>
    intro a3 s0 t8 h hE
    rw [fX8_pack_34] at h
    refine r_iload_n X dX8_pack_34 3 rfl rfl ?_
    refine r_aload_n X dX8_pack_35 0 rfl rfl ?_
    refine r_getr X dX8_pack_36 i_X8 v_X8 lC_0 0 rfl (Nat.le_of_ble_eq_true rfl) g_293 ?_
    refine r_getr X dX8_pack_39 i_X7 v_X7 lC_1 0 rfl (Nat.le_of_ble_eq_true rfl) g_177 ?_
    refine r_geti X dX8_pack_42 i_X0 v_X0 lC_2 12 rfl (Nat.le_of_ble_eq_true rfl) g_124 ?_
    refine r_icmp_ge X 102 dX8_pack_45 (by decide) (fun c16 => ?_) (fun c16 => ?_)
    · rw [if_pos c16] at h
      refine r_sub (L' := [(0, .ref (ea E 0)), (1, .int a1), (2, .int a2)]) [0, 1, 2] rfl ?_
      cases h
      exact hE
    · rw [if_neg c16] at h
      refine r_aload_n X dX8_pack_48 0 rfl rfl ?_
      refine r_getr X dX8_pack_49 i_X8 v_X8 lC_0 0 rfl (Nat.le_of_ble_eq_true rfl) g_293 ?_
      refine r_getr X dX8_pack_52 i_X7 v_X7 lC_1 0 rfl (Nat.le_of_ble_eq_true rfl) g_177 ?_
      refine r_aload_n X dX8_pack_55 0 rfl rfl ?_
      refine r_getr X dX8_pack_56 i_X8 v_X8 lC_0 3 rfl (Nat.le_of_ble_eq_true rfl) g_296 ?_
      refine r_iload_n X dX8_pack_59 2 rfl rfl ?_
      refine r_iload_n X dX8_pack_60 3 rfl rfl ?_
      obtain ⟨u8, s6, e7, h⟩ := bd2_ok h
      refine kX0_leftOf X (ctX0_leftOf hH_2 e7) dX8_pack_61 lC_2 g_391 (Nat.le_of_ble_eq_true rfl) (Nat.le_of_ble_eq_true rfl) ?_
      refine r_istore (L' := [(0, .ref (ea E 0)), (1, .int a1), (2, .int a2), (3, .int a3), (4, .int u8)]) X dX8_pack_64 [1, 2, 3, 4, 0] rfl (Nat.le_of_ble_eq_true rfl) ?_
      refine r_iload X dX8_pack_66 4 rfl ?_
      obtain ⟨j96, ej96, h⟩ := jn1_ok h
      have hj96 : ∀ (s9 : St), j96 s9 = some t8 → AW E layC p l e (rmD 4) ms m args below meth c 5 0 0 Q 96 [(0, .ref (ea E 0)), (1, .int a1), (2, .int a2), (3, .int a3)] [] s9 := by
        intro s9 h
        rw [ej96] at h
        refine r_iinc (L' := [(0, .ref (ea E 0)), (1, .int a1), (2, .int a2), (3, .int (a3 + 1))]) (v := a3 + 1) X dX8_pack_96 3 rfl rfl [1, 2, 3, 0] rfl (Nat.le_of_ble_eq_true rfl) ?_
        refine r_goto X 34 dX8_pack_99 (by decide) ?_
        exact ih _ _ _ h hE
      refine r_if_le X 96 dX8_pack_68 (by decide) (fun c15 => ?_) (fun c15 => ?_)
      · rw [if_pos c15] at h
        refine r_sub (L' := [(0, .ref (ea E 0)), (1, .int a1), (2, .int a2), (3, .int a3)]) [0, 1, 2, 3] rfl ?_
        exact hj96 _ h
      · rw [if_neg c15] at h
        refine r_aload_n X dX8_pack_71 0 rfl rfl ?_
        refine r_iload_n X dX8_pack_72 1 rfl rfl ?_
        refine r_iload X dX8_pack_73 4 rfl ?_
        refine r_aload_n X dX8_pack_75 0 rfl rfl ?_
        refine r_getr X dX8_pack_76 i_X8 v_X8 lC_0 0 rfl (Nat.le_of_ble_eq_true rfl) g_293 ?_
        refine r_getr X dX8_pack_79 i_X7 v_X7 lC_1 0 rfl (Nat.le_of_ble_eq_true rfl) g_177 ?_
        refine r_aload_n X dX8_pack_82 0 rfl rfl ?_
        refine r_getr X dX8_pack_83 i_X8 v_X8 lC_0 3 rfl (Nat.le_of_ble_eq_true rfl) g_296 ?_
        refine r_iload_n X dX8_pack_86 2 rfl rfl ?_
        refine r_iload_n X dX8_pack_87 3 rfl rfl ?_
        refine r_iload X dX8_pack_88 4 rfl ?_
        obtain ⟨u12, s10, e11, h⟩ := bd2_ok h
        refine kX0_tasteOf X (ctX0_tasteOf hH_2 e11) dX8_pack_90 lC_2 g_618 (Nat.le_of_ble_eq_true rfl) (Nat.le_of_ble_eq_true rfl) ?_
        obtain ⟨s13, e14, h⟩ := bd1_ok h
        refine kX8_addToPack X (ctX8_addToPack e14) dX8_pack_93 lC_0 g_619 (Nat.le_of_ble_eq_true rfl) (Nat.le_of_ble_eq_true rfl) ?_
        refine r_sub (L' := [(0, .ref (ea E 0)), (1, .int a1), (2, .int a2), (3, .int a3)]) [0, 1, 2, 3] rfl ?_
        exact hj96 _ h
set_option maxHeartbeats 4000000 in
set_option maxRecDepth 100000 in
theorem LX8_pack_26 {l : Launch} {E : EE} {p : Program} {e : Env} {ms : State} {m : MethodId} {args : Array Value} {below : List Frame} {meth : Method} {c : Code} {a1 : Int32} {Q : State → Prop} (X : Cx E layC p ms m args c cX8_pack RX8 5) : ∀ (n : Nat) (a2 : Int32) (s0 : St)  (t8 : St), fX8_pack_26 a1 n a2 s0 = some t8 → AW E layC p l e (rmD 4) ms m args below meth c 5 0 0 Q 108 [(0, .ref (ea E 0)), (1, .int a1)] [] t8 → AW E layC p l e (rmD 4) ms m args below meth c 5 0 0 Q 26 [(0, .ref (ea E 0)), (1, .int a1), (2, .int a2)] [] s0 := by
  intro n
  induction n with
  | zero =>
    intro a2 s0 t8 h hE
    cases h
  | succ n ih =>
    intro a2 s0 t8 h hE
    rw [fX8_pack_26] at h
    refine r_iload_n X dX8_pack_26 2 rfl rfl ?_
    refine r_bipush X dX8_pack_27 (v := 6) (by decide) ?_
    refine r_icmp_ge X 108 dX8_pack_29 (by decide) (fun c18 => ?_) (fun c18 => ?_)
    · rw [if_pos c18] at h
      refine r_sub (L' := [(0, .ref (ea E 0)), (1, .int a1)]) [0, 1] rfl ?_
      cases h
      exact hE
    · rw [if_neg c18] at h
      refine r_iconst X dX8_pack_32 (v := 0) (by decide) ?_
      refine r_istore_n (L' := [(0, .ref (ea E 0)), (1, .int a1), (2, .int a2), (3, .int 0)]) X dX8_pack_33 [1, 2, 3, 0] rfl rfl (Nat.le_of_ble_eq_true rfl) ?_
      obtain ⟨s17, eo, h⟩ := bd1_ok h
      refine LX8_pack_34 X FU _ _ _ eo ?_
      refine r_iinc (L' := [(0, .ref (ea E 0)), (1, .int a1), (2, .int (a2 + 1))]) (v := a2 + 1) X dX8_pack_102 2 rfl rfl [1, 2, 0] rfl (Nat.le_of_ble_eq_true rfl) ?_
      refine r_goto X 26 dX8_pack_105 (by decide) ?_
      exact ih _ _ _ h hE
set_option maxHeartbeats 4000000 in
set_option maxRecDepth 100000 in
theorem ctX8_pack {l : Launch} {E : EE} {a1 : Int32} {s0 : St} {r9 : Int32} {t9 : St}  (h : fX8_pack a1 s0 = some (r9, t9)) : Ct l E layC yX8_pack cX8_pack 5 (some .int) 4 [.ref (ea E 0), .int a1] s0 (some (.int r9)) t9 := by
  refine Ct.of (by decide) (Nat.le_of_ble_eq_true rfl) ?_
  intro p e ms m below meth c X hlk hr
  have X : Cx E layC p ms m [.ref (ea E 0), .int a1].toArray c cX8_pack RX8 5 := X
  refine r_sub (L' := [(0, .ref (ea E 0)), (1, .int a1)]) [0, 1] rfl ?_
  unfold fX8_pack at h
  refine r_iload_n X dX8_pack_0 1 rfl rfl ?_
  refine r_iconst X dX8_pack_1 (v := 0) (by decide) ?_
  refine r_bipush X dX8_pack_2 (v := 40) (by decide) ?_
  obtain ⟨u3, s1, e2, h⟩ := bd2_ok h
  refine kX8_within X (ctX8_within e2) dX8_pack_4 g_334 (Nat.le_of_ble_eq_true rfl) (Nat.le_of_ble_eq_true rfl) ?_
  refine r_if_ne X 16 dX8_pack_7 (by decide) (fun c25 => ?_) (fun c25 => ?_)
  · rw [if_neg c25] at h
    refine r_aload_n X dX8_pack_16 0 rfl rfl ?_
    refine r_getr X dX8_pack_17 i_X8 v_X8 lC_0 8 rfl (Nat.le_of_ble_eq_true rfl) g_301 ?_
    refine r_iconst X dX8_pack_20 (v := 0) (by decide) ?_
    obtain ⟨s4, e5, h⟩ := bd1_ok h
    refine kJ7_fill_53178 X (ctJ7_fill_53178 lC_68 e5) dX8_pack_21 g_615 (Nat.le_of_ble_eq_true rfl) (Nat.le_of_ble_eq_true rfl) ?_
    refine r_iconst X dX8_pack_24 (v := 0) (by decide) ?_
    refine r_istore_n (L' := [(0, .ref (ea E 0)), (1, .int a1), (2, .int 0)]) X dX8_pack_25 [1, 2, 0] rfl rfl (Nat.le_of_ble_eq_true rfl) ?_
    obtain ⟨s19, eo, h⟩ := bd1_ok h
    refine LX8_pack_26 X FU _ _ _ eo ?_
    refine r_aload_n X dX8_pack_108 0 rfl rfl ?_
    refine r_getr X dX8_pack_109 i_X8 v_X8 lC_0 8 rfl (Nat.le_of_ble_eq_true rfl) g_301 ?_
    refine r_iload_n X dX8_pack_112 1 rfl rfl ?_
    obtain ⟨g20, v21, ev21, h⟩ := ld_ok h
    refine s_iald X dX8_pack_113 lC_68 g20 ev21 ?_
    exact s_iret X hlk hr dX8_pack_114 h
  · rw [if_pos c25] at h
    refine r_aload_n X dX8_pack_10 0 rfl rfl ?_
    refine r_iconst X dX8_pack_11 (v := 1) (by decide) ?_
    obtain ⟨u24, s22, e23, h⟩ := bd2_ok h
    refine kX8_error X (ctX8_error e23) dX8_pack_12 lC_0 g_337 (Nat.le_of_ble_eq_true rfl) (Nat.le_of_ble_eq_true rfl) ?_
    exact s_iret X hlk hr dX8_pack_15 h
/-! X8_countTastes -/
theorem nX8_countTastes : yX8_countTastes.cls ≠ "java/lang/invoke/MethodHandle" ∧ yX8_countTastes.cls ≠ "java/lang/invoke/VarHandle" ∧ (parseMethodDescriptor yX8_countTastes.desc).map (fun d => d.parameters.length) = some 0 := by decide +kernel
theorem kX8_countTastes {l : Launch} {E : EE} {p : Program} {e : Env} {ms : State} {m : MethodId} {args : Array Value} {below : List Frame} {meth : Method} {c : Code} {cc : ByteArray} {own : String} {nL pc idx d D : Nat} {Q : State → Prop} {L : List (Nat × Value)} {rest : List Value} {σ τ : St}   {fl : List (Option Nat)} (X : Cx E layC p ms m args c cc own nL) (hM : Ct l E layC yX8_countTastes cX8_countTastes 4 none d [.ref (ea E 0)] σ none τ) (hd : decode cc pc = .ok (.invokevirtual idx, 3)) (hlay : layC[0]? = some (.inl (7, fl))) (w1 : Cond.methodLink own idx yX8_countTastes ∈ gw) (hR : d + 1 ≤ D) (hrs : (rest.map fun v => v.category).sum ≤ 8) (k : AW E layC p l e (rmD D) ms m args below meth c nL 0 0 Q (pc + 3) L rest τ) : AW E layC p l e (rmD D) ms m args below meth c nL 0 0 Q pc L (.ref (ea E 0) :: rest) σ :=
  s_callV X [] rest hM hd v_X8 hlay w1 g_630 g_15 g_67 g_631 nX8_countTastes rfl rfl hrs (Nat.le_of_ble_eq_true rfl) hR k
def fX8_countTastes_18 (a1 : Int32) : Nat → Int32 → St → Option (St)
  | 0, _, _ => none
  | n + 1, a2, s0 =>
    if (s0 2 12) ≤ a2 then
    some s0
    else
    bd2 (fX0_leftOf 2 a1 a2 s0) fun u5 s3 =>
    jn (fun (s6 : St) =>
    fX8_countTastes_18 a1 n (a2 + 1) s6) fun j79 =>
    if u5 ≤ 0 then
    j79 s3
    else
    bd2 (fX0_tasteOf 2 a1 a2 u5 s3) fun u9 s7 =>
    bd1 (ald s7 69 10 u9) fun v11 =>
    bd1 (ast s7 69 10 u9 (v11 + 1)) fun s13 =>
    j79 s13
def fX8_countTastes_10  : Nat → Int32 → St → Option (St)
  | 0, _, _ => none
  | n + 1, a1, s0 =>
    if 6 ≤ a1 then
    some s0
    else
    bd1 (fX8_countTastes_18 a1 FU 0 s0) fun s16 =>
    fX8_countTastes_10 n (a1 + 1) s16
def fX8_countTastes  (s0 : St) : Option (St) :=
    bd1 (fJ7_fill_53178 69 10 0 s0) fun s1 =>
    bd1 (fX8_countTastes_10 FU 0 s1) fun s18 =>
    some s18
set_option maxHeartbeats 4000000 in
set_option maxRecDepth 100000 in
theorem LX8_countTastes_18 {l : Launch} {E : EE} {p : Program} {e : Env} {ms : State} {m : MethodId} {args : Array Value} {below : List Frame} {meth : Method} {c : Code} {a1 : Int32} {Q : State → Prop} (X : Cx E layC p ms m args c cX8_countTastes RX8 4) : ∀ (n : Nat) (a2 : Int32) (s0 : St)  (t8 : St), fX8_countTastes_18 a1 n a2 s0 = some t8 → AW E layC p l e (rmD 4) ms m args below meth c 4 0 0 Q 85 [(0, .ref (ea E 0)), (1, .int a1)] [] t8 → AW E layC p l e (rmD 4) ms m args below meth c 4 0 0 Q 18 [(0, .ref (ea E 0)), (1, .int a1), (2, .int a2)] [] s0 := by
  intro n
  induction n with
  | zero =>
    intro a2 s0 t8 h hE
    cases h
  | succ n ih =>
    intro a2 s0 t8 h hE
    rw [fX8_countTastes_18] at h
    refine r_iload_n X dX8_countTastes_18 2 rfl rfl ?_
    refine r_aload_n X dX8_countTastes_19 0 rfl rfl ?_
    refine r_getr X dX8_countTastes_20 i_X8 v_X8 lC_0 0 rfl (Nat.le_of_ble_eq_true rfl) g_293 ?_
    refine r_getr X dX8_countTastes_23 i_X7 v_X7 lC_1 0 rfl (Nat.le_of_ble_eq_true rfl) g_177 ?_
    refine r_geti X dX8_countTastes_26 i_X0 v_X0 lC_2 12 rfl (Nat.le_of_ble_eq_true rfl) g_124 ?_
    refine r_icmp_ge X 85 dX8_countTastes_29 (by decide) (fun c15 => ?_) (fun c15 => ?_)
    · rw [if_pos c15] at h
      refine r_sub (L' := [(0, .ref (ea E 0)), (1, .int a1)]) [0, 1] rfl ?_
      cases h
      exact hE
    · rw [if_neg c15] at h
      refine r_aload_n X dX8_countTastes_32 0 rfl rfl ?_
      refine r_getr X dX8_countTastes_33 i_X8 v_X8 lC_0 0 rfl (Nat.le_of_ble_eq_true rfl) g_293 ?_
      refine r_getr X dX8_countTastes_36 i_X7 v_X7 lC_1 0 rfl (Nat.le_of_ble_eq_true rfl) g_177 ?_
      refine r_aload_n X dX8_countTastes_39 0 rfl rfl ?_
      refine r_getr X dX8_countTastes_40 i_X8 v_X8 lC_0 3 rfl (Nat.le_of_ble_eq_true rfl) g_296 ?_
      refine r_iload_n X dX8_countTastes_43 1 rfl rfl ?_
      refine r_iload_n X dX8_countTastes_44 2 rfl rfl ?_
      obtain ⟨u5, s3, e4, h⟩ := bd2_ok h
      refine kX0_leftOf X (ctX0_leftOf hH_2 e4) dX8_countTastes_45 lC_2 g_391 (Nat.le_of_ble_eq_true rfl) (Nat.le_of_ble_eq_true rfl) ?_
      refine r_istore_n (L' := [(0, .ref (ea E 0)), (1, .int a1), (2, .int a2), (3, .int u5)]) X dX8_countTastes_48 [1, 2, 3, 0] rfl rfl (Nat.le_of_ble_eq_true rfl) ?_
      refine r_iload_n X dX8_countTastes_49 3 rfl rfl ?_
      obtain ⟨j79, ej79, h⟩ := jn1_ok h
      have hj79 : ∀ (s6 : St), j79 s6 = some t8 → AW E layC p l e (rmD 4) ms m args below meth c 4 0 0 Q 79 [(0, .ref (ea E 0)), (1, .int a1), (2, .int a2)] [] s6 := by
        intro s6 h
        rw [ej79] at h
        refine r_iinc (L' := [(0, .ref (ea E 0)), (1, .int a1), (2, .int (a2 + 1))]) (v := a2 + 1) X dX8_countTastes_79 2 rfl rfl [1, 2, 0] rfl (Nat.le_of_ble_eq_true rfl) ?_
        refine r_goto X 18 dX8_countTastes_82 (by decide) ?_
        exact ih _ _ _ h hE
      refine r_if_le X 79 dX8_countTastes_50 (by decide) (fun c14 => ?_) (fun c14 => ?_)
      · rw [if_pos c14] at h
        refine r_sub (L' := [(0, .ref (ea E 0)), (1, .int a1), (2, .int a2)]) [0, 1, 2] rfl ?_
        exact hj79 _ h
      · rw [if_neg c14] at h
        refine r_aload_n X dX8_countTastes_53 0 rfl rfl ?_
        refine r_getr X dX8_countTastes_54 i_X8 v_X8 lC_0 9 rfl (Nat.le_of_ble_eq_true rfl) g_302 ?_
        refine r_aload_n X dX8_countTastes_57 0 rfl rfl ?_
        refine r_getr X dX8_countTastes_58 i_X8 v_X8 lC_0 0 rfl (Nat.le_of_ble_eq_true rfl) g_293 ?_
        refine r_getr X dX8_countTastes_61 i_X7 v_X7 lC_1 0 rfl (Nat.le_of_ble_eq_true rfl) g_177 ?_
        refine r_aload_n X dX8_countTastes_64 0 rfl rfl ?_
        refine r_getr X dX8_countTastes_65 i_X8 v_X8 lC_0 3 rfl (Nat.le_of_ble_eq_true rfl) g_296 ?_
        refine r_iload_n X dX8_countTastes_68 1 rfl rfl ?_
        refine r_iload_n X dX8_countTastes_69 2 rfl rfl ?_
        refine r_iload_n X dX8_countTastes_70 3 rfl rfl ?_
        obtain ⟨u9, s7, e8, h⟩ := bd2_ok h
        refine kX0_tasteOf X (ctX0_tasteOf hH_2 e8) dX8_countTastes_71 lC_2 g_618 (Nat.le_of_ble_eq_true rfl) (Nat.le_of_ble_eq_true rfl) ?_
        refine r_dup2 X dX8_countTastes_74 rfl rfl ?_
        obtain ⟨g10, v11, ev11, h⟩ := ld_ok h
        refine s_iald X dX8_countTastes_75 lC_69 g10 ev11 ?_
        refine r_iconst X dX8_countTastes_76 (v := 1) (by decide) ?_
        refine r_iadd X dX8_countTastes_77 ?_
        obtain ⟨g12, s13, es13, h⟩ := as_ok h
        refine s_iast X dX8_countTastes_78 lC_69 g12 es13 ?_
        refine r_sub (L' := [(0, .ref (ea E 0)), (1, .int a1), (2, .int a2)]) [0, 1, 2] rfl ?_
        exact hj79 _ h
set_option maxHeartbeats 4000000 in
set_option maxRecDepth 100000 in
theorem LX8_countTastes_10 {l : Launch} {E : EE} {p : Program} {e : Env} {ms : State} {m : MethodId} {args : Array Value} {below : List Frame} {meth : Method} {c : Code}  {Q : State → Prop} (X : Cx E layC p ms m args c cX8_countTastes RX8 4) : ∀ (n : Nat) (a1 : Int32) (s0 : St)  (t8 : St), fX8_countTastes_10 n a1 s0 = some t8 → AW E layC p l e (rmD 4) ms m args below meth c 4 0 0 Q 91 [] [] t8 → AW E layC p l e (rmD 4) ms m args below meth c 4 0 0 Q 10 [(0, .ref (ea E 0)), (1, .int a1)] [] s0 := by
  intro n
  induction n with
  | zero =>
    intro a1 s0 t8 h hE
    cases h
  | succ n ih =>
    intro a1 s0 t8 h hE
    rw [fX8_countTastes_10] at h
    refine r_iload_n X dX8_countTastes_10 1 rfl rfl ?_
    refine r_bipush X dX8_countTastes_11 (v := 6) (by decide) ?_
    refine r_icmp_ge X 91 dX8_countTastes_13 (by decide) (fun c17 => ?_) (fun c17 => ?_)
    · rw [if_pos c17] at h
      refine r_sub (L' := []) [] rfl ?_
      cases h
      exact hE
    · rw [if_neg c17] at h
      refine r_iconst X dX8_countTastes_16 (v := 0) (by decide) ?_
      refine r_istore_n (L' := [(0, .ref (ea E 0)), (1, .int a1), (2, .int 0)]) X dX8_countTastes_17 [1, 2, 0] rfl rfl (Nat.le_of_ble_eq_true rfl) ?_
      obtain ⟨s16, eo, h⟩ := bd1_ok h
      refine LX8_countTastes_18 X FU _ _ _ eo ?_
      refine r_iinc (L' := [(0, .ref (ea E 0)), (1, .int (a1 + 1))]) (v := a1 + 1) X dX8_countTastes_85 1 rfl rfl [1, 0] rfl (Nat.le_of_ble_eq_true rfl) ?_
      refine r_goto X 10 dX8_countTastes_88 (by decide) ?_
      exact ih _ _ _ h hE
set_option maxHeartbeats 4000000 in
set_option maxRecDepth 100000 in
theorem ctX8_countTastes {l : Launch} {E : EE}  {s0 : St} {t9 : St}  (h : fX8_countTastes  s0 = some t9) : Ct l E layC yX8_countTastes cX8_countTastes 4 none 4 [.ref (ea E 0)] s0 none t9 := by
  refine Ct.of (by decide) (Nat.le_of_ble_eq_true rfl) ?_
  intro p e ms m below meth c X hlk hr
  have X : Cx E layC p ms m [.ref (ea E 0)].toArray c cX8_countTastes RX8 4 := X
  refine r_sub (L' := [(0, .ref (ea E 0))]) [0] rfl ?_
  unfold fX8_countTastes at h
  refine r_aload_n X dX8_countTastes_0 0 rfl rfl ?_
  refine r_getr X dX8_countTastes_1 i_X8 v_X8 lC_0 9 rfl (Nat.le_of_ble_eq_true rfl) g_302 ?_
  refine r_iconst X dX8_countTastes_4 (v := 0) (by decide) ?_
  obtain ⟨s1, e2, h⟩ := bd1_ok h
  refine kJ7_fill_53178 X (ctJ7_fill_53178 lC_69 e2) dX8_countTastes_5 g_615 (Nat.le_of_ble_eq_true rfl) (Nat.le_of_ble_eq_true rfl) ?_
  refine r_iconst X dX8_countTastes_8 (v := 0) (by decide) ?_
  refine r_istore_n (L' := [(0, .ref (ea E 0)), (1, .int 0)]) X dX8_countTastes_9 [1, 0] rfl rfl (Nat.le_of_ble_eq_true rfl) ?_
  obtain ⟨s18, eo, h⟩ := bd1_ok h
  refine LX8_countTastes_10 X FU _ _ _ eo ?_
  exact s_vret X hlk hr dX8_countTastes_91 h
/-! X8_few -/
theorem nX8_few : yX8_few.cls ≠ "java/lang/invoke/MethodHandle" ∧ yX8_few.cls ≠ "java/lang/invoke/VarHandle" ∧ (parseMethodDescriptor yX8_few.desc).map (fun d => d.parameters.length) = some 1 := by decide +kernel
theorem kX8_few {l : Launch} {E : EE} {p : Program} {e : Env} {ms : State} {m : MethodId} {args : Array Value} {below : List Frame} {meth : Method} {c : Code} {cc : ByteArray} {own : String} {nL pc idx d D : Nat} {Q : State → Prop} {L : List (Nat × Value)} {rest : List Value} {σ τ : St} {a1 : Int32} {r : Int32} {fl : List (Option Nat)} (X : Cx E layC p ms m args c cc own nL) (hM : Ct l E layC yX8_few cX8_few 6 (some .int) d [.ref (ea E 0), .int a1] σ (some (.int r)) τ) (hd : decode cc pc = .ok (.invokevirtual idx, 3)) (hlay : layC[0]? = some (.inl (7, fl))) (w1 : Cond.methodLink own idx yX8_few ∈ gw) (hR : d + 1 ≤ D) (hrs : (rest.map fun v => v.category).sum ≤ 8) (k : AW E layC p l e (rmD D) ms m args below meth c nL 0 0 Q (pc + 3) L (.int r :: rest) τ) : AW E layC p l e (rmD D) ms m args below meth c nL 0 0 Q pc L (.int a1 :: .ref (ea E 0) :: rest) σ :=
  s_callV X [.int a1] rest hM hd v_X8 hlay w1 g_625 g_626 g_67 g_627 nX8_few rfl rfl hrs (Nat.le_of_ble_eq_true rfl) hR k
def fX8_few_37 (a1 : Int32) (a4 : Int32) : Nat → Int32 → Int32 → Int32 → St → Option (Int32 × Int32 × St)
  | 0, _, _, _, _ => none
  | n + 1, a2, a3, a5, s0 =>
    bd1 (ald s0 69 10 a4) fun v7 =>
    if v7 ≤ a5 then
    some (a2, a3, s0)
    else
    if a1 ≤ a3 then
    some (a2, a3, s0)
    else
    fX8_few_37 a1 a4 n (a2 + 1) (a3 + a4) (a5 + 1) s0
def fX8_few_29 (a1 : Int32) : Nat → Int32 → Int32 → Int32 → St → Option (Int32 × Int32 × St)
  | 0, _, _, _, _ => none
  | n + 1, a2, a3, a4, s0 =>
    if a4 ≤ 0 then
    some (a2, a3, s0)
    else
    bd3 (fX8_few_37 a1 a4 FU a2 a3 0 s0) fun v11 v12 s10 =>
    fX8_few_29 a1 n v11 v12 (a4 + (-1)) s10
def fX8_few (a1 : Int32) (s0 : St) : Option (Int32 × St) :=
    bd2 (fX8_within a1 0 999 s0) fun u3 s1 =>
    if u3 = 0 then
    bd2 (fX8_error 1 s1) fun u23 s21 =>
    some (u23, s21)
    else
    bd1 (fX8_countTastes  s1) fun s4 =>
    bd3 (fX8_few_29 a1 FU 0 0 9 s4) fun v15 v16 s14 =>
    if v16 < a1 then
    bd2 (fX8_error 2 s14) fun u19 s17 =>
    some (u19, s17)
    else
    some (v15, s14)
set_option maxHeartbeats 4000000 in
set_option maxRecDepth 100000 in
theorem LX8_few_37 {l : Launch} {E : EE} {p : Program} {e : Env} {ms : State} {m : MethodId} {args : Array Value} {below : List Frame} {meth : Method} {c : Code} {a1 : Int32} {a4 : Int32} {Q : State → Prop} (X : Cx E layC p ms m args c cX8_few RX8 6) : ∀ (n : Nat) (a2 : Int32) (a3 : Int32) (a5 : Int32) (s0 : St) (q2 : Int32) (q3 : Int32) (t8 : St), fX8_few_37 a1 a4 n a2 a3 a5 s0 = some (q2, q3, t8) → AW E layC p l e (rmD 5) ms m args below meth c 6 0 0 Q 68 [(0, .ref (ea E 0)), (1, .int a1), (2, .int q2), (3, .int q3), (4, .int a4)] [] t8 → AW E layC p l e (rmD 5) ms m args below meth c 6 0 0 Q 37 [(0, .ref (ea E 0)), (1, .int a1), (2, .int a2), (3, .int a3), (4, .int a4), (5, .int a5)] [] s0 := by
  intro n
  induction n with
  | zero =>
    intro a2 a3 a5 s0 q2 q3 t8 h hE
    cases h
  | succ n ih =>
    intro a2 a3 a5 s0 q2 q3 t8 h hE
    rw [fX8_few_37] at h
    refine r_iload X dX8_few_37 5 rfl ?_
    refine r_aload_n X dX8_few_39 0 rfl rfl ?_
    refine r_getr X dX8_few_40 i_X8 v_X8 lC_0 9 rfl (Nat.le_of_ble_eq_true rfl) g_302 ?_
    refine r_iload X dX8_few_43 4 rfl ?_
    obtain ⟨g6, v7, ev7, h⟩ := ld_ok h
    refine s_iald X dX8_few_45 lC_69 g6 ev7 ?_
    refine r_icmp_ge X 68 dX8_few_46 (by decide) (fun c9 => ?_) (fun c9 => ?_)
    · rw [if_pos c9] at h
      refine r_sub (L' := [(0, .ref (ea E 0)), (1, .int a1), (2, .int a2), (3, .int a3), (4, .int a4)]) [0, 1, 2, 3, 4] rfl ?_
      cases h
      exact hE
    · rw [if_neg c9] at h
      refine r_iload_n X dX8_few_49 3 rfl rfl ?_
      refine r_iload_n X dX8_few_50 1 rfl rfl ?_
      refine r_icmp_ge X 68 dX8_few_51 (by decide) (fun c8 => ?_) (fun c8 => ?_)
      · rw [if_pos c8] at h
        refine r_sub (L' := [(0, .ref (ea E 0)), (1, .int a1), (2, .int a2), (3, .int a3), (4, .int a4)]) [0, 1, 2, 3, 4] rfl ?_
        cases h
        exact hE
      · rw [if_neg c8] at h
        refine r_iload_n X dX8_few_54 3 rfl rfl ?_
        refine r_iload X dX8_few_55 4 rfl ?_
        refine r_iadd X dX8_few_57 ?_
        refine r_istore_n (L' := [(0, .ref (ea E 0)), (1, .int a1), (2, .int a2), (3, .int (a3 + a4)), (4, .int a4), (5, .int a5)]) X dX8_few_58 [1, 2, 3, 0, 4, 5] rfl rfl (Nat.le_of_ble_eq_true rfl) ?_
        refine r_iinc (L' := [(0, .ref (ea E 0)), (1, .int a1), (2, .int (a2 + 1)), (3, .int (a3 + a4)), (4, .int a4), (5, .int a5)]) (v := a2 + 1) X dX8_few_59 2 rfl rfl [1, 2, 0, 3, 4, 5] rfl (Nat.le_of_ble_eq_true rfl) ?_
        refine r_iinc (L' := [(0, .ref (ea E 0)), (1, .int a1), (2, .int (a2 + 1)), (3, .int (a3 + a4)), (4, .int a4), (5, .int (a5 + 1))]) (v := a5 + 1) X dX8_few_62 5 rfl rfl [1, 2, 3, 4, 5, 0] rfl (Nat.le_of_ble_eq_true rfl) ?_
        refine r_goto X 37 dX8_few_65 (by decide) ?_
        exact ih _ _ _ _ _ _ _ h hE
set_option maxHeartbeats 4000000 in
set_option maxRecDepth 100000 in
theorem LX8_few_29 {l : Launch} {E : EE} {p : Program} {e : Env} {ms : State} {m : MethodId} {args : Array Value} {below : List Frame} {meth : Method} {c : Code} {a1 : Int32} {Q : State → Prop} (X : Cx E layC p ms m args c cX8_few RX8 6) : ∀ (n : Nat) (a2 : Int32) (a3 : Int32) (a4 : Int32) (s0 : St) (q2 : Int32) (q3 : Int32) (t8 : St), fX8_few_29 a1 n a2 a3 a4 s0 = some (q2, q3, t8) → AW E layC p l e (rmD 5) ms m args below meth c 6 0 0 Q 74 [(0, .ref (ea E 0)), (1, .int a1), (2, .int q2), (3, .int q3)] [] t8 → AW E layC p l e (rmD 5) ms m args below meth c 6 0 0 Q 29 [(0, .ref (ea E 0)), (1, .int a1), (2, .int a2), (3, .int a3), (4, .int a4)] [] s0 := by
  intro n
  induction n with
  | zero =>
    intro a2 a3 a4 s0 q2 q3 t8 h hE
    cases h
  | succ n ih =>
    intro a2 a3 a4 s0 q2 q3 t8 h hE
    rw [fX8_few_29] at h
    refine r_iload X dX8_few_29 4 rfl ?_
    refine r_if_le X 74 dX8_few_31 (by decide) (fun c13 => ?_) (fun c13 => ?_)
    · rw [if_pos c13] at h
      refine r_sub (L' := [(0, .ref (ea E 0)), (1, .int a1), (2, .int a2), (3, .int a3)]) [0, 1, 2, 3] rfl ?_
      cases h
      exact hE
    · rw [if_neg c13] at h
      refine r_iconst X dX8_few_34 (v := 0) (by decide) ?_
      refine r_istore (L' := [(0, .ref (ea E 0)), (1, .int a1), (2, .int a2), (3, .int a3), (4, .int a4), (5, .int 0)]) X dX8_few_35 [1, 2, 3, 4, 5, 0] rfl (Nat.le_of_ble_eq_true rfl) ?_
      obtain ⟨v11, v12, s10, eo, h⟩ := bd3_ok h
      refine LX8_few_37 X FU _ _ _ _ _ _ _ eo ?_
      refine r_iinc (L' := [(0, .ref (ea E 0)), (1, .int a1), (2, .int v11), (3, .int v12), (4, .int (a4 + (-1)))]) (v := a4 + (-1)) X dX8_few_68 4 rfl rfl [1, 2, 3, 4, 0] rfl (Nat.le_of_ble_eq_true rfl) ?_
      refine r_goto X 29 dX8_few_71 (by decide) ?_
      exact ih _ _ _ _ _ _ _ h hE
set_option maxHeartbeats 4000000 in
set_option maxRecDepth 100000 in
theorem ctX8_few {l : Launch} {E : EE} {a1 : Int32} {s0 : St} {r9 : Int32} {t9 : St}  (h : fX8_few a1 s0 = some (r9, t9)) : Ct l E layC yX8_few cX8_few 6 (some .int) 5 [.ref (ea E 0), .int a1] s0 (some (.int r9)) t9 := by
  refine Ct.of (by decide) (Nat.le_of_ble_eq_true rfl) ?_
  intro p e ms m below meth c X hlk hr
  have X : Cx E layC p ms m [.ref (ea E 0), .int a1].toArray c cX8_few RX8 6 := X
  refine r_sub (L' := [(0, .ref (ea E 0)), (1, .int a1)]) [0, 1] rfl ?_
  unfold fX8_few at h
  refine r_iload_n X dX8_few_0 1 rfl rfl ?_
  refine r_iconst X dX8_few_1 (v := 0) (by decide) ?_
  refine r_sipush X dX8_few_2 (v := 999) (by decide) ?_
  obtain ⟨u3, s1, e2, h⟩ := bd2_ok h
  refine kX8_within X (ctX8_within e2) dX8_few_5 g_334 (Nat.le_of_ble_eq_true rfl) (Nat.le_of_ble_eq_true rfl) ?_
  refine r_if_ne X 17 dX8_few_8 (by decide) (fun c24 => ?_) (fun c24 => ?_)
  · rw [if_neg c24] at h
    refine r_aload_n X dX8_few_17 0 rfl rfl ?_
    obtain ⟨s4, e5, h⟩ := bd1_ok h
    refine kX8_countTastes X (ctX8_countTastes e5) dX8_few_18 lC_0 g_628 (Nat.le_of_ble_eq_true rfl) (Nat.le_of_ble_eq_true rfl) ?_
    refine r_iconst X dX8_few_21 (v := 0) (by decide) ?_
    refine r_istore_n (L' := [(0, .ref (ea E 0)), (1, .int a1), (2, .int 0)]) X dX8_few_22 [1, 2, 0] rfl rfl (Nat.le_of_ble_eq_true rfl) ?_
    refine r_iconst X dX8_few_23 (v := 0) (by decide) ?_
    refine r_istore_n (L' := [(0, .ref (ea E 0)), (1, .int a1), (2, .int 0), (3, .int 0)]) X dX8_few_24 [1, 2, 3, 0] rfl rfl (Nat.le_of_ble_eq_true rfl) ?_
    refine r_bipush X dX8_few_25 (v := 9) (by decide) ?_
    refine r_istore (L' := [(0, .ref (ea E 0)), (1, .int a1), (2, .int 0), (3, .int 0), (4, .int 9)]) X dX8_few_27 [1, 2, 3, 4, 0] rfl (Nat.le_of_ble_eq_true rfl) ?_
    obtain ⟨v15, v16, s14, eo, h⟩ := bd3_ok h
    refine LX8_few_29 X FU _ _ _ _ _ _ _ eo ?_
    refine r_iload_n X dX8_few_74 3 rfl rfl ?_
    refine r_iload_n X dX8_few_75 1 rfl rfl ?_
    refine r_icmp_lt X 83 dX8_few_76 (by decide) (fun c20 => ?_) (fun c20 => ?_)
    · rw [if_pos c20] at h
      refine r_aload_n X dX8_few_83 0 rfl rfl ?_
      refine r_iconst X dX8_few_84 (v := 2) (by decide) ?_
      obtain ⟨u19, s17, e18, h⟩ := bd2_ok h
      refine kX8_error X (ctX8_error e18) dX8_few_85 lC_0 g_337 (Nat.le_of_ble_eq_true rfl) (Nat.le_of_ble_eq_true rfl) ?_
      exact s_iret X hlk hr dX8_few_88 h
    · rw [if_neg c20] at h
      refine r_iload_n X dX8_few_79 2 rfl rfl ?_
      refine r_goto X 88 dX8_few_80 (by decide) ?_
      exact s_iret X hlk hr dX8_few_88 h
  · rw [if_pos c24] at h
    refine r_aload_n X dX8_few_11 0 rfl rfl ?_
    refine r_iconst X dX8_few_12 (v := 1) (by decide) ?_
    obtain ⟨u23, s21, e22, h⟩ := bd2_ok h
    refine kX8_error X (ctX8_error e22) dX8_few_13 lC_0 g_337 (Nat.le_of_ble_eq_true rfl) (Nat.le_of_ble_eq_true rfl) ?_
    exact s_iret X hlk hr dX8_few_16 h
/-! X8_broken -/
theorem nX8_broken : yX8_broken.cls ≠ "java/lang/invoke/MethodHandle" ∧ yX8_broken.cls ≠ "java/lang/invoke/VarHandle" ∧ (parseMethodDescriptor yX8_broken.desc).map (fun d => d.parameters.length) = some 1 := by decide +kernel
theorem kX8_broken {l : Launch} {E : EE} {p : Program} {e : Env} {ms : State} {m : MethodId} {args : Array Value} {below : List Frame} {meth : Method} {c : Code} {cc : ByteArray} {own : String} {nL pc idx d D : Nat} {Q : State → Prop} {L : List (Nat × Value)} {rest : List Value} {σ τ : St} {a1 : Int32} {r : Int32} {fl : List (Option Nat)} (X : Cx E layC p ms m args c cc own nL) (hM : Ct l E layC yX8_broken cX8_broken 4 (some .int) d [.ref (ea E 0), .int a1] σ (some (.int r)) τ) (hd : decode cc pc = .ok (.invokevirtual idx, 3)) (hlay : layC[0]? = some (.inl (7, fl))) (w1 : Cond.methodLink own idx yX8_broken ∈ gw) (hR : d + 1 ≤ D) (hrs : (rest.map fun v => v.category).sum ≤ 8) (k : AW E layC p l e (rmD D) ms m args below meth c nL 0 0 Q (pc + 3) L (.int r :: rest) τ) : AW E layC p l e (rmD D) ms m args below meth c nL 0 0 Q pc L (.int a1 :: .ref (ea E 0) :: rest) σ :=
  s_callV X [.int a1] rest hM hd v_X8 hlay w1 g_633 g_634 g_67 g_635 nX8_broken rfl rfl hrs (Nat.le_of_ble_eq_true rfl) hR k
def fX8_broken_33  : Nat → Int32 → Int32 → St → Option (Int32 × St)
  | 0, _, _, _ => none
  | n + 1, a2, a3, s0 =>
    if (s0 39 12) ≤ a3 then
    some (a2, s0)
    else
    bd1 (ald s0 45 8 a3) fun v9 =>
    jn (fun (w10 : Int32) =>
    fX8_broken_33 n w10 (a3 + 1) s0) fun j64 =>
    if v9 = 9 then
    j64 (a2 ||| (shl 1 a3))
    else
    j64 a2
def fX8_broken (a1 : Int32) (s0 : St) : Option (Int32 × St) :=
    bd2 (fX8_isAhead a1 s0) fun u3 s1 =>
    if u3 = 0 then
    bd2 (fX8_error 1 s1) fun u17 s15 =>
    some (u17, s15)
    else
    bd1 (fX8_thinkAnew  s1) fun s4 =>
    bd1 (fX0_spend 39 a1 s4) fun s6 =>
    bd2 (fX8_broken_33 FU 0 0 s6) fun v14 s13 =>
    some (v14, s13)
set_option maxHeartbeats 4000000 in
set_option maxRecDepth 100000 in
theorem LX8_broken_33 {l : Launch} {E : EE} {p : Program} {e : Env} {ms : State} {m : MethodId} {args : Array Value} {below : List Frame} {meth : Method} {c : Code}  {Q : State → Prop} (X : Cx E layC p ms m args c cX8_broken RX8 4) : ∀ (n : Nat) (a2 : Int32) (a3 : Int32) (s0 : St) (q2 : Int32) (t8 : St), fX8_broken_33 n a2 a3 s0 = some (q2, t8) → AW E layC p l e (rmD 6) ms m args below meth c 4 0 0 Q 70 [(2, .int q2)] [] t8 → AW E layC p l e (rmD 6) ms m args below meth c 4 0 0 Q 33 [(0, .ref (ea E 0)), (2, .int a2), (3, .int a3)] [] s0 := by
  intro n
  induction n with
  | zero =>
    intro a2 a3 s0 q2 t8 h hE
    cases h
  | succ n ih =>
    intro a2 a3 s0 q2 t8 h hE
    rw [fX8_broken_33] at h
    refine r_iload_n X dX8_broken_33 2 rfl rfl ?_
    refine r_aload_n X dX8_broken_34 0 rfl rfl ?_
    refine r_getr X dX8_broken_35 i_X8 v_X8 lC_0 2 rfl (Nat.le_of_ble_eq_true rfl) g_295 ?_
    refine r_geti X dX8_broken_38 i_X0 v_X0 lC_39 12 rfl (Nat.le_of_ble_eq_true rfl) g_124 ?_
    refine r_icmp_ge X 70 dX8_broken_41 (by decide) (fun c12 => ?_) (fun c12 => ?_)
    · rw [if_pos c12] at h
      refine r_sub (L' := [(2, .int a2)]) [1] rfl ?_
      cases h
      exact hE
    · rw [if_neg c12] at h
      refine r_aload_n X dX8_broken_44 0 rfl rfl ?_
      refine r_getr X dX8_broken_45 i_X8 v_X8 lC_0 2 rfl (Nat.le_of_ble_eq_true rfl) g_295 ?_
      refine r_getr X dX8_broken_48 i_X0 v_X0 lC_39 5 rfl (Nat.le_of_ble_eq_true rfl) g_111 ?_
      refine r_iload_n X dX8_broken_51 2 rfl rfl ?_
      obtain ⟨g8, v9, ev9, h⟩ := ld_ok h
      refine s_iald X dX8_broken_52 lC_45 g8 ev9 ?_
      refine r_bipush X dX8_broken_53 (v := 9) (by decide) ?_
      obtain ⟨j64, ej64, h⟩ := jn1_ok h
      have hj64 : ∀ (w10 : Int32), j64 w10 = some (q2, t8) → AW E layC p l e (rmD 6) ms m args below meth c 4 0 0 Q 64 [(0, .ref (ea E 0)), (2, .int w10), (3, .int a3)] [] s0 := by
        intro w10 h
        rw [ej64] at h
        refine r_iinc (L' := [(0, .ref (ea E 0)), (2, .int w10), (3, .int (a3 + 1))]) (v := a3 + 1) X dX8_broken_64 2 rfl rfl [1, 2, 0] rfl (Nat.le_of_ble_eq_true rfl) ?_
        refine r_goto X 33 dX8_broken_67 (by decide) ?_
        exact ih _ _ _ _ _ h hE
      refine r_icmp_ne X 64 dX8_broken_55 (by decide) (fun c11 => ?_) (fun c11 => ?_)
      · rw [if_neg c11] at h
        exact hj64 _ h
      · rw [if_pos c11] at h
        refine r_iload_n X dX8_broken_58 1 rfl rfl ?_
        refine r_iconst X dX8_broken_59 (v := 1) (by decide) ?_
        refine r_iload_n X dX8_broken_60 2 rfl rfl ?_
        refine s_ishl X dX8_broken_61 ?_
        refine r_ior X dX8_broken_62 ?_
        refine r_istore_n (L' := [(0, .ref (ea E 0)), (2, .int (a2 ||| (shl 1 a3))), (3, .int a3)]) X dX8_broken_63 [1, 0, 2] rfl rfl (Nat.le_of_ble_eq_true rfl) ?_
        exact hj64 _ h
set_option maxHeartbeats 4000000 in
set_option maxRecDepth 100000 in
theorem ctX8_broken {l : Launch} {E : EE} {a1 : Int32} {s0 : St} {r9 : Int32} {t9 : St}  (h : fX8_broken a1 s0 = some (r9, t9)) : Ct l E layC yX8_broken cX8_broken 4 (some .int) 6 [.ref (ea E 0), .int a1] s0 (some (.int r9)) t9 := by
  refine Ct.of (by decide) (Nat.le_of_ble_eq_true rfl) ?_
  intro p e ms m below meth c X hlk hr
  have X : Cx E layC p ms m [.ref (ea E 0), .int a1].toArray c cX8_broken RX8 4 := X
  refine r_sub (L' := [(0, .ref (ea E 0)), (1, .int a1)]) [0, 1] rfl ?_
  unfold fX8_broken at h
  refine r_iload_n X dX8_broken_0 1 rfl rfl ?_
  obtain ⟨u3, s1, e2, h⟩ := bd2_ok h
  refine kX8_isAhead X (ctX8_isAhead e2) dX8_broken_1 g_556 (Nat.le_of_ble_eq_true rfl) (Nat.le_of_ble_eq_true rfl) ?_
  refine r_if_ne X 13 dX8_broken_4 (by decide) (fun c18 => ?_) (fun c18 => ?_)
  · rw [if_neg c18] at h
    refine r_aload_n X dX8_broken_13 0 rfl rfl ?_
    obtain ⟨s4, e5, h⟩ := bd1_ok h
    refine kX8_thinkAnew X (ctX8_thinkAnew e5) dX8_broken_14 lC_0 g_559 (Nat.le_of_ble_eq_true rfl) (Nat.le_of_ble_eq_true rfl) ?_
    refine r_aload_n X dX8_broken_17 0 rfl rfl ?_
    refine r_getr X dX8_broken_18 i_X8 v_X8 lC_0 2 rfl (Nat.le_of_ble_eq_true rfl) g_295 ?_
    refine r_aload_n X dX8_broken_21 0 rfl rfl ?_
    refine r_getr X dX8_broken_22 i_X8 v_X8 lC_0 3 rfl (Nat.le_of_ble_eq_true rfl) g_296 ?_
    refine r_iload_n X dX8_broken_25 1 rfl rfl ?_
    obtain ⟨s6, e7, h⟩ := bd1_ok h
    refine kX0_spend X (ctX0_spend hH_39 e7) dX8_broken_26 lC_39 g_522 (Nat.le_of_ble_eq_true rfl) (Nat.le_of_ble_eq_true rfl) ?_
    refine r_iconst X dX8_broken_29 (v := 0) (by decide) ?_
    refine r_istore_n (L' := [(0, .ref (ea E 0)), (2, .int 0)]) X dX8_broken_30 [1, 0] rfl rfl (Nat.le_of_ble_eq_true rfl) ?_
    refine r_iconst X dX8_broken_31 (v := 0) (by decide) ?_
    refine r_istore_n (L' := [(0, .ref (ea E 0)), (2, .int 0), (3, .int 0)]) X dX8_broken_32 [1, 2, 0] rfl rfl (Nat.le_of_ble_eq_true rfl) ?_
    obtain ⟨v14, s13, eo, h⟩ := bd2_ok h
    refine LX8_broken_33 X FU _ _ _ _ _ eo ?_
    refine r_iload_n X dX8_broken_70 0 rfl rfl ?_
    exact s_iret X hlk hr dX8_broken_71 h
  · rw [if_pos c18] at h
    refine r_aload_n X dX8_broken_7 0 rfl rfl ?_
    refine r_iconst X dX8_broken_8 (v := 1) (by decide) ?_
    obtain ⟨u17, s15, e16, h⟩ := bd2_ok h
    refine kX8_error X (ctX8_error e16) dX8_broken_9 lC_0 g_337 (Nat.le_of_ble_eq_true rfl) (Nat.le_of_ble_eq_true rfl) ?_
    exact s_iret X hlk hr dX8_broken_12 h
/-! X8_swill -/
theorem nX8_swill : yX8_swill.cls ≠ "java/lang/invoke/MethodHandle" ∧ yX8_swill.cls ≠ "java/lang/invoke/VarHandle" ∧ (parseMethodDescriptor yX8_swill.desc).map (fun d => d.parameters.length) = some 1 := by decide +kernel
theorem kX8_swill {l : Launch} {E : EE} {p : Program} {e : Env} {ms : State} {m : MethodId} {args : Array Value} {below : List Frame} {meth : Method} {c : Code} {cc : ByteArray} {own : String} {nL pc idx d D : Nat} {Q : State → Prop} {L : List (Nat × Value)} {rest : List Value} {σ τ : St} {a1 : Int32} {r : Int32} {fl : List (Option Nat)} (X : Cx E layC p ms m args c cc own nL) (hM : Ct l E layC yX8_swill cX8_swill 2 (some .int) d [.ref (ea E 0), .int a1] σ (some (.int r)) τ) (hd : decode cc pc = .ok (.invokevirtual idx, 3)) (hlay : layC[0]? = some (.inl (7, fl))) (w1 : Cond.methodLink own idx yX8_swill ∈ gw) (hR : d + 1 ≤ D) (hrs : (rest.map fun v => v.category).sum ≤ 8) (k : AW E layC p l e (rmD D) ms m args below meth c nL 0 0 Q (pc + 3) L (.int r :: rest) τ) : AW E layC p l e (rmD D) ms m args below meth c nL 0 0 Q pc L (.int a1 :: .ref (ea E 0) :: rest) σ :=
  s_callV X [.int a1] rest hM hd v_X8 hlay w1 g_637 g_638 g_67 g_639 nX8_swill rfl rfl hrs (Nat.le_of_ble_eq_true rfl) hR k
def fX8_swill (a1 : Int32) (s0 : St) : Option (Int32 × St) :=
    bd2 (fX8_isAhead a1 s0) fun u3 s1 =>
    if u3 = 0 then
    bd2 (fX8_error 1 s1) fun u10 s8 =>
    some (u10, s8)
    else
    bd1 (fX8_thinkAnew  s1) fun s4 =>
    bd1 (fX0_spend 39 a1 s4) fun s6 =>
    some ((s6 39 10) - (s6 2 10), s6)
set_option maxHeartbeats 4000000 in
set_option maxRecDepth 100000 in
theorem ctX8_swill {l : Launch} {E : EE} {a1 : Int32} {s0 : St} {r9 : Int32} {t9 : St}  (h : fX8_swill a1 s0 = some (r9, t9)) : Ct l E layC yX8_swill cX8_swill 2 (some .int) 6 [.ref (ea E 0), .int a1] s0 (some (.int r9)) t9 := by
  refine Ct.of (by decide) (Nat.le_of_ble_eq_true rfl) ?_
  intro p e ms m below meth c X hlk hr
  have X : Cx E layC p ms m [.ref (ea E 0), .int a1].toArray c cX8_swill RX8 2 := X
  refine r_sub (L' := [(0, .ref (ea E 0)), (1, .int a1)]) [0, 1] rfl ?_
  unfold fX8_swill at h
  refine r_iload_n X dX8_swill_0 1 rfl rfl ?_
  obtain ⟨u3, s1, e2, h⟩ := bd2_ok h
  refine kX8_isAhead X (ctX8_isAhead e2) dX8_swill_1 g_556 (Nat.le_of_ble_eq_true rfl) (Nat.le_of_ble_eq_true rfl) ?_
  refine r_if_ne X 13 dX8_swill_4 (by decide) (fun c11 => ?_) (fun c11 => ?_)
  · rw [if_neg c11] at h
    refine r_aload_n X dX8_swill_13 0 rfl rfl ?_
    obtain ⟨s4, e5, h⟩ := bd1_ok h
    refine kX8_thinkAnew X (ctX8_thinkAnew e5) dX8_swill_14 lC_0 g_559 (Nat.le_of_ble_eq_true rfl) (Nat.le_of_ble_eq_true rfl) ?_
    refine r_aload_n X dX8_swill_17 0 rfl rfl ?_
    refine r_getr X dX8_swill_18 i_X8 v_X8 lC_0 2 rfl (Nat.le_of_ble_eq_true rfl) g_295 ?_
    refine r_aload_n X dX8_swill_21 0 rfl rfl ?_
    refine r_getr X dX8_swill_22 i_X8 v_X8 lC_0 3 rfl (Nat.le_of_ble_eq_true rfl) g_296 ?_
    refine r_iload_n X dX8_swill_25 1 rfl rfl ?_
    obtain ⟨s6, e7, h⟩ := bd1_ok h
    refine kX0_spend X (ctX0_spend hH_39 e7) dX8_swill_26 lC_39 g_522 (Nat.le_of_ble_eq_true rfl) (Nat.le_of_ble_eq_true rfl) ?_
    refine r_aload_n X dX8_swill_29 0 rfl rfl ?_
    refine r_getr X dX8_swill_30 i_X8 v_X8 lC_0 2 rfl (Nat.le_of_ble_eq_true rfl) g_295 ?_
    refine r_geti X dX8_swill_33 i_X0 v_X0 lC_39 10 rfl (Nat.le_of_ble_eq_true rfl) g_120 ?_
    refine r_aload_n X dX8_swill_36 0 rfl rfl ?_
    refine r_getr X dX8_swill_37 i_X8 v_X8 lC_0 0 rfl (Nat.le_of_ble_eq_true rfl) g_293 ?_
    refine r_getr X dX8_swill_40 i_X7 v_X7 lC_1 0 rfl (Nat.le_of_ble_eq_true rfl) g_177 ?_
    refine r_geti X dX8_swill_43 i_X0 v_X0 lC_2 10 rfl (Nat.le_of_ble_eq_true rfl) g_120 ?_
    refine r_isub X dX8_swill_46 ?_
    exact s_iret X hlk hr dX8_swill_47 h
  · rw [if_pos c11] at h
    refine r_aload_n X dX8_swill_7 0 rfl rfl ?_
    refine r_iconst X dX8_swill_8 (v := 1) (by decide) ?_
    obtain ⟨u10, s8, e9, h⟩ := bd2_ok h
    refine kX8_error X (ctX8_error e9) dX8_swill_9 lC_0 g_337 (Nat.le_of_ble_eq_true rfl) (Nat.le_of_ble_eq_true rfl) ?_
    exact s_iret X hlk hr dX8_swill_12 h
/-! X8_cheer -/
theorem nX8_cheer : yX8_cheer.cls ≠ "java/lang/invoke/MethodHandle" ∧ yX8_cheer.cls ≠ "java/lang/invoke/VarHandle" ∧ (parseMethodDescriptor yX8_cheer.desc).map (fun d => d.parameters.length) = some 2 := by decide +kernel
theorem kX8_cheer {l : Launch} {E : EE} {p : Program} {e : Env} {ms : State} {m : MethodId} {args : Array Value} {below : List Frame} {meth : Method} {c : Code} {cc : ByteArray} {own : String} {nL pc idx d D : Nat} {Q : State → Prop} {L : List (Nat × Value)} {rest : List Value} {σ τ : St} {a1 : Int32} {a2 : Int32} {r : Int32} {fl : List (Option Nat)} (X : Cx E layC p ms m args c cc own nL) (hM : Ct l E layC yX8_cheer cX8_cheer 4 (some .int) d [.ref (ea E 0), .int a1, .int a2] σ (some (.int r)) τ) (hd : decode cc pc = .ok (.invokevirtual idx, 3)) (hlay : layC[0]? = some (.inl (7, fl))) (w1 : Cond.methodLink own idx yX8_cheer ∈ gw) (hR : d + 1 ≤ D) (hrs : (rest.map fun v => v.category).sum ≤ 8) (k : AW E layC p l e (rmD D) ms m args below meth c nL 0 0 Q (pc + 3) L (.int r :: rest) τ) : AW E layC p l e (rmD D) ms m args below meth c nL 0 0 Q pc L (.int a2 :: .int a1 :: .ref (ea E 0) :: rest) σ :=
  s_callV X [.int a1, .int a2] rest hM hd v_X8 hlay w1 g_641 g_642 g_67 g_643 nX8_cheer rfl rfl hrs (Nat.le_of_ble_eq_true rfl) hR k
def fX8_cheer_31 (a1 : Int32) (a2 : Int32) : Nat → Int32 → St → Option ((Int32 × St) ⊕ (St))
  | 0, _, _ => none
  | n + 1, a3, s0 =>
    if a3 < 0 then
    some (.inr s0)
    else
    bd1 (ast s0 45 8 a1 a3) fun s14 =>
    bd2 (fX0_leftOfAll 39 a1 s14) fun u17 s15 =>
    if a2 < u17 then
    fX8_cheer_31 a1 a2 n (a3 + (-1)) s15
    else
    some (.inl (a3, s15))
def fX8_cheer (a1 : Int32) (a2 : Int32) (s0 : St) : Option (Int32 × St) :=
    bd2 (fX8_isDiner a1 s0) fun u3 s1 =>
    jn (fun (s4 : St) =>
    bd2 (fX8_error 1 s4) fun u7 s5 =>
    some (u7, s5)) fun j18 =>
    if u3 = 0 then
    j18 s1
    else
    bd2 (fX8_within a2 0 24 s1) fun u10 s8 =>
    if u10 = 0 then
    j18 s8
    else
    bd1 (fX8_thinkAnew  s8) fun s11 =>
    bS1 (fX8_cheer_31 a1 a2 FU 9 s11) (fun u24 => some u24) fun s20 =>
    bd2 (fX8_error 2 s20) fun u23 s21 =>
    some (u23, s21)
set_option maxHeartbeats 4000000 in
set_option maxRecDepth 100000 in
theorem LX8_cheer_31 {l : Launch} {E : EE} {p : Program} {e : Env} {ms : State} {m : MethodId} {args : Array Value} {below : List Frame} {meth : Method} {c : Code} {a1 : Int32} {a2 : Int32} {r9 : Int32} {t9 : St} (X : Cx E layC p ms m args c cX8_cheer RX8 4) (hlk : meth.locks = false) (hr : meth.sig.returnType = (some .int)) : ∀ (n : Nat) (a3 : Int32) (s0 : St) (o : (Int32 × St) ⊕ (St)), fX8_cheer_31 a1 a2 n a3 s0 = some o → (∀ r, o = .inl r → r = (r9, t9)) → (∀  (t8 : St), o = .inr t8 → AW E layC p l e (rmD 5) ms m args below meth c 4 0 0 (MQc E layC below args ms (some (.int r9)) t9) 69 [(0, .ref (ea E 0))] [] t8) → AW E layC p l e (rmD 5) ms m args below meth c 4 0 0 (MQc E layC below args ms (some (.int r9)) t9) 31 [(0, .ref (ea E 0)), (1, .int a1), (2, .int a2), (3, .int a3)] [] s0 := by
  intro n
  induction n with
  | zero =>
    intro a3 s0 o h hR hE
    cases h
  | succ n ih =>
    intro a3 s0 o h hR hE
    rw [fX8_cheer_31] at h
    refine r_iload_n X dX8_cheer_31 3 rfl rfl ?_
    refine r_if_lt X 69 dX8_cheer_32 (by decide) (fun c19 => ?_) (fun c19 => ?_)
    · rw [if_pos c19] at h
      refine r_sub (L' := [(0, .ref (ea E 0))]) [0] rfl ?_
      cases h
      exact hE _ rfl
    · rw [if_neg c19] at h
      refine r_aload_n X dX8_cheer_35 0 rfl rfl ?_
      refine r_getr X dX8_cheer_36 i_X8 v_X8 lC_0 2 rfl (Nat.le_of_ble_eq_true rfl) g_295 ?_
      refine r_getr X dX8_cheer_39 i_X0 v_X0 lC_39 5 rfl (Nat.le_of_ble_eq_true rfl) g_111 ?_
      refine r_iload_n X dX8_cheer_42 1 rfl rfl ?_
      refine r_iload_n X dX8_cheer_43 3 rfl rfl ?_
      obtain ⟨g13, s14, es14, h⟩ := as_ok h
      refine s_iast X dX8_cheer_44 lC_45 g13 es14 ?_
      refine r_aload_n X dX8_cheer_45 0 rfl rfl ?_
      refine r_getr X dX8_cheer_46 i_X8 v_X8 lC_0 2 rfl (Nat.le_of_ble_eq_true rfl) g_295 ?_
      refine r_aload_n X dX8_cheer_49 0 rfl rfl ?_
      refine r_getr X dX8_cheer_50 i_X8 v_X8 lC_0 3 rfl (Nat.le_of_ble_eq_true rfl) g_296 ?_
      refine r_iload_n X dX8_cheer_53 1 rfl rfl ?_
      obtain ⟨u17, s15, e16, h⟩ := bd2_ok h
      refine kX0_leftOfAll X (ctX0_leftOfAll hH_39 e16) dX8_cheer_54 lC_39 g_644 (Nat.le_of_ble_eq_true rfl) (Nat.le_of_ble_eq_true rfl) ?_
      refine r_iload_n X dX8_cheer_57 2 rfl rfl ?_
      refine r_icmp_gt X 63 dX8_cheer_58 (by decide) (fun c18 => ?_) (fun c18 => ?_)
      · rw [if_pos c18] at h
        refine r_iinc (L' := [(0, .ref (ea E 0)), (1, .int a1), (2, .int a2), (3, .int (a3 + (-1)))]) (v := a3 + (-1)) X dX8_cheer_63 3 rfl rfl [1, 2, 3, 0] rfl (Nat.le_of_ble_eq_true rfl) ?_
        refine r_goto X 31 dX8_cheer_66 (by decide) ?_
        exact ih _ _ _ h hR hE
      · rw [if_neg c18] at h
        refine r_iload_n X dX8_cheer_61 3 rfl rfl ?_
        exact s_iret X hlk hr dX8_cheer_62 (inl_ok h hR)
set_option maxHeartbeats 4000000 in
set_option maxRecDepth 100000 in
theorem LX8_cheer_31_x {l : Launch} {E : EE} {p : Program} {e : Env} {ms : State} {m : MethodId} {args : Array Value} {below : List Frame} {meth : Method} {c : Code} {a1 : Int32} {a2 : Int32} {r9 : Int32} {t9 : St} (X : Cx E layC p ms m args c cX8_cheer RX8 4) (hlk : meth.locks = false) (hr : meth.sig.returnType = (some .int)) (n : Nat) (a3 : Int32) (s0 : St)  (t8 : St) (h : fX8_cheer_31 a1 a2 n a3 s0 = some (.inr t8)) (hE : AW E layC p l e (rmD 5) ms m args below meth c 4 0 0 (MQc E layC below args ms (some (.int r9)) t9) 69 [(0, .ref (ea E 0))] [] t8) : AW E layC p l e (rmD 5) ms m args below meth c 4 0 0 (MQc E layC below args ms (some (.int r9)) t9) 31 [(0, .ref (ea E 0)), (1, .int a1), (2, .int a2), (3, .int a3)] [] s0 :=
  LX8_cheer_31 X hlk hr n a3 s0 _ h (fun r he => by cases he) (fun _ he => by cases he; exact hE)
set_option maxHeartbeats 4000000 in
set_option maxRecDepth 100000 in
theorem LX8_cheer_31_r {l : Launch} {E : EE} {p : Program} {e : Env} {ms : State} {m : MethodId} {args : Array Value} {below : List Frame} {meth : Method} {c : Code} {a1 : Int32} {a2 : Int32} {r9 : Int32} {t9 : St} (X : Cx E layC p ms m args c cX8_cheer RX8 4) (hlk : meth.locks = false) (hr : meth.sig.returnType = (some .int)) (n : Nat) (a3 : Int32) (s0 : St) {r8 : Int32 × St} (h : fX8_cheer_31 a1 a2 n a3 s0 = some (.inl r8)) (hR : ∀ r, (.inl r8 : (Int32 × St) ⊕ (St)) = .inl r → r = (r9, t9)) : AW E layC p l e (rmD 5) ms m args below meth c 4 0 0 (MQc E layC below args ms (some (.int r9)) t9) 31 [(0, .ref (ea E 0)), (1, .int a1), (2, .int a2), (3, .int a3)] [] s0 :=
  LX8_cheer_31 X hlk hr n a3 s0 _ h hR (fun _ he => by cases he)
set_option maxHeartbeats 4000000 in
set_option maxRecDepth 100000 in
theorem ctX8_cheer {l : Launch} {E : EE} {a1 : Int32} {a2 : Int32} {s0 : St} {r9 : Int32} {t9 : St}  (h : fX8_cheer a1 a2 s0 = some (r9, t9)) : Ct l E layC yX8_cheer cX8_cheer 4 (some .int) 5 [.ref (ea E 0), .int a1, .int a2] s0 (some (.int r9)) t9 := by
  refine Ct.of (by decide) (Nat.le_of_ble_eq_true rfl) ?_
  intro p e ms m below meth c X hlk hr
  have X : Cx E layC p ms m [.ref (ea E 0), .int a1, .int a2].toArray c cX8_cheer RX8 4 := X
  refine r_sub (L' := [(0, .ref (ea E 0)), (1, .int a1), (2, .int a2)]) [0, 1, 2] rfl ?_
  unfold fX8_cheer at h
  refine r_aload_n X dX8_cheer_0 0 rfl rfl ?_
  refine r_iload_n X dX8_cheer_1 1 rfl rfl ?_
  obtain ⟨u3, s1, e2, h⟩ := bd2_ok h
  refine kX8_isDiner X (ctX8_isDiner e2) dX8_cheer_2 lC_0 g_380 (Nat.le_of_ble_eq_true rfl) (Nat.le_of_ble_eq_true rfl) ?_
  obtain ⟨j18, ej18, h⟩ := jn1_ok h
  have hj18 : ∀ (s4 : St), j18 s4 = some (r9, t9) → AW E layC p l e (rmD 5) ms m [.ref (ea E 0), .int a1, .int a2].toArray below meth c 4 0 0 (MQc E layC below [.ref (ea E 0), .int a1, .int a2].toArray ms (some (.int r9)) t9) 18 [(0, .ref (ea E 0))] [] s4 := by
    intro s4 h
    rw [ej18] at h
    refine r_aload_n X dX8_cheer_18 0 rfl rfl ?_
    refine r_iconst X dX8_cheer_19 (v := 1) (by decide) ?_
    obtain ⟨u7, s5, e6, h⟩ := bd2_ok h
    refine kX8_error X (ctX8_error e6) dX8_cheer_20 lC_0 g_337 (Nat.le_of_ble_eq_true rfl) (Nat.le_of_ble_eq_true rfl) ?_
    exact s_iret X hlk hr dX8_cheer_23 h
  refine r_if_eq X 18 dX8_cheer_5 (by decide) (fun c27 => ?_) (fun c27 => ?_)
  · rw [if_pos c27] at h
    refine r_sub (L' := [(0, .ref (ea E 0))]) [0] rfl ?_
    exact hj18 _ h
  · rw [if_neg c27] at h
    refine r_iload_n X dX8_cheer_8 2 rfl rfl ?_
    refine r_iconst X dX8_cheer_9 (v := 0) (by decide) ?_
    refine r_bipush X dX8_cheer_10 (v := 24) (by decide) ?_
    obtain ⟨u10, s8, e9, h⟩ := bd2_ok h
    refine kX8_within X (ctX8_within e9) dX8_cheer_12 g_334 (Nat.le_of_ble_eq_true rfl) (Nat.le_of_ble_eq_true rfl) ?_
    refine r_if_ne X 24 dX8_cheer_15 (by decide) (fun c26 => ?_) (fun c26 => ?_)
    · rw [if_neg c26] at h
      refine r_aload_n X dX8_cheer_24 0 rfl rfl ?_
      obtain ⟨s11, e12, h⟩ := bd1_ok h
      refine kX8_thinkAnew X (ctX8_thinkAnew e12) dX8_cheer_25 lC_0 g_559 (Nat.le_of_ble_eq_true rfl) (Nat.le_of_ble_eq_true rfl) ?_
      refine r_bipush X dX8_cheer_28 (v := 9) (by decide) ?_
      refine r_istore_n (L' := [(0, .ref (ea E 0)), (1, .int a1), (2, .int a2), (3, .int 9)]) X dX8_cheer_30 [1, 2, 3, 0] rfl rfl (Nat.le_of_ble_eq_true rfl) ?_
      obtain ⟨o25, eo, ho⟩ := bS1_ok h
      rcases ho with ⟨u24, rfl, h⟩ | ⟨s20, rfl, h⟩
      · exact LX8_cheer_31_r X hlk hr FU _ _ eo (fun r hr1 => by cases hr1; exact Option.some.inj h)
      · refine LX8_cheer_31_x X hlk hr FU _ _ _ eo ?_
        refine r_aload_n X dX8_cheer_69 0 rfl rfl ?_
        refine r_iconst X dX8_cheer_70 (v := 2) (by decide) ?_
        obtain ⟨u23, s21, e22, h⟩ := bd2_ok h
        refine kX8_error X (ctX8_error e22) dX8_cheer_71 lC_0 g_337 (Nat.le_of_ble_eq_true rfl) (Nat.le_of_ble_eq_true rfl) ?_
        exact s_iret X hlk hr dX8_cheer_74 h
    · rw [if_pos c26] at h
      refine r_sub (L' := [(0, .ref (ea E 0))]) [0] rfl ?_
      exact hj18 _ h
/-! X8_commonDivisor -/
theorem nX8_commonDivisor : yX8_commonDivisor.cls ≠ "java/lang/invoke/MethodHandle" ∧ yX8_commonDivisor.cls ≠ "java/lang/invoke/VarHandle" ∧ (parseMethodDescriptor yX8_commonDivisor.desc).map (fun d => d.parameters.length) = some 2 := by decide +kernel
theorem kX8_commonDivisor {l : Launch} {E : EE} {p : Program} {e : Env} {ms : State} {m : MethodId} {args : Array Value} {below : List Frame} {meth : Method} {c : Code} {cc : ByteArray} {own : String} {nL pc idx d D : Nat} {Q : State → Prop} {L : List (Nat × Value)} {rest : List Value} {σ τ : St} {a0 : Int32} {a1 : Int32} {r : Int32} (X : Cx E layC p ms m args c cc own nL) (hM : Ct l E layC yX8_commonDivisor cX8_commonDivisor 3 (some .int) d [.int a0, .int a1] σ (some (.int r)) τ) (hd : decode cc pc = .ok (.invokestatic idx, 3)) (w1 : Cond.methodLink own idx yX8_commonDivisor ∈ gw) (hR : d + 1 ≤ D) (hrs : (rest.map fun v => v.category).sum ≤ 8) (k : AW E layC p l e (rmD D) ms m args below meth c nL 0 0 Q (pc + 3) L (.int r :: rest) τ) : AW E layC p l e (rmD D) ms m args below meth c nL 0 0 Q pc L (.int a1 :: .int a0 :: rest) σ :=
  s_callS X [.int a0, .int a1] rest hM hd w1 g_653 g_67 g_654 nX8_commonDivisor rfl rfl hrs (Nat.le_of_ble_eq_true rfl) hR k
def fX8_commonDivisor_2 (a0 : Int32) (a1 : Int32) : Nat → Int32 → St → Option ((Int32 × St) ⊕ (St))
  | 0, _, _ => none
  | n + 1, a2, s0 =>
    if a2 ≤ 1 then
    some (.inr s0)
    else
    gz a2 <| jn (fun (_ : Unit) =>
    fX8_commonDivisor_2 a0 a1 n (a2 + (-1)) s0) fun j21 =>
    if (irm a0 a2) = 0 then
    gz a2 <| if (irm a1 a2) = 0 then
    some (.inl (a2, s0))
    else
    j21 ()
    else
    j21 ()
def fX8_commonDivisor (a0 : Int32) (a1 : Int32) (s0 : St) : Option (Int32 × St) :=
    bS1 (fX8_commonDivisor_2 a0 a1 FU a1 s0) (fun u7 => some u7) fun s6 =>
    some (1, s6)
set_option maxHeartbeats 4000000 in
set_option maxRecDepth 100000 in
theorem LX8_commonDivisor_2 {l : Launch} {E : EE} {p : Program} {e : Env} {ms : State} {m : MethodId} {args : Array Value} {below : List Frame} {meth : Method} {c : Code} {a0 : Int32} {a1 : Int32} {r9 : Int32} {t9 : St} (X : Cx E layC p ms m args c cX8_commonDivisor RX8 3) (hlk : meth.locks = false) (hr : meth.sig.returnType = (some .int)) : ∀ (n : Nat) (a2 : Int32) (s0 : St) (o : (Int32 × St) ⊕ (St)), fX8_commonDivisor_2 a0 a1 n a2 s0 = some o → (∀ r, o = .inl r → r = (r9, t9)) → (∀  (t8 : St), o = .inr t8 → AW E layC p l e (rmD 0) ms m args below meth c 3 0 0 (MQc E layC below args ms (some (.int r9)) t9) 27 [] [] t8) → AW E layC p l e (rmD 0) ms m args below meth c 3 0 0 (MQc E layC below args ms (some (.int r9)) t9) 2 [(0, .int a0), (1, .int a1), (2, .int a2)] [] s0 := by
  intro n
  induction n with
  | zero =>
    intro a2 s0 o h hR hE
    cases h
  | succ n ih =>
    intro a2 s0 o h hR hE
    rw [fX8_commonDivisor_2] at h
    refine r_iload_n X dX8_commonDivisor_2 2 rfl rfl ?_
    refine r_iconst X dX8_commonDivisor_3 (v := 1) (by decide) ?_
    refine r_icmp_le X 27 dX8_commonDivisor_4 (by decide) (fun c5 => ?_) (fun c5 => ?_)
    · rw [if_pos c5] at h
      refine r_sub (L' := []) [] rfl ?_
      cases h
      exact hE _ rfl
    · rw [if_neg c5] at h
      refine r_iload_n X dX8_commonDivisor_7 0 rfl rfl ?_
      refine r_iload_n X dX8_commonDivisor_8 2 rfl rfl ?_
      obtain ⟨g1, h⟩ := gz_ok h
      refine s_irem X dX8_commonDivisor_9 g1 ?_
      obtain ⟨j21, ej21, h⟩ := jn1_ok h
      have hj21 : ∀ (u : Unit), j21 u = some o → AW E layC p l e (rmD 0) ms m args below meth c 3 0 0 (MQc E layC below args ms (some (.int r9)) t9) 21 [(0, .int a0), (1, .int a1), (2, .int a2)] [] s0 := by
        intro u h
        rw [ej21] at h
        refine r_iinc (L' := [(0, .int a0), (1, .int a1), (2, .int (a2 + (-1)))]) (v := a2 + (-1)) X dX8_commonDivisor_21 2 rfl rfl [1, 2, 0] rfl (Nat.le_of_ble_eq_true rfl) ?_
        refine r_goto X 2 dX8_commonDivisor_24 (by decide) ?_
        exact ih _ _ _ h hR hE
      refine r_if_ne X 21 dX8_commonDivisor_10 (by decide) (fun c4 => ?_) (fun c4 => ?_)
      · rw [if_neg c4] at h
        exact hj21 _ h
      · rw [if_pos c4] at h
        refine r_iload_n X dX8_commonDivisor_13 1 rfl rfl ?_
        refine r_iload_n X dX8_commonDivisor_14 2 rfl rfl ?_
        obtain ⟨g2, h⟩ := gz_ok h
        refine s_irem X dX8_commonDivisor_15 g2 ?_
        refine r_if_ne X 21 dX8_commonDivisor_16 (by decide) (fun c3 => ?_) (fun c3 => ?_)
        · rw [if_neg c3] at h
          exact hj21 _ h
        · rw [if_pos c3] at h
          refine r_iload_n X dX8_commonDivisor_19 2 rfl rfl ?_
          exact s_iret X hlk hr dX8_commonDivisor_20 (inl_ok h hR)
set_option maxHeartbeats 4000000 in
set_option maxRecDepth 100000 in
theorem LX8_commonDivisor_2_x {l : Launch} {E : EE} {p : Program} {e : Env} {ms : State} {m : MethodId} {args : Array Value} {below : List Frame} {meth : Method} {c : Code} {a0 : Int32} {a1 : Int32} {r9 : Int32} {t9 : St} (X : Cx E layC p ms m args c cX8_commonDivisor RX8 3) (hlk : meth.locks = false) (hr : meth.sig.returnType = (some .int)) (n : Nat) (a2 : Int32) (s0 : St)  (t8 : St) (h : fX8_commonDivisor_2 a0 a1 n a2 s0 = some (.inr t8)) (hE : AW E layC p l e (rmD 0) ms m args below meth c 3 0 0 (MQc E layC below args ms (some (.int r9)) t9) 27 [] [] t8) : AW E layC p l e (rmD 0) ms m args below meth c 3 0 0 (MQc E layC below args ms (some (.int r9)) t9) 2 [(0, .int a0), (1, .int a1), (2, .int a2)] [] s0 :=
  LX8_commonDivisor_2 X hlk hr n a2 s0 _ h (fun r he => by cases he) (fun _ he => by cases he; exact hE)
set_option maxHeartbeats 4000000 in
set_option maxRecDepth 100000 in
theorem LX8_commonDivisor_2_r {l : Launch} {E : EE} {p : Program} {e : Env} {ms : State} {m : MethodId} {args : Array Value} {below : List Frame} {meth : Method} {c : Code} {a0 : Int32} {a1 : Int32} {r9 : Int32} {t9 : St} (X : Cx E layC p ms m args c cX8_commonDivisor RX8 3) (hlk : meth.locks = false) (hr : meth.sig.returnType = (some .int)) (n : Nat) (a2 : Int32) (s0 : St) {r8 : Int32 × St} (h : fX8_commonDivisor_2 a0 a1 n a2 s0 = some (.inl r8)) (hR : ∀ r, (.inl r8 : (Int32 × St) ⊕ (St)) = .inl r → r = (r9, t9)) : AW E layC p l e (rmD 0) ms m args below meth c 3 0 0 (MQc E layC below args ms (some (.int r9)) t9) 2 [(0, .int a0), (1, .int a1), (2, .int a2)] [] s0 :=
  LX8_commonDivisor_2 X hlk hr n a2 s0 _ h hR (fun _ he => by cases he)
set_option maxHeartbeats 4000000 in
set_option maxRecDepth 100000 in
theorem ctX8_commonDivisor {l : Launch} {E : EE} {a0 : Int32} {a1 : Int32} {s0 : St} {r9 : Int32} {t9 : St}  (h : fX8_commonDivisor a0 a1 s0 = some (r9, t9)) : Ct l E layC yX8_commonDivisor cX8_commonDivisor 3 (some .int) 0 [.int a0, .int a1] s0 (some (.int r9)) t9 := by
  refine Ct.of (by decide) (Nat.le_of_ble_eq_true rfl) ?_
  intro p e ms m below meth c X hlk hr
  have X : Cx E layC p ms m [.int a0, .int a1].toArray c cX8_commonDivisor RX8 3 := X
  refine r_sub (L' := [(0, .int a0), (1, .int a1)]) [0, 1] rfl ?_
  unfold fX8_commonDivisor at h
  refine r_iload_n X dX8_commonDivisor_0 1 rfl rfl ?_
  refine r_istore_n (L' := [(0, .int a0), (1, .int a1), (2, .int a1)]) X dX8_commonDivisor_1 [1, 2, 0] rfl rfl (Nat.le_of_ble_eq_true rfl) ?_
  obtain ⟨o8, eo, ho⟩ := bS1_ok h
  rcases ho with ⟨u7, rfl, h⟩ | ⟨s6, rfl, h⟩
  · exact LX8_commonDivisor_2_r X hlk hr FU _ _ eo (fun r hr1 => by cases hr1; exact Option.some.inj h)
  · refine LX8_commonDivisor_2_x X hlk hr FU _ _ _ eo ?_
    refine r_iconst X dX8_commonDivisor_27 (v := 1) (by decide) ?_
    exact s_iret X hlk hr dX8_commonDivisor_28 h
/-! X8_odds -/
theorem nX8_odds : yX8_odds.cls ≠ "java/lang/invoke/MethodHandle" ∧ yX8_odds.cls ≠ "java/lang/invoke/VarHandle" ∧ (parseMethodDescriptor yX8_odds.desc).map (fun d => d.parameters.length) = some 4 := by decide +kernel
theorem kX8_odds {l : Launch} {E : EE} {p : Program} {e : Env} {ms : State} {m : MethodId} {args : Array Value} {below : List Frame} {meth : Method} {c : Code} {cc : ByteArray} {own : String} {nL pc idx d D : Nat} {Q : State → Prop} {L : List (Nat × Value)} {rest : List Value} {σ τ : St} {a1 : Int32} {a2 : Int32} {a3 : Int32} {a4 : Int32} {r : Int32} {fl : List (Option Nat)} (X : Cx E layC p ms m args c cc own nL) (hM : Ct l E layC yX8_odds cX8_odds 7 (some .int) d [.ref (ea E 0), .int a1, .int a2, .int a3, .int a4] σ (some (.int r)) τ) (hd : decode cc pc = .ok (.invokevirtual idx, 3)) (hlay : layC[0]? = some (.inl (7, fl))) (w1 : Cond.methodLink own idx yX8_odds ∈ gw) (hR : d + 1 ≤ D) (hrs : (rest.map fun v => v.category).sum ≤ 8) (k : AW E layC p l e (rmD D) ms m args below meth c nL 0 0 Q (pc + 3) L (.int r :: rest) τ) : AW E layC p l e (rmD D) ms m args below meth c nL 0 0 Q pc L (.int a4 :: .int a3 :: .int a2 :: .int a1 :: .ref (ea E 0) :: rest) σ :=
  s_callV X [.int a1, .int a2, .int a3, .int a4] rest hM hd v_X8 hlay w1 g_649 g_650 g_67 g_651 nX8_odds rfl rfl hrs (Nat.le_of_ble_eq_true rfl) hR k
def fX8_odds_47 (a1 : Int32) (a2 : Int32) (a3 : Int32) (a4 : Int32) : Nat → Int32 → Int32 → St → Option (Int32 × St)
  | 0, _, _, _ => none
  | n + 1, a5, a6, s0 =>
    if 10 ≤ a6 then
    some (a5, s0)
    else
    bd1 (fX8_thinkAnew  s0) fun s17 =>
    bd1 (ptf s17 39 9 (4 * a6)) fun s19 =>
    bd1 (fX0_spend 39 a2 s19) fun s20 =>
    bd1 (ald s20 47 8 a1) fun v23 =>
    jn (fun (w24 : Int32) =>
    fX8_odds_47 a1 a2 a3 a4 n w24 (a6 + 1) s20) fun j97 =>
    if v23 < a3 then
    j97 a5
    else
    j97 (a5 + 1)
def fX8_odds (a1 : Int32) (a2 : Int32) (a3 : Int32) (a4 : Int32) (s0 : St) : Option (Int32 × St) :=
    bd2 (fX8_isDiner a1 s0) fun u3 s1 =>
    jn (fun (s4 : St) =>
    bd2 (fX8_error 1 s4) fun u7 s5 =>
    some (u7, s5)) fun j35 =>
    if u3 = 0 then
    j35 s1
    else
    bd2 (fX8_within a2 0 30 s1) fun u10 s8 =>
    if u10 = 0 then
    j35 s8
    else
    bd2 (fX8_isKnown a3 s8) fun u13 s11 =>
    if u13 = 0 then
    j35 s11
    else
    bd2 (fX8_within a4 0 1 s11) fun u16 s14 =>
    if u16 = 0 then
    j35 s14
    else
    bd2 (fX8_odds_47 a1 a2 a3 a4 FU 0 0 s14) fun v28 s27 =>
    bd2 (fX8_commonDivisor v28 10 s27) fun u31 s29 =>
    if a4 = 0 then
    gz (imx 1 u31) <| some (v28 / (imx 1 u31), s29)
    else
    gz (imx 1 u31) <| some (10 / (imx 1 u31), s29)
set_option maxHeartbeats 4000000 in
set_option maxRecDepth 100000 in
theorem LX8_odds_47 {l : Launch} {E : EE} {p : Program} {e : Env} {ms : State} {m : MethodId} {args : Array Value} {below : List Frame} {meth : Method} {c : Code} {a1 : Int32} {a2 : Int32} {a3 : Int32} {a4 : Int32} {Q : State → Prop} (X : Cx E layC p ms m args c cX8_odds RX8 7) : ∀ (n : Nat) (a5 : Int32) (a6 : Int32) (s0 : St) (q5 : Int32) (t8 : St), fX8_odds_47 a1 a2 a3 a4 n a5 a6 s0 = some (q5, t8) → AW E layC p l e (rmD 6) ms m args below meth c 7 0 0 Q 103 [(4, .int a4), (5, .int q5)] [] t8 → AW E layC p l e (rmD 6) ms m args below meth c 7 0 0 Q 47 [(0, .ref (ea E 0)), (1, .int a1), (2, .int a2), (3, .int a3), (4, .int a4), (5, .int a5), (6, .int a6)] [] s0 := by
  intro n
  induction n with
  | zero =>
    intro a5 a6 s0 q5 t8 h hE
    cases h
  | succ n ih =>
    intro a5 a6 s0 q5 t8 h hE
    rw [fX8_odds_47] at h
    refine r_iload X dX8_odds_47 6 rfl ?_
    refine r_bipush X dX8_odds_49 (v := 10) (by decide) ?_
    refine r_icmp_ge X 103 dX8_odds_51 (by decide) (fun c26 => ?_) (fun c26 => ?_)
    · rw [if_pos c26] at h
      refine r_sub (L' := [(4, .int a4), (5, .int a5)]) [4, 5] rfl ?_
      cases h
      exact hE
    · rw [if_neg c26] at h
      refine r_aload_n X dX8_odds_54 0 rfl rfl ?_
      obtain ⟨s17, e18, h⟩ := bd1_ok h
      refine kX8_thinkAnew X (ctX8_thinkAnew e18) dX8_odds_55 lC_0 g_559 (Nat.le_of_ble_eq_true rfl) (Nat.le_of_ble_eq_true rfl) ?_
      refine r_aload_n X dX8_odds_58 0 rfl rfl ?_
      refine r_getr X dX8_odds_59 i_X8 v_X8 lC_0 2 rfl (Nat.le_of_ble_eq_true rfl) g_295 ?_
      refine r_iconst X dX8_odds_62 (v := 4) (by decide) ?_
      refine r_iload X dX8_odds_63 6 rfl ?_
      refine r_imul X dX8_odds_65 ?_
      obtain ⟨s19, es19, h⟩ := pt_ok h
      refine s_puti X dX8_odds_66 i_X0 tyX0_ok nmX0 v_X0 lC_39 9 rfl (Nat.le_of_ble_eq_true rfl) g_118 rfl rfl ⟨rfl, rfl⟩ es19 ?_
      refine r_aload_n X dX8_odds_69 0 rfl rfl ?_
      refine r_getr X dX8_odds_70 i_X8 v_X8 lC_0 2 rfl (Nat.le_of_ble_eq_true rfl) g_295 ?_
      refine r_aload_n X dX8_odds_73 0 rfl rfl ?_
      refine r_getr X dX8_odds_74 i_X8 v_X8 lC_0 3 rfl (Nat.le_of_ble_eq_true rfl) g_296 ?_
      refine r_iload_n X dX8_odds_77 2 rfl rfl ?_
      obtain ⟨s20, e21, h⟩ := bd1_ok h
      refine kX0_spend X (ctX0_spend hH_39 e21) dX8_odds_78 lC_39 g_522 (Nat.le_of_ble_eq_true rfl) (Nat.le_of_ble_eq_true rfl) ?_
      refine r_aload_n X dX8_odds_81 0 rfl rfl ?_
      refine r_getr X dX8_odds_82 i_X8 v_X8 lC_0 2 rfl (Nat.le_of_ble_eq_true rfl) g_295 ?_
      refine r_getr X dX8_odds_85 i_X0 v_X0 lC_39 7 rfl (Nat.le_of_ble_eq_true rfl) g_115 ?_
      refine r_iload_n X dX8_odds_88 1 rfl rfl ?_
      obtain ⟨g22, v23, ev23, h⟩ := ld_ok h
      refine s_iald X dX8_odds_89 lC_47 g22 ev23 ?_
      refine r_iload_n X dX8_odds_90 3 rfl rfl ?_
      obtain ⟨j97, ej97, h⟩ := jn1_ok h
      have hj97 : ∀ (w24 : Int32), j97 w24 = some (q5, t8) → AW E layC p l e (rmD 6) ms m args below meth c 7 0 0 Q 97 [(0, .ref (ea E 0)), (1, .int a1), (2, .int a2), (3, .int a3), (4, .int a4), (5, .int w24), (6, .int a6)] [] s20 := by
        intro w24 h
        rw [ej97] at h
        refine r_iinc (L' := [(0, .ref (ea E 0)), (1, .int a1), (2, .int a2), (3, .int a3), (4, .int a4), (5, .int w24), (6, .int (a6 + 1))]) (v := a6 + 1) X dX8_odds_97 6 rfl rfl [1, 2, 3, 4, 5, 6, 0] rfl (Nat.le_of_ble_eq_true rfl) ?_
        refine r_goto X 47 dX8_odds_100 (by decide) ?_
        exact ih _ _ _ _ _ h hE
      refine r_icmp_lt X 97 dX8_odds_91 (by decide) (fun c25 => ?_) (fun c25 => ?_)
      · rw [if_pos c25] at h
        exact hj97 _ h
      · rw [if_neg c25] at h
        refine r_iinc (L' := [(0, .ref (ea E 0)), (1, .int a1), (2, .int a2), (3, .int a3), (4, .int a4), (5, .int (a5 + 1)), (6, .int a6)]) (v := a5 + 1) X dX8_odds_94 5 rfl rfl [1, 2, 3, 4, 5, 0, 6] rfl (Nat.le_of_ble_eq_true rfl) ?_
        exact hj97 _ h
set_option maxHeartbeats 4000000 in
set_option maxRecDepth 100000 in
theorem ctX8_odds {l : Launch} {E : EE} {a1 : Int32} {a2 : Int32} {a3 : Int32} {a4 : Int32} {s0 : St} {r9 : Int32} {t9 : St}  (h : fX8_odds a1 a2 a3 a4 s0 = some (r9, t9)) : Ct l E layC yX8_odds cX8_odds 7 (some .int) 6 [.ref (ea E 0), .int a1, .int a2, .int a3, .int a4] s0 (some (.int r9)) t9 := by
  refine Ct.of (by decide) (Nat.le_of_ble_eq_true rfl) ?_
  intro p e ms m below meth c X hlk hr
  have X : Cx E layC p ms m [.ref (ea E 0), .int a1, .int a2, .int a3, .int a4].toArray c cX8_odds RX8 7 := X
  refine r_sub (L' := [(0, .ref (ea E 0)), (1, .int a1), (2, .int a2), (3, .int a3), (4, .int a4)]) [0, 1, 2, 3, 4] rfl ?_
  unfold fX8_odds at h
  refine r_aload_n X dX8_odds_0 0 rfl rfl ?_
  refine r_iload_n X dX8_odds_1 1 rfl rfl ?_
  obtain ⟨u3, s1, e2, h⟩ := bd2_ok h
  refine kX8_isDiner X (ctX8_isDiner e2) dX8_odds_2 lC_0 g_380 (Nat.le_of_ble_eq_true rfl) (Nat.le_of_ble_eq_true rfl) ?_
  obtain ⟨j35, ej35, h⟩ := jn1_ok h
  have hj35 : ∀ (s4 : St), j35 s4 = some (r9, t9) → AW E layC p l e (rmD 6) ms m [.ref (ea E 0), .int a1, .int a2, .int a3, .int a4].toArray below meth c 7 0 0 (MQc E layC below [.ref (ea E 0), .int a1, .int a2, .int a3, .int a4].toArray ms (some (.int r9)) t9) 35 [(0, .ref (ea E 0))] [] s4 := by
    intro s4 h
    rw [ej35] at h
    refine r_aload_n X dX8_odds_35 0 rfl rfl ?_
    refine r_iconst X dX8_odds_36 (v := 1) (by decide) ?_
    obtain ⟨u7, s5, e6, h⟩ := bd2_ok h
    refine kX8_error X (ctX8_error e6) dX8_odds_37 lC_0 g_337 (Nat.le_of_ble_eq_true rfl) (Nat.le_of_ble_eq_true rfl) ?_
    exact s_iret X hlk hr dX8_odds_40 h
  refine r_if_eq X 35 dX8_odds_5 (by decide) (fun c38 => ?_) (fun c38 => ?_)
  · rw [if_pos c38] at h
    refine r_sub (L' := [(0, .ref (ea E 0))]) [0] rfl ?_
    exact hj35 _ h
  · rw [if_neg c38] at h
    refine r_iload_n X dX8_odds_8 2 rfl rfl ?_
    refine r_iconst X dX8_odds_9 (v := 0) (by decide) ?_
    refine r_bipush X dX8_odds_10 (v := 30) (by decide) ?_
    obtain ⟨u10, s8, e9, h⟩ := bd2_ok h
    refine kX8_within X (ctX8_within e9) dX8_odds_12 g_334 (Nat.le_of_ble_eq_true rfl) (Nat.le_of_ble_eq_true rfl) ?_
    refine r_if_eq X 35 dX8_odds_15 (by decide) (fun c37 => ?_) (fun c37 => ?_)
    · rw [if_pos c37] at h
      refine r_sub (L' := [(0, .ref (ea E 0))]) [0] rfl ?_
      exact hj35 _ h
    · rw [if_neg c37] at h
      refine r_iload_n X dX8_odds_18 3 rfl rfl ?_
      obtain ⟨u13, s11, e12, h⟩ := bd2_ok h
      refine kX8_isKnown X (ctX8_isKnown e12) dX8_odds_19 g_426 (Nat.le_of_ble_eq_true rfl) (Nat.le_of_ble_eq_true rfl) ?_
      refine r_if_eq X 35 dX8_odds_22 (by decide) (fun c36 => ?_) (fun c36 => ?_)
      · rw [if_pos c36] at h
        refine r_sub (L' := [(0, .ref (ea E 0))]) [0] rfl ?_
        exact hj35 _ h
      · rw [if_neg c36] at h
        refine r_iload X dX8_odds_25 4 rfl ?_
        refine r_iconst X dX8_odds_27 (v := 0) (by decide) ?_
        refine r_iconst X dX8_odds_28 (v := 1) (by decide) ?_
        obtain ⟨u16, s14, e15, h⟩ := bd2_ok h
        refine kX8_within X (ctX8_within e15) dX8_odds_29 g_334 (Nat.le_of_ble_eq_true rfl) (Nat.le_of_ble_eq_true rfl) ?_
        refine r_if_ne X 41 dX8_odds_32 (by decide) (fun c35 => ?_) (fun c35 => ?_)
        · rw [if_neg c35] at h
          refine r_iconst X dX8_odds_41 (v := 0) (by decide) ?_
          refine r_istore (L' := [(0, .ref (ea E 0)), (1, .int a1), (2, .int a2), (3, .int a3), (4, .int a4), (5, .int 0)]) X dX8_odds_42 [1, 2, 3, 4, 5, 0] rfl (Nat.le_of_ble_eq_true rfl) ?_
          refine r_iconst X dX8_odds_44 (v := 0) (by decide) ?_
          refine r_istore (L' := [(0, .ref (ea E 0)), (1, .int a1), (2, .int a2), (3, .int a3), (4, .int a4), (5, .int 0), (6, .int 0)]) X dX8_odds_45 [1, 2, 3, 4, 5, 6, 0] rfl (Nat.le_of_ble_eq_true rfl) ?_
          obtain ⟨v28, s27, eo, h⟩ := bd2_ok h
          refine LX8_odds_47 X FU _ _ _ _ _ eo ?_
          refine r_iconst X dX8_odds_103 (v := 1) (by decide) ?_
          refine r_iload X dX8_odds_104 1 rfl ?_
          refine r_bipush X dX8_odds_106 (v := 10) (by decide) ?_
          obtain ⟨u31, s29, e30, h⟩ := bd2_ok h
          refine kX8_commonDivisor X (ctX8_commonDivisor e30) dX8_odds_108 g_652 (Nat.le_of_ble_eq_true rfl) (Nat.le_of_ble_eq_true rfl) ?_
          refine s_mmax X dX8_odds_111 g_623 g_160 g_71 g_161 (Nat.le_of_ble_eq_true rfl) (Nat.le_of_ble_eq_true rfl) ?_
          refine r_istore (L' := [(4, .int a4), (5, .int v28), (6, .int (imx 1 u31))]) X dX8_odds_114 [1, 2, 0] rfl (Nat.le_of_ble_eq_true rfl) ?_
          refine r_iload X dX8_odds_116 0 rfl ?_
          refine r_if_ne X 126 dX8_odds_118 (by decide) (fun c34 => ?_) (fun c34 => ?_)
          · rw [if_neg c34] at h
            refine r_bipush X dX8_odds_126 (v := 10) (by decide) ?_
            refine r_iload X dX8_odds_128 2 rfl ?_
            obtain ⟨g32, h⟩ := gz_ok h
            refine r_idiv X dX8_odds_130 g32 ?_
            exact s_iret X hlk hr dX8_odds_131 h
          · rw [if_pos c34] at h
            refine r_iload X dX8_odds_121 1 rfl ?_
            refine r_goto X 128 dX8_odds_123 (by decide) ?_
            refine r_iload X dX8_odds_128 2 rfl ?_
            obtain ⟨g33, h⟩ := gz_ok h
            refine r_idiv X dX8_odds_130 g33 ?_
            exact s_iret X hlk hr dX8_odds_131 h
        · rw [if_pos c35] at h
          refine r_sub (L' := [(0, .ref (ea E 0))]) [0] rfl ?_
          exact hj35 _ h
/-! X8_seed -/
theorem nX8_seed : yX8_seed.cls ≠ "java/lang/invoke/MethodHandle" ∧ yX8_seed.cls ≠ "java/lang/invoke/VarHandle" ∧ (parseMethodDescriptor yX8_seed.desc).map (fun d => d.parameters.length) = some 1 := by decide +kernel
theorem kX8_seed {l : Launch} {E : EE} {p : Program} {e : Env} {ms : State} {m : MethodId} {args : Array Value} {below : List Frame} {meth : Method} {c : Code} {cc : ByteArray} {own : String} {nL pc idx d D : Nat} {Q : State → Prop} {L : List (Nat × Value)} {rest : List Value} {σ τ : St} {a1 : Int32} {r : Int32} {fl : List (Option Nat)} (X : Cx E layC p ms m args c cc own nL) (hM : Ct l E layC yX8_seed cX8_seed 3 (some .int) d [.ref (ea E 0), .int a1] σ (some (.int r)) τ) (hd : decode cc pc = .ok (.invokevirtual idx, 3)) (hlay : layC[0]? = some (.inl (7, fl))) (w1 : Cond.methodLink own idx yX8_seed ∈ gw) (hR : d + 1 ≤ D) (hrs : (rest.map fun v => v.category).sum ≤ 8) (k : AW E layC p l e (rmD D) ms m args below meth c nL 0 0 Q (pc + 3) L (.int r :: rest) τ) : AW E layC p l e (rmD D) ms m args below meth c nL 0 0 Q pc L (.int a1 :: .ref (ea E 0) :: rest) σ :=
  s_callV X [.int a1] rest hM hd v_X8 hlay w1 g_656 g_657 g_67 g_658 nX8_seed rfl rfl hrs (Nat.le_of_ble_eq_true rfl) hR k
def fX8_seed (a1 : Int32) (s0 : St) : Option (Int32 × St) :=
    bd1 (ptf s0 1 5 a1) fun s1 =>
    some (s0 1 5, s1)
set_option maxHeartbeats 4000000 in
set_option maxRecDepth 100000 in
theorem ctX8_seed {l : Launch} {E : EE} {a1 : Int32} {s0 : St} {r9 : Int32} {t9 : St}  (h : fX8_seed a1 s0 = some (r9, t9)) : Ct l E layC yX8_seed cX8_seed 3 (some .int) 0 [.ref (ea E 0), .int a1] s0 (some (.int r9)) t9 := by
  refine Ct.of (by decide) (Nat.le_of_ble_eq_true rfl) ?_
  intro p e ms m below meth c X hlk hr
  have X : Cx E layC p ms m [.ref (ea E 0), .int a1].toArray c cX8_seed RX8 3 := X
  refine r_sub (L' := [(0, .ref (ea E 0)), (1, .int a1)]) [0, 1] rfl ?_
  unfold fX8_seed at h
  refine r_aload_n X dX8_seed_0 0 rfl rfl ?_
  refine r_getr X dX8_seed_1 i_X8 v_X8 lC_0 0 rfl (Nat.le_of_ble_eq_true rfl) g_293 ?_
  refine r_geti X dX8_seed_4 i_X7 v_X7 lC_1 5 rfl (Nat.le_of_ble_eq_true rfl) g_187 ?_
  refine r_istore_n (L' := [(0, .ref (ea E 0)), (1, .int a1), (2, .int (s0 1 5))]) X dX8_seed_7 [1, 2, 0] rfl rfl (Nat.le_of_ble_eq_true rfl) ?_
  refine r_aload_n X dX8_seed_8 0 rfl rfl ?_
  refine r_getr X dX8_seed_9 i_X8 v_X8 lC_0 0 rfl (Nat.le_of_ble_eq_true rfl) g_293 ?_
  refine r_iload_n X dX8_seed_12 1 rfl rfl ?_
  obtain ⟨s1, es1, h⟩ := pt_ok h
  refine s_puti X dX8_seed_13 i_X7 tyX7_ok nmX7 v_X7 lC_1 5 rfl (Nat.le_of_ble_eq_true rfl) g_187 rfl rfl ⟨rfl, rfl⟩ es1 ?_
  refine r_iload_n X dX8_seed_16 2 rfl rfl ?_
  exact s_iret X hlk hr dX8_seed_17 h
/-! X8_voice -/
theorem nX8_voice : yX8_voice.cls ≠ "java/lang/invoke/MethodHandle" ∧ yX8_voice.cls ≠ "java/lang/invoke/VarHandle" ∧ (parseMethodDescriptor yX8_voice.desc).map (fun d => d.parameters.length) = some 3 := by decide +kernel
theorem kX8_voice {l : Launch} {E : EE} {p : Program} {e : Env} {ms : State} {m : MethodId} {args : Array Value} {below : List Frame} {meth : Method} {c : Code} {cc : ByteArray} {own : String} {nL pc idx d D : Nat} {Q : State → Prop} {L : List (Nat × Value)} {rest : List Value} {σ τ : St} {a1 : Int32} {a2 : Int32} {a3 : Int32} {r : Int32} {fl : List (Option Nat)} (X : Cx E layC p ms m args c cc own nL) (hM : Ct l E layC yX8_voice cX8_voice 4 (some .int) d [.ref (ea E 0), .int a1, .int a2, .int a3] σ (some (.int r)) τ) (hd : decode cc pc = .ok (.invokevirtual idx, 3)) (hlay : layC[0]? = some (.inl (7, fl))) (w1 : Cond.methodLink own idx yX8_voice ∈ gw) (hR : d + 1 ≤ D) (hrs : (rest.map fun v => v.category).sum ≤ 8) (k : AW E layC p l e (rmD D) ms m args below meth c nL 0 0 Q (pc + 3) L (.int r :: rest) τ) : AW E layC p l e (rmD D) ms m args below meth c nL 0 0 Q pc L (.int a3 :: .int a2 :: .int a1 :: .ref (ea E 0) :: rest) σ :=
  s_callV X [.int a1, .int a2, .int a3] rest hM hd v_X8 hlay w1 g_660 g_661 g_67 g_662 nX8_voice rfl rfl hrs (Nat.le_of_ble_eq_true rfl) hR k
def fX8_voice (a1 : Int32) (a2 : Int32) (a3 : Int32) (s0 : St) : Option (Int32 × St) :=
    bd2 (fX8_isDiner a1 s0) fun u3 s1 =>
    jn (fun (s4 : St) =>
    bd2 (fX8_error 1 s4) fun u7 s5 =>
    some (u7, s5)) fun j17 =>
    if u3 = 0 then
    j17 s1
    else
    bd2 (fX8_within a2 0 3 s1) fun u10 s8 =>
    if u10 = 0 then
    j17 s8
    else
    bd1 (ald s8 7 8 a1) fun v12 =>
    bd1 (ald s8 6 8 a1) fun v14 =>
    bd2 (fX6_raised a1 v12 v14 a2 a3 s8) fun u17 s15 =>
    some (u17, s15)
set_option maxHeartbeats 4000000 in
set_option maxRecDepth 100000 in
theorem ctX8_voice {l : Launch} {E : EE} {a1 : Int32} {a2 : Int32} {a3 : Int32} {s0 : St} {r9 : Int32} {t9 : St}  (h : fX8_voice a1 a2 a3 s0 = some (r9, t9)) : Ct l E layC yX8_voice cX8_voice 4 (some .int) 103 [.ref (ea E 0), .int a1, .int a2, .int a3] s0 (some (.int r9)) t9 := by
  refine Ct.of (by decide) (Nat.le_of_ble_eq_true rfl) ?_
  intro p e ms m below meth c X hlk hr
  have X : Cx E layC p ms m [.ref (ea E 0), .int a1, .int a2, .int a3].toArray c cX8_voice RX8 4 := X
  refine r_sub (L' := [(0, .ref (ea E 0)), (1, .int a1), (2, .int a2), (3, .int a3)]) [0, 1, 2, 3] rfl ?_
  unfold fX8_voice at h
  refine r_aload_n X dX8_voice_0 0 rfl rfl ?_
  refine r_iload_n X dX8_voice_1 1 rfl rfl ?_
  obtain ⟨u3, s1, e2, h⟩ := bd2_ok h
  refine kX8_isDiner X (ctX8_isDiner e2) dX8_voice_2 lC_0 g_380 (Nat.le_of_ble_eq_true rfl) (Nat.le_of_ble_eq_true rfl) ?_
  obtain ⟨j17, ej17, h⟩ := jn1_ok h
  have hj17 : ∀ (s4 : St), j17 s4 = some (r9, t9) → AW E layC p l e (rmD 103) ms m [.ref (ea E 0), .int a1, .int a2, .int a3].toArray below meth c 4 0 0 (MQc E layC below [.ref (ea E 0), .int a1, .int a2, .int a3].toArray ms (some (.int r9)) t9) 17 [(0, .ref (ea E 0))] [] s4 := by
    intro s4 h
    rw [ej17] at h
    refine r_aload_n X dX8_voice_17 0 rfl rfl ?_
    refine r_iconst X dX8_voice_18 (v := 1) (by decide) ?_
    obtain ⟨u7, s5, e6, h⟩ := bd2_ok h
    refine kX8_error X (ctX8_error e6) dX8_voice_19 lC_0 g_337 (Nat.le_of_ble_eq_true rfl) (Nat.le_of_ble_eq_true rfl) ?_
    exact s_iret X hlk hr dX8_voice_22 h
  refine r_if_eq X 17 dX8_voice_5 (by decide) (fun c19 => ?_) (fun c19 => ?_)
  · rw [if_pos c19] at h
    refine r_sub (L' := [(0, .ref (ea E 0))]) [0] rfl ?_
    exact hj17 _ h
  · rw [if_neg c19] at h
    refine r_iload_n X dX8_voice_8 2 rfl rfl ?_
    refine r_iconst X dX8_voice_9 (v := 0) (by decide) ?_
    refine r_iconst X dX8_voice_10 (v := 3) (by decide) ?_
    obtain ⟨u10, s8, e9, h⟩ := bd2_ok h
    refine kX8_within X (ctX8_within e9) dX8_voice_11 g_334 (Nat.le_of_ble_eq_true rfl) (Nat.le_of_ble_eq_true rfl) ?_
    refine r_if_ne X 23 dX8_voice_14 (by decide) (fun c18 => ?_) (fun c18 => ?_)
    · rw [if_neg c18] at h
      refine r_aload_n X dX8_voice_23 0 rfl rfl ?_
      refine r_getr X dX8_voice_24 i_X8 v_X8 lC_0 5 rfl (Nat.le_of_ble_eq_true rfl) g_298 ?_
      refine r_iload_n X dX8_voice_27 1 rfl rfl ?_
      refine r_aload_n X dX8_voice_28 0 rfl rfl ?_
      refine r_getr X dX8_voice_29 i_X8 v_X8 lC_0 0 rfl (Nat.le_of_ble_eq_true rfl) g_293 ?_
      refine r_getr X dX8_voice_32 i_X7 v_X7 lC_1 0 rfl (Nat.le_of_ble_eq_true rfl) g_177 ?_
      refine r_getr X dX8_voice_35 i_X0 v_X0 lC_2 4 rfl (Nat.le_of_ble_eq_true rfl) g_109 ?_
      refine r_iload_n X dX8_voice_38 1 rfl rfl ?_
      obtain ⟨g11, v12, ev12, h⟩ := ld_ok h
      refine s_iald X dX8_voice_39 lC_7 g11 ev12 ?_
      refine r_aload_n X dX8_voice_40 0 rfl rfl ?_
      refine r_getr X dX8_voice_41 i_X8 v_X8 lC_0 0 rfl (Nat.le_of_ble_eq_true rfl) g_293 ?_
      refine r_getr X dX8_voice_44 i_X7 v_X7 lC_1 0 rfl (Nat.le_of_ble_eq_true rfl) g_177 ?_
      refine r_getr X dX8_voice_47 i_X0 v_X0 lC_2 3 rfl (Nat.le_of_ble_eq_true rfl) g_107 ?_
      refine r_iload_n X dX8_voice_50 1 rfl rfl ?_
      obtain ⟨g13, v14, ev14, h⟩ := ld_ok h
      refine s_iald X dX8_voice_51 lC_6 g13 ev14 ?_
      refine r_iload_n X dX8_voice_52 2 rfl rfl ?_
      refine r_iload_n X dX8_voice_53 3 rfl rfl ?_
      obtain ⟨u17, s15, e16, h⟩ := bd2_ok h
      refine kX6_raised X (ctX6_raised e16) dX8_voice_54 lC_55 g_663 (Nat.le_of_ble_eq_true rfl) (Nat.le_of_ble_eq_true rfl) ?_
      exact s_iret X hlk hr dX8_voice_57 h
    · rw [if_pos c18] at h
      refine r_sub (L' := [(0, .ref (ea E 0))]) [0] rfl ?_
      exact hj17 _ h
/-! X8_trace -/
theorem nX8_trace : yX8_trace.cls ≠ "java/lang/invoke/MethodHandle" ∧ yX8_trace.cls ≠ "java/lang/invoke/VarHandle" ∧ (parseMethodDescriptor yX8_trace.desc).map (fun d => d.parameters.length) = some 1 := by decide +kernel
theorem kX8_trace {l : Launch} {E : EE} {p : Program} {e : Env} {ms : State} {m : MethodId} {args : Array Value} {below : List Frame} {meth : Method} {c : Code} {cc : ByteArray} {own : String} {nL pc idx d D : Nat} {Q : State → Prop} {L : List (Nat × Value)} {rest : List Value} {σ τ : St} {a1 : Int32} {r : Int32} {fl : List (Option Nat)} (X : Cx E layC p ms m args c cc own nL) (hM : Ct l E layC yX8_trace cX8_trace 2 (some .int) d [.ref (ea E 0), .int a1] σ (some (.int r)) τ) (hd : decode cc pc = .ok (.invokevirtual idx, 3)) (hlay : layC[0]? = some (.inl (7, fl))) (w1 : Cond.methodLink own idx yX8_trace ∈ gw) (hR : d + 1 ≤ D) (hrs : (rest.map fun v => v.category).sum ≤ 8) (k : AW E layC p l e (rmD D) ms m args below meth c nL 0 0 Q (pc + 3) L (.int r :: rest) τ) : AW E layC p l e (rmD D) ms m args below meth c nL 0 0 Q pc L (.int a1 :: .ref (ea E 0) :: rest) σ :=
  s_callV X [.int a1] rest hM hd v_X8 hlay w1 g_688 g_689 g_67 g_690 nX8_trace rfl rfl hrs (Nat.le_of_ble_eq_true rfl) hR k
def fX8_trace (a1 : Int32) (s0 : St) : Option (Int32 × St) :=
    bd2 (fX8_within a1 0 ((s0 56 1) - 1) s0) fun u3 s1 =>
    if u3 = 0 then
    bd2 (fX8_error 2 s1) fun u6 s4 =>
    some (u6, s4)
    else
    bd1 (ald s1 57 40 a1) fun v8 =>
    some (v8, s1)
set_option maxHeartbeats 4000000 in
set_option maxRecDepth 100000 in
theorem ctX8_trace {l : Launch} {E : EE} {a1 : Int32} {s0 : St} {r9 : Int32} {t9 : St}  (h : fX8_trace a1 s0 = some (r9, t9)) : Ct l E layC yX8_trace cX8_trace 2 (some .int) 1 [.ref (ea E 0), .int a1] s0 (some (.int r9)) t9 := by
  refine Ct.of (by decide) (Nat.le_of_ble_eq_true rfl) ?_
  intro p e ms m below meth c X hlk hr
  have X : Cx E layC p ms m [.ref (ea E 0), .int a1].toArray c cX8_trace RX8 2 := X
  refine r_sub (L' := [(0, .ref (ea E 0)), (1, .int a1)]) [0, 1] rfl ?_
  unfold fX8_trace at h
  refine r_iload_n X dX8_trace_0 1 rfl rfl ?_
  refine r_iconst X dX8_trace_1 (v := 0) (by decide) ?_
  refine r_aload_n X dX8_trace_2 0 rfl rfl ?_
  refine r_getr X dX8_trace_3 i_X8 v_X8 lC_0 5 rfl (Nat.le_of_ble_eq_true rfl) g_298 ?_
  refine r_getr X dX8_trace_6 i_X6 v_X6 lC_55 0 rfl (Nat.le_of_ble_eq_true rfl) g_260 ?_
  refine r_geti X dX8_trace_9 i_X4 v_X4 lC_56 1 rfl (Nat.le_of_ble_eq_true rfl) g_170 ?_
  refine r_iconst X dX8_trace_12 (v := 1) (by decide) ?_
  refine r_isub X dX8_trace_13 ?_
  obtain ⟨u3, s1, e2, h⟩ := bd2_ok h
  refine kX8_within X (ctX8_within e2) dX8_trace_14 g_334 (Nat.le_of_ble_eq_true rfl) (Nat.le_of_ble_eq_true rfl) ?_
  refine r_if_eq X 35 dX8_trace_17 (by decide) (fun c9 => ?_) (fun c9 => ?_)
  · rw [if_pos c9] at h
    refine r_aload_n X dX8_trace_35 0 rfl rfl ?_
    refine r_iconst X dX8_trace_36 (v := 2) (by decide) ?_
    obtain ⟨u6, s4, e5, h⟩ := bd2_ok h
    refine kX8_error X (ctX8_error e5) dX8_trace_37 lC_0 g_337 (Nat.le_of_ble_eq_true rfl) (Nat.le_of_ble_eq_true rfl) ?_
    exact s_iret X hlk hr dX8_trace_40 h
  · rw [if_neg c9] at h
    refine r_aload_n X dX8_trace_20 0 rfl rfl ?_
    refine r_getr X dX8_trace_21 i_X8 v_X8 lC_0 5 rfl (Nat.le_of_ble_eq_true rfl) g_298 ?_
    refine r_getr X dX8_trace_24 i_X6 v_X6 lC_55 0 rfl (Nat.le_of_ble_eq_true rfl) g_260 ?_
    refine r_getr X dX8_trace_27 i_X4 v_X4 lC_56 0 rfl (Nat.le_of_ble_eq_true rfl) g_165 ?_
    refine r_iload_n X dX8_trace_30 1 rfl rfl ?_
    obtain ⟨g7, v8, ev8, h⟩ := ld_ok h
    refine s_iald X dX8_trace_31 lC_57 g7 ev8 ?_
    refine r_goto X 40 dX8_trace_32 (by decide) ?_
    exact s_iret X hlk hr dX8_trace_40 h
