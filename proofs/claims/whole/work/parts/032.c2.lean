/-! X3_readLevel X3_readOpened X3_readSingle -/
theorem nX3_readLevel : yX3_readLevel.cls ≠ "java/lang/invoke/MethodHandle" ∧ yX3_readLevel.cls ≠ "java/lang/invoke/VarHandle" ∧ (parseMethodDescriptor yX3_readLevel.desc).map (fun d => d.parameters.length) = some 2 := by decide +kernel
theorem kX3_readLevel {l : Launch} {E : EE} {p : Program} {e : Env} {ms : State} {m : MethodId} {args : Array Value} {below : List Frame} {meth : Method} {c : Code} {cc : ByteArray} {own : String} {nL pc idx d D : Nat} {Q : State → Prop} {L : List (Nat × Value)} {rest : List Value} {σ τ : St} {a1 : Int32} {a2 : Int32}  {fl : List (Option Nat)} (X : Cx E layC p ms m args c cc own nL) (hM : Ct l E layC yX3_readLevel cX3_readLevel 6 none d [.ref (ea E 52), .int a1, .int a2] σ none τ) (hd : decode cc pc = .ok (.invokevirtual idx, 3)) (hlay : layC[52]? = some (.inl (2, fl))) (w1 : Cond.methodLink own idx yX3_readLevel ∈ gw) (hR : d + 1 ≤ D) (hrs : (rest.map fun v => v.category).sum ≤ 8) (k : AW E layC p l e (rmD D) ms m args below meth c nL 0 0 Q (pc + 3) L rest τ) : AW E layC p l e (rmD D) ms m args below meth c nL 0 0 Q pc L (.int a2 :: .int a1 :: .ref (ea E 52) :: rest) σ :=
  s_callV X [.int a1, .int a2] rest hM hd v_X3 hlay w1 g_463 g_2 g_74 g_464 nX3_readLevel rfl rfl hrs (Nat.le_of_ble_eq_true rfl) hR k
theorem nX3_readOpened : yX3_readOpened.cls ≠ "java/lang/invoke/MethodHandle" ∧ yX3_readOpened.cls ≠ "java/lang/invoke/VarHandle" ∧ (parseMethodDescriptor yX3_readOpened.desc).map (fun d => d.parameters.length) = some 1 := by decide +kernel
theorem kX3_readOpened {l : Launch} {E : EE} {p : Program} {e : Env} {ms : State} {m : MethodId} {args : Array Value} {below : List Frame} {meth : Method} {c : Code} {cc : ByteArray} {own : String} {nL pc idx d D : Nat} {Q : State → Prop} {L : List (Nat × Value)} {rest : List Value} {σ τ : St} {a1 : Int32}  {fl : List (Option Nat)} (X : Cx E layC p ms m args c cc own nL) (hM : Ct l E layC yX3_readOpened cX3_readOpened 3 none d [.ref (ea E 52), .int a1] σ none τ) (hd : decode cc pc = .ok (.invokevirtual idx, 3)) (hlay : layC[52]? = some (.inl (2, fl))) (w1 : Cond.methodLink own idx yX3_readOpened ∈ gw) (hR : d + 1 ≤ D) (hrs : (rest.map fun v => v.category).sum ≤ 8) (k : AW E layC p l e (rmD D) ms m args below meth c nL 0 0 Q (pc + 3) L rest τ) : AW E layC p l e (rmD D) ms m args below meth c nL 0 0 Q pc L (.int a1 :: .ref (ea E 52) :: rest) σ :=
  s_callV X [.int a1] rest hM hd v_X3 hlay w1 g_479 g_6 g_74 g_480 nX3_readOpened rfl rfl hrs (Nat.le_of_ble_eq_true rfl) hR k
theorem nX3_readSingle : yX3_readSingle.cls ≠ "java/lang/invoke/MethodHandle" ∧ yX3_readSingle.cls ≠ "java/lang/invoke/VarHandle" ∧ (parseMethodDescriptor yX3_readSingle.desc).map (fun d => d.parameters.length) = some 1 := by decide +kernel
theorem kX3_readSingle {l : Launch} {E : EE} {p : Program} {e : Env} {ms : State} {m : MethodId} {args : Array Value} {below : List Frame} {meth : Method} {c : Code} {cc : ByteArray} {own : String} {nL pc idx d D : Nat} {Q : State → Prop} {L : List (Nat × Value)} {rest : List Value} {σ τ : St} {a1 : Int32}  {fl : List (Option Nat)} (X : Cx E layC p ms m args c cc own nL) (hM : Ct l E layC yX3_readSingle cX3_readSingle 2 none d [.ref (ea E 52), .int a1] σ none τ) (hd : decode cc pc = .ok (.invokevirtual idx, 3)) (hlay : layC[52]? = some (.inl (2, fl))) (w1 : Cond.methodLink own idx yX3_readSingle ∈ gw) (hR : d + 1 ≤ D) (hrs : (rest.map fun v => v.category).sum ≤ 8) (k : AW E layC p l e (rmD D) ms m args below meth c nL 0 0 Q (pc + 3) L rest τ) : AW E layC p l e (rmD D) ms m args below meth c nL 0 0 Q pc L (.int a1 :: .ref (ea E 52) :: rest) σ :=
  s_callV X [.int a1] rest hM hd v_X3 hlay w1 g_467 g_3 g_74 g_468 nX3_readSingle rfl rfl hrs (Nat.le_of_ble_eq_true rfl) hR k
def fX3_readLevel_34 (rec : Nat → List Int32 → St → Option (Int32 × St)) (a1 : Int32) (a2 : Int32) (a3 : Int32) : Nat → Int32 → St → Option (St)
  | 0, _, _ => none
  | n + 1, a4, s0 =>
    if a3 ≤ a4 then
    some s0
    else
    if (s0 52 4) = 0 then
    bd2 (fX3_sign  s0) fun u7 s5 =>
    bd2 (fX3_levelOf u7 s5) fun u10 s8 =>
    if u10 = a1 then
    bd2 (fX3_sign  s8) fun u13 s11 =>
    bd1 (ptf s11 52 3 ((s11 52 3) + 1)) fun s14 =>
    bd2 (rec 0 [(a1 + 1), a2] s14) fun u17 s15 =>
    bd1 (fX4_add 53 (-u13) s15) fun s18 =>
    fX3_readLevel_34 rec a1 a2 a3 n (a4 + 1) s18
    else
    some s8
    else
    some s0
def fX3_readLevel (rec : Nat → List Int32 → St → Option (Int32 × St)) (a1 : Int32) (a2 : Int32) (s0 : St) : Option (St) :=
    if a1 ≤ 4 then
    bd2 (rec 0 [(a1 + 1), a2] s0) fun u3 s1 =>
    jn (fun (w4 : Int32) =>
    bd1 (fX3_readLevel_34 rec a1 a2 w4 FU 0 s1) fun s23 =>
    some s23) fun j30 =>
    if a1 = 2 then
    j30 1
    else
    j30 50
    else
    bd2 (rec 2 [a2] s0) fun u27 s25 =>
    some s25
set_option maxHeartbeats 4000000 in
set_option maxRecDepth 100000 in
theorem LX3_readLevel_34 {l : Launch} {E : EE} {p : Program} {e : Env} {ms : State} {m : MethodId} {args : Array Value} {below : List Frame} {meth : Method} {c : Code} {d : Nat} {rec : Nat → List Int32 → St → Option (Int32 × St)} {a1 : Int32} {a2 : Int32} {a3 : Int32} {Q : State → Prop} (X : Cx E layC p ms m args c cX3_readLevel RX3 6) (hd : 3 ≤ d) (hrec0 : ∀ (a1 : Int32) (a2 : Int32) (s : St) (r : Int32) (t : St), rec 0 [a1, a2] s = some (r, t) → Ct l E layC yX3_readLevel cX3_readLevel 6 none d [.ref (ea E 52), .int a1, .int a2] s none t) (hrec1 : ∀ (a1 : Int32) (s : St) (r : Int32) (t : St), rec 1 [a1] s = some (r, t) → Ct l E layC yX3_readOpened cX3_readOpened 3 none d [.ref (ea E 52), .int a1] s none t) (hrec2 : ∀ (a1 : Int32) (s : St) (r : Int32) (t : St), rec 2 [a1] s = some (r, t) → Ct l E layC yX3_readSingle cX3_readSingle 2 none d [.ref (ea E 52), .int a1] s none t) : ∀ (n : Nat) (a4 : Int32) (s0 : St)  (t8 : St), fX3_readLevel_34 rec a1 a2 a3 n a4 s0 = some t8 → AW E layC p l e (rmD (d + 1)) ms m args below meth c 6 0 0 Q 98 [] [] t8 → AW E layC p l e (rmD (d + 1)) ms m args below meth c 6 0 0 Q 34 [(0, .ref (ea E 52)), (1, .int a1), (2, .int a2), (3, .int a3), (4, .int a4)] [] s0 := by
  intro n
  induction n with
  | zero =>
    intro a4 s0 t8 h hE
    cases h
  | succ n ih =>
    intro a4 s0 t8 h hE
    rw [fX3_readLevel_34] at h
    refine r_iload X dX3_readLevel_34 4 rfl ?_
    refine r_iload_n X dX3_readLevel_36 3 rfl rfl ?_
    refine r_icmp_ge X 98 dX3_readLevel_37 (by decide) (fun c22 => ?_) (fun c22 => ?_)
    · rw [if_pos c22] at h
      refine r_sub (L' := []) [] rfl ?_
      cases h
      exact hE
    · rw [if_neg c22] at h
      refine r_aload_n X dX3_readLevel_40 0 rfl rfl ?_
      refine r_geti X dX3_readLevel_41 i_X3 v_X3 lC_52 4 rfl (Nat.le_of_ble_eq_true rfl) g_239 ?_
      refine r_if_ne X 98 dX3_readLevel_44 (by decide) (fun c21 => ?_) (fun c21 => ?_)
      · rw [if_neg c21] at h
        refine r_sub (L' := []) [] rfl ?_
        cases h
        exact hE
      · rw [if_pos c21] at h
        refine r_aload_n X dX3_readLevel_47 0 rfl rfl ?_
        obtain ⟨u7, s5, e6, h⟩ := bd2_ok h
        refine kX3_sign X (ctX3_sign e6) dX3_readLevel_48 lC_52 g_473 (by omega) (Nat.le_of_ble_eq_true rfl) ?_
        obtain ⟨u10, s8, e9, h⟩ := bd2_ok h
        refine kX3_levelOf X (ctX3_levelOf e9) dX3_readLevel_51 g_494 (by omega) (Nat.le_of_ble_eq_true rfl) ?_
        refine r_iload_n X dX3_readLevel_54 1 rfl rfl ?_
        refine r_icmp_ne X 98 dX3_readLevel_55 (by decide) (fun c20 => ?_) (fun c20 => ?_)
        · rw [if_neg c20] at h
          refine r_sub (L' := []) [] rfl ?_
          cases h
          exact hE
        · rw [if_pos c20] at h
          refine r_aload_n X dX3_readLevel_58 0 rfl rfl ?_
          obtain ⟨u13, s11, e12, h⟩ := bd2_ok h
          refine kX3_sign X (ctX3_sign e12) dX3_readLevel_59 lC_52 g_473 (by omega) (Nat.le_of_ble_eq_true rfl) ?_
          refine r_istore (L' := [(0, .ref (ea E 52)), (1, .int a1), (2, .int a2), (3, .int a3), (4, .int a4), (5, .int u13)]) X dX3_readLevel_62 [1, 2, 3, 4, 5, 0] rfl (Nat.le_of_ble_eq_true rfl) ?_
          refine r_aload_n X dX3_readLevel_64 0 rfl rfl ?_
          refine r_dup X dX3_readLevel_65 rfl ?_
          refine r_geti X dX3_readLevel_66 i_X3 v_X3 lC_52 3 rfl (Nat.le_of_ble_eq_true rfl) g_238 ?_
          refine r_iconst X dX3_readLevel_69 (v := 1) (by decide) ?_
          refine r_iadd X dX3_readLevel_70 ?_
          obtain ⟨s14, es14, h⟩ := pt_ok h
          refine s_puti X dX3_readLevel_71 i_X3 tyX3_ok nmX3 v_X3 lC_52 3 rfl (Nat.le_of_ble_eq_true rfl) g_238 rfl rfl ⟨rfl, rfl⟩ es14 ?_
          refine r_aload_n X dX3_readLevel_74 0 rfl rfl ?_
          refine r_iload_n X dX3_readLevel_75 1 rfl rfl ?_
          refine r_iconst X dX3_readLevel_76 (v := 1) (by decide) ?_
          refine r_iadd X dX3_readLevel_77 ?_
          refine r_iload_n X dX3_readLevel_78 2 rfl rfl ?_
          obtain ⟨u17, s15, e16, h⟩ := bd2_ok h
          refine kX3_readLevel X (hrec0 _ _ _ _ _ e16) dX3_readLevel_79 lC_52 g_461 (by omega) (Nat.le_of_ble_eq_true rfl) ?_
          refine r_aload_n X dX3_readLevel_82 0 rfl rfl ?_
          refine r_getr X dX3_readLevel_83 i_X3 v_X3 lC_52 0 rfl (Nat.le_of_ble_eq_true rfl) g_234 ?_
          refine r_iload X dX3_readLevel_86 5 rfl ?_
          refine r_ineg X dX3_readLevel_88 ?_
          obtain ⟨s18, e19, h⟩ := bd1_ok h
          refine kX4_add X (ctX4_add hR_53 e19) dX3_readLevel_89 lC_53 g_481 (by omega) (Nat.le_of_ble_eq_true rfl) ?_
          refine r_iinc (L' := [(0, .ref (ea E 52)), (1, .int a1), (2, .int a2), (3, .int a3), (4, .int (a4 + 1)), (5, .int u13)]) (v := a4 + 1) X dX3_readLevel_92 4 rfl rfl [1, 2, 3, 4, 0, 5] rfl (Nat.le_of_ble_eq_true rfl) ?_
          refine r_goto X 34 dX3_readLevel_95 (by decide) ?_
          refine r_sub (L' := [(0, .ref (ea E 52)), (1, .int a1), (2, .int a2), (3, .int a3), (4, .int (a4 + 1))]) [0, 1, 2, 3, 4] rfl ?_
          exact ih _ _ _ h hE
set_option maxHeartbeats 4000000 in
set_option maxRecDepth 100000 in
theorem ctX3_readLevel_s {l : Launch} {E : EE} {d : Nat} {rec : Nat → List Int32 → St → Option (Int32 × St)} {a1 : Int32} {a2 : Int32} {s0 : St} {t9 : St} (hd : 3 ≤ d) (hrec0 : ∀ (a1 : Int32) (a2 : Int32) (s : St) (r : Int32) (t : St), rec 0 [a1, a2] s = some (r, t) → Ct l E layC yX3_readLevel cX3_readLevel 6 none d [.ref (ea E 52), .int a1, .int a2] s none t) (hrec1 : ∀ (a1 : Int32) (s : St) (r : Int32) (t : St), rec 1 [a1] s = some (r, t) → Ct l E layC yX3_readOpened cX3_readOpened 3 none d [.ref (ea E 52), .int a1] s none t) (hrec2 : ∀ (a1 : Int32) (s : St) (r : Int32) (t : St), rec 2 [a1] s = some (r, t) → Ct l E layC yX3_readSingle cX3_readSingle 2 none d [.ref (ea E 52), .int a1] s none t) (h : fX3_readLevel rec a1 a2 s0 = some t9) : Ct l E layC yX3_readLevel cX3_readLevel 6 none (d + 1) [.ref (ea E 52), .int a1, .int a2] s0 none t9 := by
  refine Ct.of (by decide) (Nat.le_of_ble_eq_true rfl) ?_
  intro p e ms m below meth c X hlk hr
  have X : Cx E layC p ms m [.ref (ea E 52), .int a1, .int a2].toArray c cX3_readLevel RX3 6 := X
  refine r_sub (L' := [(0, .ref (ea E 52)), (1, .int a1), (2, .int a2)]) [0, 1, 2] rfl ?_
  unfold fX3_readLevel at h
  refine r_iload_n X dX3_readLevel_0 1 rfl rfl ?_
  refine r_iconst X dX3_readLevel_1 (v := 4) (by decide) ?_
  refine r_icmp_le X 11 dX3_readLevel_2 (by decide) (fun c28 => ?_) (fun c28 => ?_)
  · rw [if_pos c28] at h
    refine r_aload_n X dX3_readLevel_11 0 rfl rfl ?_
    refine r_iload_n X dX3_readLevel_12 1 rfl rfl ?_
    refine r_iconst X dX3_readLevel_13 (v := 1) (by decide) ?_
    refine r_iadd X dX3_readLevel_14 ?_
    refine r_iload_n X dX3_readLevel_15 2 rfl rfl ?_
    obtain ⟨u3, s1, e2, h⟩ := bd2_ok h
    refine kX3_readLevel X (hrec0 _ _ _ _ _ e2) dX3_readLevel_16 lC_52 g_461 (by omega) (Nat.le_of_ble_eq_true rfl) ?_
    refine r_iload_n X dX3_readLevel_19 1 rfl rfl ?_
    refine r_iconst X dX3_readLevel_20 (v := 2) (by decide) ?_
    obtain ⟨j30, ej30, h⟩ := jn1_ok h
    have hj30 : ∀ (w4 : Int32), j30 w4 = some t9 → AW E layC p l e (rmD (d + 1)) ms m [.ref (ea E 52), .int a1, .int a2].toArray below meth c 6 0 0 (MQc E layC below [.ref (ea E 52), .int a1, .int a2].toArray ms none t9) 30 [(0, .ref (ea E 52)), (1, .int a1), (2, .int a2)] [.int w4] s1 := by
      intro w4 h
      rw [ej30] at h
      refine r_istore_n (L' := [(0, .ref (ea E 52)), (1, .int a1), (2, .int a2), (3, .int w4)]) X dX3_readLevel_30 [1, 2, 3, 0] rfl rfl (Nat.le_of_ble_eq_true rfl) ?_
      refine r_iconst X dX3_readLevel_31 (v := 0) (by decide) ?_
      refine r_istore (L' := [(0, .ref (ea E 52)), (1, .int a1), (2, .int a2), (3, .int w4), (4, .int 0)]) X dX3_readLevel_32 [1, 2, 3, 4, 0] rfl (Nat.le_of_ble_eq_true rfl) ?_
      obtain ⟨s23, eo, h⟩ := bd1_ok h
      refine LX3_readLevel_34 X hd hrec0 hrec1 hrec2 FU _ _ _ eo ?_
      exact s_vret X hlk hr dX3_readLevel_98 h
    refine r_icmp_ne X 28 dX3_readLevel_21 (by decide) (fun c24 => ?_) (fun c24 => ?_)
    · rw [if_neg c24] at h
      refine r_bipush X dX3_readLevel_28 (v := 50) (by decide) ?_
      exact hj30 _ h
    · rw [if_pos c24] at h
      refine r_iconst X dX3_readLevel_24 (v := 1) (by decide) ?_
      refine r_goto X 30 dX3_readLevel_25 (by decide) ?_
      exact hj30 _ h
  · rw [if_neg c28] at h
    refine r_aload_n X dX3_readLevel_5 0 rfl rfl ?_
    refine r_iload_n X dX3_readLevel_6 2 rfl rfl ?_
    obtain ⟨u27, s25, e26, h⟩ := bd2_ok h
    refine kX3_readSingle X (hrec2 _ _ _ _ e26) dX3_readLevel_7 lC_52 g_465 (by omega) (Nat.le_of_ble_eq_true rfl) ?_
    exact s_vret X hlk hr dX3_readLevel_10 h
def fX3_readOpened (rec : Nat → List Int32 → St → Option (Int32 × St)) (a1 : Int32) (s0 : St) : Option (St) :=
    if a1 < 5 then
    bd2 (fX3_sign  s0) fun u3 s1 =>
    bd1 (ptf s1 52 3 ((s1 52 3) + 1)) fun s4 =>
    if u3 = 33 then
    bd2 (rec 2 [(a1 + 1)] s4) fun u16 s14 =>
    bd1 (fX4_add 53 (-33) s14) fun s17 =>
    some s17
    else
    bd2 (rec 0 [0, (a1 + 1)] s4) fun u7 s5 =>
    bd2 (fX3_stands 41 s5) fun u10 s8 =>
    if u10 = 0 then
    bd1 (ptf s8 52 4 1) fun s11 =>
    some s11
    else
    bd1 (ptf s8 52 3 ((s8 52 3) + 1)) fun s12 =>
    some s12
    else
    bd1 (ptf s0 52 4 1) fun s20 =>
    some s20
set_option maxHeartbeats 4000000 in
set_option maxRecDepth 100000 in
theorem ctX3_readOpened_s {l : Launch} {E : EE} {d : Nat} {rec : Nat → List Int32 → St → Option (Int32 × St)} {a1 : Int32} {s0 : St} {t9 : St} (hd : 3 ≤ d) (hrec0 : ∀ (a1 : Int32) (a2 : Int32) (s : St) (r : Int32) (t : St), rec 0 [a1, a2] s = some (r, t) → Ct l E layC yX3_readLevel cX3_readLevel 6 none d [.ref (ea E 52), .int a1, .int a2] s none t) (hrec1 : ∀ (a1 : Int32) (s : St) (r : Int32) (t : St), rec 1 [a1] s = some (r, t) → Ct l E layC yX3_readOpened cX3_readOpened 3 none d [.ref (ea E 52), .int a1] s none t) (hrec2 : ∀ (a1 : Int32) (s : St) (r : Int32) (t : St), rec 2 [a1] s = some (r, t) → Ct l E layC yX3_readSingle cX3_readSingle 2 none d [.ref (ea E 52), .int a1] s none t) (h : fX3_readOpened rec a1 s0 = some t9) : Ct l E layC yX3_readOpened cX3_readOpened 3 none (d + 1) [.ref (ea E 52), .int a1] s0 none t9 := by
  refine Ct.of (by decide) (Nat.le_of_ble_eq_true rfl) ?_
  intro p e ms m below meth c X hlk hr
  have X : Cx E layC p ms m [.ref (ea E 52), .int a1].toArray c cX3_readOpened RX3 3 := X
  refine r_sub (L' := [(0, .ref (ea E 52)), (1, .int a1)]) [0, 1] rfl ?_
  unfold fX3_readOpened at h
  refine r_iload_n X dX3_readOpened_0 1 rfl rfl ?_
  refine r_iconst X dX3_readOpened_1 (v := 5) (by decide) ?_
  refine r_icmp_lt X 11 dX3_readOpened_2 (by decide) (fun c21 => ?_) (fun c21 => ?_)
  · rw [if_pos c21] at h
    refine r_aload_n X dX3_readOpened_11 0 rfl rfl ?_
    obtain ⟨u3, s1, e2, h⟩ := bd2_ok h
    refine kX3_sign X (ctX3_sign e2) dX3_readOpened_12 lC_52 g_473 (by omega) (Nat.le_of_ble_eq_true rfl) ?_
    refine r_istore_n (L' := [(0, .ref (ea E 52)), (1, .int a1), (2, .int u3)]) X dX3_readOpened_15 [1, 2, 0] rfl rfl (Nat.le_of_ble_eq_true rfl) ?_
    refine r_aload_n X dX3_readOpened_16 0 rfl rfl ?_
    refine r_dup X dX3_readOpened_17 rfl ?_
    refine r_geti X dX3_readOpened_18 i_X3 v_X3 lC_52 3 rfl (Nat.le_of_ble_eq_true rfl) g_238 ?_
    refine r_iconst X dX3_readOpened_21 (v := 1) (by decide) ?_
    refine r_iadd X dX3_readOpened_22 ?_
    obtain ⟨s4, es4, h⟩ := pt_ok h
    refine s_puti X dX3_readOpened_23 i_X3 tyX3_ok nmX3 v_X3 lC_52 3 rfl (Nat.le_of_ble_eq_true rfl) g_238 rfl rfl ⟨rfl, rfl⟩ es4 ?_
    refine r_iload_n X dX3_readOpened_26 2 rfl rfl ?_
    refine r_bipush X dX3_readOpened_27 (v := 33) (by decide) ?_
    refine r_icmp_ne X 49 dX3_readOpened_29 (by decide) (fun c19 => ?_) (fun c19 => ?_)
    · rw [if_neg c19] at h
      refine r_aload_n X dX3_readOpened_49 0 rfl rfl ?_
      refine r_iconst X dX3_readOpened_50 (v := 0) (by decide) ?_
      refine r_iload_n X dX3_readOpened_51 1 rfl rfl ?_
      refine r_iconst X dX3_readOpened_52 (v := 1) (by decide) ?_
      refine r_iadd X dX3_readOpened_53 ?_
      obtain ⟨u7, s5, e6, h⟩ := bd2_ok h
      refine kX3_readLevel X (hrec0 _ _ _ _ _ e6) dX3_readOpened_54 lC_52 g_461 (by omega) (Nat.le_of_ble_eq_true rfl) ?_
      refine r_aload_n X dX3_readOpened_57 0 rfl rfl ?_
      refine r_bipush X dX3_readOpened_58 (v := 41) (by decide) ?_
      obtain ⟨u10, s8, e9, h⟩ := bd2_ok h
      refine kX3_stands X (ctX3_stands e9) dX3_readOpened_60 lC_52 g_469 (by omega) (Nat.le_of_ble_eq_true rfl) ?_
      refine r_if_eq X 79 dX3_readOpened_63 (by decide) (fun c13 => ?_) (fun c13 => ?_)
      · rw [if_pos c13] at h
        refine r_aload_n X dX3_readOpened_79 0 rfl rfl ?_
        refine r_iconst X dX3_readOpened_80 (v := 1) (by decide) ?_
        obtain ⟨s11, es11, h⟩ := pt_ok h
        refine s_puti X dX3_readOpened_81 i_X3 tyX3_ok nmX3 v_X3 lC_52 4 rfl (Nat.le_of_ble_eq_true rfl) g_239 rfl rfl (by decide) es11 ?_
        exact s_vret X hlk hr dX3_readOpened_84 h
      · rw [if_neg c13] at h
        refine r_aload_n X dX3_readOpened_66 0 rfl rfl ?_
        refine r_dup X dX3_readOpened_67 rfl ?_
        refine r_geti X dX3_readOpened_68 i_X3 v_X3 lC_52 3 rfl (Nat.le_of_ble_eq_true rfl) g_238 ?_
        refine r_iconst X dX3_readOpened_71 (v := 1) (by decide) ?_
        refine r_iadd X dX3_readOpened_72 ?_
        obtain ⟨s12, es12, h⟩ := pt_ok h
        refine s_puti X dX3_readOpened_73 i_X3 tyX3_ok nmX3 v_X3 lC_52 3 rfl (Nat.le_of_ble_eq_true rfl) g_238 rfl rfl ⟨rfl, rfl⟩ es12 ?_
        refine r_goto X 84 dX3_readOpened_76 (by decide) ?_
        exact s_vret X hlk hr dX3_readOpened_84 h
    · rw [if_pos c19] at h
      refine r_aload_n X dX3_readOpened_32 0 rfl rfl ?_
      refine r_iload_n X dX3_readOpened_33 1 rfl rfl ?_
      refine r_iconst X dX3_readOpened_34 (v := 1) (by decide) ?_
      refine r_iadd X dX3_readOpened_35 ?_
      obtain ⟨u16, s14, e15, h⟩ := bd2_ok h
      refine kX3_readSingle X (hrec2 _ _ _ _ e15) dX3_readOpened_36 lC_52 g_465 (by omega) (Nat.le_of_ble_eq_true rfl) ?_
      refine r_aload_n X dX3_readOpened_39 0 rfl rfl ?_
      refine r_getr X dX3_readOpened_40 i_X3 v_X3 lC_52 0 rfl (Nat.le_of_ble_eq_true rfl) g_234 ?_
      refine r_bipush X dX3_readOpened_43 (v := (-33)) (by decide) ?_
      obtain ⟨s17, e18, h⟩ := bd1_ok h
      refine kX4_add X (ctX4_add hR_53 e18) dX3_readOpened_45 lC_53 g_481 (by omega) (Nat.le_of_ble_eq_true rfl) ?_
      exact s_vret X hlk hr dX3_readOpened_48 h
  · rw [if_neg c21] at h
    refine r_aload_n X dX3_readOpened_5 0 rfl rfl ?_
    refine r_iconst X dX3_readOpened_6 (v := 1) (by decide) ?_
    obtain ⟨s20, es20, h⟩ := pt_ok h
    refine s_puti X dX3_readOpened_7 i_X3 tyX3_ok nmX3 v_X3 lC_52 4 rfl (Nat.le_of_ble_eq_true rfl) g_239 rfl rfl (by decide) es20 ?_
    exact s_vret X hlk hr dX3_readOpened_10 h
def fX3_readSingle (rec : Nat → List Int32 → St → Option (Int32 × St)) (a1 : Int32) (s0 : St) : Option (St) :=
    bd2 (fX3_stands 33 s0) fun u3 s1 =>
    jn (fun (s4 : St) =>
    bd2 (rec 1 [a1] s4) fun u7 s5 =>
    some s5) fun j18 =>
    if u3 = 0 then
    bd2 (fX3_stands 40 s1) fun u10 s8 =>
    if u10 = 0 then
    bd2 (fX3_isDigit  s8) fun u13 s11 =>
    if u13 = 0 then
    bd1 (fX3_readName  s11) fun s14 =>
    some s14
    else
    bd1 (fX3_readNumber  s11) fun s16 =>
    some s16
    else
    j18 s8
    else
    j18 s1
set_option maxHeartbeats 4000000 in
set_option maxRecDepth 100000 in
theorem ctX3_readSingle_s {l : Launch} {E : EE} {d : Nat} {rec : Nat → List Int32 → St → Option (Int32 × St)} {a1 : Int32} {s0 : St} {t9 : St} (hd : 3 ≤ d) (hrec0 : ∀ (a1 : Int32) (a2 : Int32) (s : St) (r : Int32) (t : St), rec 0 [a1, a2] s = some (r, t) → Ct l E layC yX3_readLevel cX3_readLevel 6 none d [.ref (ea E 52), .int a1, .int a2] s none t) (hrec1 : ∀ (a1 : Int32) (s : St) (r : Int32) (t : St), rec 1 [a1] s = some (r, t) → Ct l E layC yX3_readOpened cX3_readOpened 3 none d [.ref (ea E 52), .int a1] s none t) (hrec2 : ∀ (a1 : Int32) (s : St) (r : Int32) (t : St), rec 2 [a1] s = some (r, t) → Ct l E layC yX3_readSingle cX3_readSingle 2 none d [.ref (ea E 52), .int a1] s none t) (h : fX3_readSingle rec a1 s0 = some t9) : Ct l E layC yX3_readSingle cX3_readSingle 2 none (d + 1) [.ref (ea E 52), .int a1] s0 none t9 := by
  refine Ct.of (by decide) (Nat.le_of_ble_eq_true rfl) ?_
  intro p e ms m below meth c X hlk hr
  have X : Cx E layC p ms m [.ref (ea E 52), .int a1].toArray c cX3_readSingle RX3 2 := X
  refine r_sub (L' := [(0, .ref (ea E 52)), (1, .int a1)]) [0, 1] rfl ?_
  unfold fX3_readSingle at h
  refine r_aload_n X dX3_readSingle_0 0 rfl rfl ?_
  refine r_bipush X dX3_readSingle_1 (v := 33) (by decide) ?_
  obtain ⟨u3, s1, e2, h⟩ := bd2_ok h
  refine kX3_stands X (ctX3_stands e2) dX3_readSingle_3 lC_52 g_469 (by omega) (Nat.le_of_ble_eq_true rfl) ?_
  obtain ⟨j18, ej18, h⟩ := jn1_ok h
  have hj18 : ∀ (s4 : St), j18 s4 = some t9 → AW E layC p l e (rmD (d + 1)) ms m [.ref (ea E 52), .int a1].toArray below meth c 2 0 0 (MQc E layC below [.ref (ea E 52), .int a1].toArray ms none t9) 18 [(0, .ref (ea E 52)), (1, .int a1)] [] s4 := by
    intro s4 h
    rw [ej18] at h
    refine r_aload_n X dX3_readSingle_18 0 rfl rfl ?_
    refine r_iload_n X dX3_readSingle_19 1 rfl rfl ?_
    obtain ⟨u7, s5, e6, h⟩ := bd2_ok h
    refine kX3_readOpened X (hrec1 _ _ _ _ e6) dX3_readSingle_20 lC_52 g_477 (by omega) (Nat.le_of_ble_eq_true rfl) ?_
    refine r_goto X 44 dX3_readSingle_23 (by decide) ?_
    exact s_vret X hlk hr dX3_readSingle_44 h
  refine r_if_ne X 18 dX3_readSingle_6 (by decide) (fun c20 => ?_) (fun c20 => ?_)
  · rw [if_neg c20] at h
    exact hj18 _ h
  · rw [if_pos c20] at h
    refine r_aload_n X dX3_readSingle_9 0 rfl rfl ?_
    refine r_bipush X dX3_readSingle_10 (v := 40) (by decide) ?_
    obtain ⟨u10, s8, e9, h⟩ := bd2_ok h
    refine kX3_stands X (ctX3_stands e9) dX3_readSingle_12 lC_52 g_469 (by omega) (Nat.le_of_ble_eq_true rfl) ?_
    refine r_if_eq X 26 dX3_readSingle_15 (by decide) (fun c19 => ?_) (fun c19 => ?_)
    · rw [if_pos c19] at h
      refine r_aload_n X dX3_readSingle_26 0 rfl rfl ?_
      obtain ⟨u13, s11, e12, h⟩ := bd2_ok h
      refine kX3_isDigit X (ctX3_isDigit e12) dX3_readSingle_27 lC_52 g_482 (by omega) (Nat.le_of_ble_eq_true rfl) ?_
      refine r_if_eq X 40 dX3_readSingle_30 (by decide) (fun c18 => ?_) (fun c18 => ?_)
      · rw [if_pos c18] at h
        refine r_aload_n X dX3_readSingle_40 0 rfl rfl ?_
        obtain ⟨s14, e15, h⟩ := bd1_ok h
        refine kX3_readName X (ctX3_readName e15) dX3_readSingle_41 lC_52 g_490 (by omega) (Nat.le_of_ble_eq_true rfl) ?_
        exact s_vret X hlk hr dX3_readSingle_44 h
      · rw [if_neg c18] at h
        refine r_aload_n X dX3_readSingle_33 0 rfl rfl ?_
        obtain ⟨s16, e17, h⟩ := bd1_ok h
        refine kX3_readNumber X (ctX3_readNumber e17) dX3_readSingle_34 lC_52 g_486 (by omega) (Nat.le_of_ble_eq_true rfl) ?_
        refine r_goto X 44 dX3_readSingle_37 (by decide) ?_
        exact s_vret X hlk hr dX3_readSingle_44 h
    · rw [if_neg c19] at h
      exact hj18 _ h
def grp_X3_readLevel : Nat → Nat → List Int32 → St → Option (Int32 × St)
  | 0, _, _, _ => none
  | n + 1, 0, [a1, a2], s => bd1 (fX3_readLevel (grp_X3_readLevel n) a1 a2 s) fun t => some (0, t)
  | n + 1, 1, [a1], s => bd1 (fX3_readOpened (grp_X3_readLevel n) a1 s) fun t => some (0, t)
  | n + 1, 2, [a1], s => bd1 (fX3_readSingle (grp_X3_readLevel n) a1 s) fun t => some (0, t)
  | _ + 1, _, _, _ => none
set_option maxHeartbeats 4000000 in
set_option maxRecDepth 100000 in
theorem grp_X3_readLevel_ok (l : Launch) (E : EE) : ∀ n : Nat, (∀ (a1 : Int32) (a2 : Int32) (s : St) (r : Int32) (t : St), grp_X3_readLevel n 0 [a1, a2] s = some (r, t) → Ct l E layC yX3_readLevel cX3_readLevel 6 none (n + 3) [.ref (ea E 52), .int a1, .int a2] s none t) ∧ (∀ (a1 : Int32) (s : St) (r : Int32) (t : St), grp_X3_readLevel n 1 [a1] s = some (r, t) → Ct l E layC yX3_readOpened cX3_readOpened 3 none (n + 3) [.ref (ea E 52), .int a1] s none t) ∧ (∀ (a1 : Int32) (s : St) (r : Int32) (t : St), grp_X3_readLevel n 2 [a1] s = some (r, t) → Ct l E layC yX3_readSingle cX3_readSingle 2 none (n + 3) [.ref (ea E 52), .int a1] s none t) := by
  intro n
  induction n with
  | zero =>
    refine ⟨(fun _ _ _ _ _ h => by cases h), (fun _ _ _ _ h => by cases h), (fun _ _ _ _ h => by cases h)⟩
  | succ n ih =>
    obtain ⟨h0, h1, h2⟩ := ih
    refine ⟨?_, ?_, ?_⟩
    · intro z0 z1 s r t h
      obtain ⟨t1, e1, h⟩ := bd1_ok h
      cases h
      rw [show n + 1 + 3 = n + 3 + 1 by omega]
      exact ctX3_readLevel_s (Nat.le_add_left _ _) h0 h1 h2 e1
    · intro z0 s r t h
      obtain ⟨t1, e1, h⟩ := bd1_ok h
      cases h
      rw [show n + 1 + 3 = n + 3 + 1 by omega]
      exact ctX3_readOpened_s (Nat.le_add_left _ _) h0 h1 h2 e1
    · intro z0 s r t h
      obtain ⟨t1, e1, h⟩ := bd1_ok h
      cases h
      rw [show n + 1 + 3 = n + 3 + 1 by omega]
      exact ctX3_readSingle_s (Nat.le_add_left _ _) h0 h1 h2 e1
theorem ctX3_readLevel {l : Launch} {E : EE} {a1 : Int32} {a2 : Int32} {s t : St} {r : Int32} (h : grp_X3_readLevel RF 0 [a1, a2] s = some (r, t)) : Ct l E layC yX3_readLevel cX3_readLevel 6 none 103 [.ref (ea E 52), .int a1, .int a2] s none t := (grp_X3_readLevel_ok l E RF).1 _ _ _ _ _ h
theorem ctX3_readOpened {l : Launch} {E : EE} {a1 : Int32} {s t : St} {r : Int32} (h : grp_X3_readLevel RF 1 [a1] s = some (r, t)) : Ct l E layC yX3_readOpened cX3_readOpened 3 none 103 [.ref (ea E 52), .int a1] s none t := (grp_X3_readLevel_ok l E RF).2.1 _ _ _ _ h
theorem ctX3_readSingle {l : Launch} {E : EE} {a1 : Int32} {s t : St} {r : Int32} (h : grp_X3_readLevel RF 2 [a1] s = some (r, t)) : Ct l E layC yX3_readSingle cX3_readSingle 2 none 103 [.ref (ea E 52), .int a1] s none t := (grp_X3_readLevel_ok l E RF).2.2 _ _ _ _ h
/-! X3_faultFor -/
theorem nX3_faultFor : yX3_faultFor.cls ≠ "java/lang/invoke/MethodHandle" ∧ yX3_faultFor.cls ≠ "java/lang/invoke/VarHandle" ∧ (parseMethodDescriptor yX3_faultFor.desc).map (fun d => d.parameters.length) = some 1 := by decide +kernel
theorem kX3_faultFor {l : Launch} {E : EE} {p : Program} {e : Env} {ms : State} {m : MethodId} {args : Array Value} {below : List Frame} {meth : Method} {c : Code} {cc : ByteArray} {own : String} {nL pc idx d D : Nat} {Q : State → Prop} {L : List (Nat × Value)} {rest : List Value} {σ τ : St} {a1 : Int32} {r : Int32} {fl : List (Option Nat)} (X : Cx E layC p ms m args c cc own nL) (hM : Ct l E layC yX3_faultFor cX3_faultFor 2 (some .int) d [.ref (ea E 52), .int a1] σ (some (.int r)) τ) (hd : decode cc pc = .ok (.invokevirtual idx, 3)) (hlay : layC[52]? = some (.inl (2, fl))) (w1 : Cond.methodLink own idx yX3_faultFor ∈ gw) (hR : d + 1 ≤ D) (hrs : (rest.map fun v => v.category).sum ≤ 8) (k : AW E layC p l e (rmD D) ms m args below meth c nL 0 0 Q (pc + 3) L (.int r :: rest) τ) : AW E layC p l e (rmD D) ms m args below meth c nL 0 0 Q pc L (.int a1 :: .ref (ea E 52) :: rest) σ :=
  s_callV X [.int a1] rest hM hd v_X3 hlay w1 g_458 g_459 g_74 g_460 nX3_faultFor rfl rfl hrs (Nat.le_of_ble_eq_true rfl) hR k
def fX3_faultFor (a1 : Int32) (s0 : St) : Option (Int32 × St) :=
    bd1 (ptf s0 52 2 a1) fun s1 =>
    bd1 (ptf s1 52 3 0) fun s2 =>
    bd1 (ptf s2 52 4 0) fun s3 =>
    bd1 (ptf s3 53 1 0) fun s4 =>
    bd2 (grp_X3_readLevel RF 0 [0, 0] s4) fun u7 s5 =>
    jn (fun (_ : Unit) =>
    some (s5 52 3, s5)) fun j50 =>
    if (s5 52 4) = 0 then
    if (s5 12 1) ≤ (s5 52 3) then
    some ((-1), s5)
    else
    j50 ()
    else
    j50 ()
set_option maxHeartbeats 4000000 in
set_option maxRecDepth 100000 in
theorem ctX3_faultFor {l : Launch} {E : EE} {a1 : Int32} {s0 : St} {r9 : Int32} {t9 : St}  (h : fX3_faultFor a1 s0 = some (r9, t9)) : Ct l E layC yX3_faultFor cX3_faultFor 2 (some .int) 104 [.ref (ea E 52), .int a1] s0 (some (.int r9)) t9 := by
  refine Ct.of (by decide) (Nat.le_of_ble_eq_true rfl) ?_
  intro p e ms m below meth c X hlk hr
  have X : Cx E layC p ms m [.ref (ea E 52), .int a1].toArray c cX3_faultFor RX3 2 := X
  refine r_sub (L' := [(0, .ref (ea E 52)), (1, .int a1)]) [0, 1] rfl ?_
  unfold fX3_faultFor at h
  refine r_aload_n X dX3_faultFor_0 0 rfl rfl ?_
  refine r_iload_n X dX3_faultFor_1 1 rfl rfl ?_
  obtain ⟨s1, es1, h⟩ := pt_ok h
  refine s_puti X dX3_faultFor_2 i_X3 tyX3_ok nmX3 v_X3 lC_52 2 rfl (Nat.le_of_ble_eq_true rfl) g_237 rfl rfl ⟨rfl, rfl⟩ es1 ?_
  refine r_aload_n X dX3_faultFor_5 0 rfl rfl ?_
  refine r_iconst X dX3_faultFor_6 (v := 0) (by decide) ?_
  obtain ⟨s2, es2, h⟩ := pt_ok h
  refine s_puti X dX3_faultFor_7 i_X3 tyX3_ok nmX3 v_X3 lC_52 3 rfl (Nat.le_of_ble_eq_true rfl) g_238 rfl rfl ⟨rfl, rfl⟩ es2 ?_
  refine r_aload_n X dX3_faultFor_10 0 rfl rfl ?_
  refine r_iconst X dX3_faultFor_11 (v := 0) (by decide) ?_
  obtain ⟨s3, es3, h⟩ := pt_ok h
  refine s_puti X dX3_faultFor_12 i_X3 tyX3_ok nmX3 v_X3 lC_52 4 rfl (Nat.le_of_ble_eq_true rfl) g_239 rfl rfl (by decide) es3 ?_
  refine r_aload_n X dX3_faultFor_15 0 rfl rfl ?_
  refine r_getr X dX3_faultFor_16 i_X3 v_X3 lC_52 0 rfl (Nat.le_of_ble_eq_true rfl) g_234 ?_
  refine r_iconst X dX3_faultFor_19 (v := 0) (by decide) ?_
  obtain ⟨s4, es4, h⟩ := pt_ok h
  refine s_puti X dX3_faultFor_20 i_X4 tyX4_ok nmX4 v_X4 lC_53 1 rfl (Nat.le_of_ble_eq_true rfl) g_167 rfl rfl ⟨rfl, rfl⟩ es4 ?_
  refine r_aload_n X dX3_faultFor_23 0 rfl rfl ?_
  refine r_iconst X dX3_faultFor_24 (v := 0) (by decide) ?_
  refine r_iconst X dX3_faultFor_25 (v := 0) (by decide) ?_
  obtain ⟨u7, s5, e6, h⟩ := bd2_ok h
  refine kX3_readLevel X (ctX3_readLevel e6) dX3_faultFor_26 lC_52 g_461 (Nat.le_of_ble_eq_true rfl) (Nat.le_of_ble_eq_true rfl) ?_
  refine r_aload_n X dX3_faultFor_29 0 rfl rfl ?_
  refine r_geti X dX3_faultFor_30 i_X3 v_X3 lC_52 4 rfl (Nat.le_of_ble_eq_true rfl) g_239 ?_
  obtain ⟨j50, ej50, h⟩ := jn1_ok h
  have hj50 : ∀ (u : Unit), j50 u = some (r9, t9) → AW E layC p l e (rmD 104) ms m [.ref (ea E 52), .int a1].toArray below meth c 2 0 0 (MQc E layC below [.ref (ea E 52), .int a1].toArray ms (some (.int r9)) t9) 50 [(0, .ref (ea E 52))] [] s5 := by
    intro u h
    rw [ej50] at h
    refine r_aload_n X dX3_faultFor_50 0 rfl rfl ?_
    refine r_geti X dX3_faultFor_51 i_X3 v_X3 lC_52 3 rfl (Nat.le_of_ble_eq_true rfl) g_238 ?_
    refine r_goto X 58 dX3_faultFor_54 (by decide) ?_
    exact s_iret X hlk hr dX3_faultFor_58 h
  refine r_if_ne X 50 dX3_faultFor_33 (by decide) (fun c9 => ?_) (fun c9 => ?_)
  · rw [if_neg c9] at h
    refine r_sub (L' := [(0, .ref (ea E 52))]) [0] rfl ?_
    exact hj50 _ h
  · rw [if_pos c9] at h
    refine r_aload_n X dX3_faultFor_36 0 rfl rfl ?_
    refine r_geti X dX3_faultFor_37 i_X3 v_X3 lC_52 3 rfl (Nat.le_of_ble_eq_true rfl) g_238 ?_
    refine r_aload_n X dX3_faultFor_40 0 rfl rfl ?_
    refine r_getr X dX3_faultFor_41 i_X3 v_X3 lC_52 1 rfl (Nat.le_of_ble_eq_true rfl) g_236 ?_
    refine r_geti X dX3_faultFor_44 i_X4 v_X4 lC_12 1 rfl (Nat.le_of_ble_eq_true rfl) g_167 ?_
    refine r_icmp_ge X 57 dX3_faultFor_47 (by decide) (fun c8 => ?_) (fun c8 => ?_)
    · rw [if_pos c8] at h
      refine r_iconst X dX3_faultFor_57 (v := (-1)) (by decide) ?_
      exact s_iret X hlk hr dX3_faultFor_58 h
    · rw [if_neg c8] at h
      refine r_sub (L' := [(0, .ref (ea E 52))]) [0] rfl ?_
      exact hj50 _ h
/-! X4_copyFrom -/
theorem nX4_copyFrom : yX4_copyFrom.cls ≠ "java/lang/invoke/MethodHandle" ∧ yX4_copyFrom.cls ≠ "java/lang/invoke/VarHandle" ∧ (parseMethodDescriptor yX4_copyFrom.desc).map (fun d => d.parameters.length) = some 1 := by decide +kernel
theorem kX4_copyFrom {l : Launch} {E : EE} {p : Program} {e : Env} {ms : State} {m : MethodId} {args : Array Value} {below : List Frame} {meth : Method} {c : Code} {cc : ByteArray} {own : String} {nL pc idx d D : Nat} {Q : State → Prop} {L : List (Nat × Value)} {rest : List Value} {σ τ : St} {b0 : Nat} {b1 : Nat}  {fl : List (Option Nat)} (X : Cx E layC p ms m args c cc own nL) (hM : Ct l E layC yX4_copyFrom cX4_copyFrom 2 none d [.ref (ea E b0), .ref (ea E b1)] σ none τ) (hd : decode cc pc = .ok (.invokevirtual idx, 3)) (hlay : layC[b0]? = some (.inl (3, fl))) (w1 : Cond.methodLink own idx yX4_copyFrom ∈ gw) (hR : d + 1 ≤ D) (hrs : (rest.map fun v => v.category).sum ≤ 8) (k : AW E layC p l e (rmD D) ms m args below meth c nL 0 0 Q (pc + 3) L rest τ) : AW E layC p l e (rmD D) ms m args below meth c nL 0 0 Q pc L (.ref (ea E b1) :: .ref (ea E b0) :: rest) σ :=
  s_callV X [.ref (ea E b1)] rest hM hd v_X4 hlay w1 g_502 g_503 g_70 g_504 nX4_copyFrom rfl rfl hrs (Nat.le_of_ble_eq_true rfl) hR k
def fX4_copyFrom (b0 : Nat) (b1 : Nat) (s0 : St) : Option (St) :=
    bd1 (ptf s0 b0 1 (imn (s0 b1 1) (Int32.ofNat (rl b0)))) fun s1 =>
    bd1 (acp s1 (b1 + 1) (rl b1) 0 (b0 + 1) (rl b0) 0 (s1 b0 1)) fun s2 =>
    some s2
set_option maxHeartbeats 4000000 in
set_option maxRecDepth 100000 in
theorem ctX4_copyFrom {l : Launch} {E : EE} {b0 : Nat} {b1 : Nat} {s0 : St} {t9 : St} (hb0 : isR b0) (hb1 : isR b1) (h : fX4_copyFrom b0 b1 s0 = some t9) : Ct l E layC yX4_copyFrom cX4_copyFrom 2 none 1 [.ref (ea E b0), .ref (ea E b1)] s0 none t9 := by
  refine Ct.of (by decide) (Nat.le_of_ble_eq_true rfl) ?_
  intro p e ms m below meth c X hlk hr
  have X : Cx E layC p ms m [.ref (ea E b0), .ref (ea E b1)].toArray c cX4_copyFrom RX4 2 := X
  refine r_sub (L' := [(0, .ref (ea E b0)), (1, .ref (ea E b1))]) [0, 1] rfl ?_
  unfold fX4_copyFrom at h
  refine r_aload_n X dX4_copyFrom_0 0 rfl rfl ?_
  refine r_aload_n X dX4_copyFrom_1 1 rfl rfl ?_
  refine r_geti X dX4_copyFrom_2 i_X4 v_X4 (lR0 hb1) 1 rfl (Nat.le_of_ble_eq_true rfl) g_166 ?_
  refine r_aload_n X dX4_copyFrom_5 0 rfl rfl ?_
  refine r_getr X dX4_copyFrom_6 i_X4 v_X4 (lR0 hb0) 0 rfl (Nat.le_of_ble_eq_true rfl) g_162 ?_
  refine r_alen X dX4_copyFrom_9 (lR1 hb0) ?_
  refine s_mmin X dX4_copyFrom_10 g_505 g_419 g_71 g_420 (Nat.le_of_ble_eq_true rfl) (Nat.le_of_ble_eq_true rfl) ?_
  obtain ⟨s1, es1, h⟩ := pt_ok h
  refine s_puti X dX4_copyFrom_13 i_X4 tyX4_ok nmX4 v_X4 (lR0 hb0) 1 rfl (Nat.le_of_ble_eq_true rfl) g_166 rfl rfl ⟨rfl, rfl⟩ es1 ?_
  refine r_aload_n X dX4_copyFrom_16 1 rfl rfl ?_
  refine r_getr X dX4_copyFrom_17 i_X4 v_X4 (lR0 hb1) 0 rfl (Nat.le_of_ble_eq_true rfl) g_162 ?_
  refine r_iconst X dX4_copyFrom_20 (v := 0) (by decide) ?_
  refine r_aload_n X dX4_copyFrom_21 0 rfl rfl ?_
  refine r_getr X dX4_copyFrom_22 i_X4 v_X4 (lR0 hb0) 0 rfl (Nat.le_of_ble_eq_true rfl) g_162 ?_
  refine r_iconst X dX4_copyFrom_25 (v := 0) (by decide) ?_
  refine r_aload_n X dX4_copyFrom_26 0 rfl rfl ?_
  refine r_geti X dX4_copyFrom_27 i_X4 v_X4 (lR0 hb0) 1 rfl (Nat.le_of_ble_eq_true rfl) g_166 ?_
  obtain ⟨g3, s2, es2, h⟩ := cp_ok h
  refine s_copy X dX4_copyFrom_30 g_506 g_508 g_507 g_79 (lR1 hb1) (lR1 hb0) g3 (Nat.le_of_ble_eq_true rfl) (Nat.le_of_ble_eq_true rfl) es2 ?_
  exact s_vret X hlk hr dX4_copyFrom_33 h
/-! J7_fill_53178 -/
theorem nJ7_fill_53178 : yJ7_fill_53178.cls ≠ "java/lang/invoke/MethodHandle" ∧ yJ7_fill_53178.cls ≠ "java/lang/invoke/VarHandle" ∧ (parseMethodDescriptor yJ7_fill_53178.desc).map (fun d => d.parameters.length) = some 2 := by decide +kernel
theorem kJ7_fill_53178 {l : Launch} {E : EE} {p : Program} {e : Env} {ms : State} {m : MethodId} {args : Array Value} {below : List Frame} {meth : Method} {c : Code} {cc : ByteArray} {own : String} {nL pc idx d D : Nat} {Q : State → Prop} {L : List (Nat × Value)} {rest : List Value} {σ τ : St} {k0 : Nat} {a1 : Int32}  (X : Cx E layC p ms m args c cc own nL) (hM : Ct l E layC yJ7_fill_53178 cJ7_fill_53178 4 none d [.ref (ea E k0), .int a1] σ none τ) (hd : decode cc pc = .ok (.invokestatic idx, 3)) (w1 : Cond.methodLink own idx yJ7_fill_53178 ∈ gw) (hR : d + 1 ≤ D) (hrs : (rest.map fun v => v.category).sum ≤ 8) (k : AW E layC p l e (rmD D) ms m args below meth c nL 0 0 Q (pc + 3) L rest τ) : AW E layC p l e (rmD D) ms m args below meth c nL 0 0 Q pc L (.int a1 :: .ref (ea E k0) :: rest) σ :=
  s_callS X [.ref (ea E k0), .int a1] rest hM hd w1 g_616 g_73 g_617 nJ7_fill_53178 rfl rfl hrs (Nat.le_of_ble_eq_true rfl) hR k
def fJ7_fill_53178_5 (k0 n0 : Nat) (a1 : Int32) (a3 : Int32) : Nat → Int32 → St → Option (St)
  | 0, _, _ => none
  | n + 1, a2, s0 =>
    if a3 ≤ a2 then
    some s0
    else
    bd1 (ast s0 k0 n0 a2 a1) fun s2 =>
    fJ7_fill_53178_5 k0 n0 a1 a3 n (a2 + 1) s2
def fJ7_fill_53178 (k0 n0 : Nat) (a1 : Int32) (s0 : St) : Option (St) :=
    bd1 (fJ7_fill_53178_5 k0 n0 a1 (Int32.ofNat n0) FU 0 s0) fun s4 =>
    some s4
set_option maxHeartbeats 4000000 in
set_option maxRecDepth 100000 in
theorem LJ7_fill_53178_5 {l : Launch} {E : EE} {p : Program} {e : Env} {ms : State} {m : MethodId} {args : Array Value} {below : List Frame} {meth : Method} {c : Code} {k0 n0 : Nat} {a1 : Int32} {a3 : Int32} {Q : State → Prop} (X : Cx E layC p ms m args c cJ7_fill_53178 RJ7 4) (hk0 : layC[k0]? = some (.inr (0, n0))) : ∀ (n : Nat) (a2 : Int32) (s0 : St)  (t8 : St), fJ7_fill_53178_5 k0 n0 a1 a3 n a2 s0 = some t8 → AW E layC p l e (rmD 0) ms m args below meth c 4 0 0 Q 20 [] [] t8 → AW E layC p l e (rmD 0) ms m args below meth c 4 0 0 Q 5 [(0, .ref (ea E k0)), (1, .int a1), (2, .int a2), (3, .int a3)] [] s0 := by
  intro n
  induction n with
  | zero =>
    intro a2 s0 t8 h hE
    cases h
  | succ n ih =>
    intro a2 s0 t8 h hE
    rw [fJ7_fill_53178_5] at h
    refine r_iload_n X dJ7_fill_53178_5 2 rfl rfl ?_
    refine r_iload_n X dJ7_fill_53178_6 3 rfl rfl ?_
    refine r_icmp_ge X 20 dJ7_fill_53178_7 (by decide) (fun c3 => ?_) (fun c3 => ?_)
    · rw [if_pos c3] at h
      refine r_sub (L' := []) [] rfl ?_
      cases h
      exact hE
    · rw [if_neg c3] at h
      refine r_aload_n X dJ7_fill_53178_10 0 rfl rfl ?_
      refine r_iload_n X dJ7_fill_53178_11 2 rfl rfl ?_
      refine r_iload_n X dJ7_fill_53178_12 1 rfl rfl ?_
      obtain ⟨g1, s2, es2, h⟩ := as_ok h
      refine s_iast X dJ7_fill_53178_13 hk0 g1 es2 ?_
      refine r_iinc (L' := [(0, .ref (ea E k0)), (1, .int a1), (2, .int (a2 + 1)), (3, .int a3)]) (v := a2 + 1) X dJ7_fill_53178_14 2 rfl rfl [1, 2, 0, 3] rfl (Nat.le_of_ble_eq_true rfl) ?_
      refine r_goto X 5 dJ7_fill_53178_17 (by decide) ?_
      exact ih _ _ _ h hE
set_option maxHeartbeats 4000000 in
set_option maxRecDepth 100000 in
theorem ctJ7_fill_53178 {l : Launch} {E : EE} {k0 n0 : Nat} {a1 : Int32} {s0 : St} {t9 : St} (hk0 : layC[k0]? = some (.inr (0, n0))) (h : fJ7_fill_53178 k0 n0 a1 s0 = some t9) : Ct l E layC yJ7_fill_53178 cJ7_fill_53178 4 none 0 [.ref (ea E k0), .int a1] s0 none t9 := by
  refine Ct.of (by decide) (Nat.le_of_ble_eq_true rfl) ?_
  intro p e ms m below meth c X hlk hr
  have X : Cx E layC p ms m [.ref (ea E k0), .int a1].toArray c cJ7_fill_53178 RJ7 4 := X
  refine r_sub (L' := [(0, .ref (ea E k0)), (1, .int a1)]) [0, 1] rfl ?_
  unfold fJ7_fill_53178 at h
  refine r_iconst X dJ7_fill_53178_0 (v := 0) (by decide) ?_
  refine r_istore_n (L' := [(0, .ref (ea E k0)), (1, .int a1), (2, .int 0)]) X dJ7_fill_53178_1 [1, 2, 0] rfl rfl (Nat.le_of_ble_eq_true rfl) ?_
  refine r_aload_n X dJ7_fill_53178_2 0 rfl rfl ?_
  refine r_alen X dJ7_fill_53178_3 hk0 ?_
  refine r_istore_n (L' := [(0, .ref (ea E k0)), (1, .int a1), (2, .int 0), (3, .int (Int32.ofNat n0))]) X dJ7_fill_53178_4 [1, 2, 3, 0] rfl rfl (Nat.le_of_ble_eq_true rfl) ?_
  obtain ⟨s4, eo, h⟩ := bd1_ok h
  refine LJ7_fill_53178_5 X hk0 FU _ _ _ eo ?_
  exact s_vret X hlk hr dJ7_fill_53178_20 h
/-! X5_lay -/
theorem nX5_lay : yX5_lay.cls ≠ "java/lang/invoke/MethodHandle" ∧ yX5_lay.cls ≠ "java/lang/invoke/VarHandle" ∧ (parseMethodDescriptor yX5_lay.desc).map (fun d => d.parameters.length) = some 2 := by decide +kernel
theorem kX5_lay {l : Launch} {E : EE} {p : Program} {e : Env} {ms : State} {m : MethodId} {args : Array Value} {below : List Frame} {meth : Method} {c : Code} {cc : ByteArray} {own : String} {nL pc idx d D : Nat} {Q : State → Prop} {L : List (Nat × Value)} {rest : List Value} {σ τ : St} {b0 : Nat} {a1 : Int32} {a2 : Int32}  {fl : List (Option Nat)} (X : Cx E layC p ms m args c cc own nL) (hM : Ct l E layC yX5_lay cX5_lay 3 none d [.ref (ea E b0), .int a1, .int a2] σ none τ) (hd : decode cc pc = .ok (.invokevirtual idx, 3)) (hlay : layC[b0]? = some (.inl (4, fl))) (w1 : Cond.methodLink own idx yX5_lay ∈ gw) (hR : d + 1 ≤ D) (hrs : (rest.map fun v => v.category).sum ≤ 8) (k : AW E layC p l e (rmD D) ms m args below meth c nL 0 0 Q (pc + 3) L rest τ) : AW E layC p l e (rmD D) ms m args below meth c nL 0 0 Q pc L (.int a2 :: .int a1 :: .ref (ea E b0) :: rest) σ :=
  s_callV X [.int a1, .int a2] rest hM hd v_X5 hlay w1 g_696 g_697 g_76 g_698 nX5_lay rfl rfl hrs (Nat.le_of_ble_eq_true rfl) hR k
def fX5_lay (b0 : Nat) (a1 : Int32) (a2 : Int32) (s0 : St) : Option (St) :=
    bd1 (ptf s0 b0 2 a1) fun s1 =>
    bd1 (ptf s1 b0 1 a2) fun s2 =>
    bd1 (fJ7_fill_53178 (b0 + 1) 40 0 s2) fun s3 =>
    some s3
set_option maxHeartbeats 4000000 in
set_option maxRecDepth 100000 in
theorem ctX5_lay {l : Launch} {E : EE} {b0 : Nat} {a1 : Int32} {a2 : Int32} {s0 : St} {t9 : St} (hb0 : isS b0) (h : fX5_lay b0 a1 a2 s0 = some t9) : Ct l E layC yX5_lay cX5_lay 3 none 1 [.ref (ea E b0), .int a1, .int a2] s0 none t9 := by
  refine Ct.of (by decide) (Nat.le_of_ble_eq_true rfl) ?_
  intro p e ms m below meth c X hlk hr
  have X : Cx E layC p ms m [.ref (ea E b0), .int a1, .int a2].toArray c cX5_lay RX5 3 := X
  refine r_sub (L' := [(0, .ref (ea E b0)), (1, .int a1), (2, .int a2)]) [0, 1, 2] rfl ?_
  unfold fX5_lay at h
  refine r_aload_n X dX5_lay_0 0 rfl rfl ?_
  refine r_iload_n X dX5_lay_1 1 rfl rfl ?_
  obtain ⟨s1, es1, h⟩ := pt_ok h
  refine s_puti X dX5_lay_2 i_X5 tyX5_ok nmX5 v_X5 (lS0 hb0) 2 rfl (Nat.le_of_ble_eq_true rfl) g_284 rfl rfl ⟨rfl, rfl⟩ es1 ?_
  refine r_aload_n X dX5_lay_5 0 rfl rfl ?_
  refine r_iload_n X dX5_lay_6 2 rfl rfl ?_
  obtain ⟨s2, es2, h⟩ := pt_ok h
  refine s_puti X dX5_lay_7 i_X5 tyX5_ok nmX5 v_X5 (lS0 hb0) 1 rfl (Nat.le_of_ble_eq_true rfl) g_282 rfl rfl ⟨rfl, rfl⟩ es2 ?_
  refine r_aload_n X dX5_lay_10 0 rfl rfl ?_
  refine r_getr X dX5_lay_11 i_X5 v_X5 (lS0 hb0) 0 rfl (Nat.le_of_ble_eq_true rfl) g_280 ?_
  refine r_iconst X dX5_lay_14 (v := 0) (by decide) ?_
  obtain ⟨s3, e4, h⟩ := bd1_ok h
  refine kJ7_fill_53178 X (ctJ7_fill_53178 (lS1 hb0) e4) dX5_lay_15 g_699 (Nat.le_of_ble_eq_true rfl) (Nat.le_of_ble_eq_true rfl) ?_
  exact s_vret X hlk hr dX5_lay_18 h
/-! X5_write -/
theorem nX5_write : yX5_write.cls ≠ "java/lang/invoke/MethodHandle" ∧ yX5_write.cls ≠ "java/lang/invoke/VarHandle" ∧ (parseMethodDescriptor yX5_write.desc).map (fun d => d.parameters.length) = some 2 := by decide +kernel
theorem kX5_write {l : Launch} {E : EE} {p : Program} {e : Env} {ms : State} {m : MethodId} {args : Array Value} {below : List Frame} {meth : Method} {c : Code} {cc : ByteArray} {own : String} {nL pc idx d D : Nat} {Q : State → Prop} {L : List (Nat × Value)} {rest : List Value} {σ τ : St} {b0 : Nat} {a1 : Int32} {a2 : Int32}  {fl : List (Option Nat)} (X : Cx E layC p ms m args c cc own nL) (hM : Ct l E layC yX5_write cX5_write 3 none d [.ref (ea E b0), .int a1, .int a2] σ none τ) (hd : decode cc pc = .ok (.invokevirtual idx, 3)) (hlay : layC[b0]? = some (.inl (4, fl))) (w1 : Cond.methodLink own idx yX5_write ∈ gw) (hR : d + 1 ≤ D) (hrs : (rest.map fun v => v.category).sum ≤ 8) (k : AW E layC p l e (rmD D) ms m args below meth c nL 0 0 Q (pc + 3) L rest τ) : AW E layC p l e (rmD D) ms m args below meth c nL 0 0 Q pc L (.int a2 :: .int a1 :: .ref (ea E b0) :: rest) σ :=
  s_callV X [.int a1, .int a2] rest hM hd v_X5 hlay w1 g_705 g_706 g_76 g_707 nX5_write rfl rfl hrs (Nat.le_of_ble_eq_true rfl) hR k
def fX5_write (b0 : Nat) (a1 : Int32) (a2 : Int32) (s0 : St) : Option (St) :=
    if (s0 b0 2) = 32 then
    bd1 (ast s0 (b0 + 1) 40 a1 a2) fun s4 =>
    some s4
    else
    bd1 (ast s0 (b0 + 1) 40 a1 (a2 &&& ((shl 1 (s0 b0 2)) - 1))) fun s2 =>
    some s2
set_option maxHeartbeats 4000000 in
set_option maxRecDepth 100000 in
theorem ctX5_write {l : Launch} {E : EE} {b0 : Nat} {a1 : Int32} {a2 : Int32} {s0 : St} {t9 : St} (hb0 : isS b0) (h : fX5_write b0 a1 a2 s0 = some t9) : Ct l E layC yX5_write cX5_write 3 none 0 [.ref (ea E b0), .int a1, .int a2] s0 none t9 := by
  refine Ct.of (by decide) (Nat.le_of_ble_eq_true rfl) ?_
  intro p e ms m below meth c X hlk hr
  have X : Cx E layC p ms m [.ref (ea E b0), .int a1, .int a2].toArray c cX5_write RX5 3 := X
  refine r_sub (L' := [(0, .ref (ea E b0)), (1, .int a1), (2, .int a2)]) [0, 1, 2] rfl ?_
  unfold fX5_write at h
  refine r_aload_n X dX5_write_0 0 rfl rfl ?_
  refine r_getr X dX5_write_1 i_X5 v_X5 (lS0 hb0) 0 rfl (Nat.le_of_ble_eq_true rfl) g_280 ?_
  refine r_iload_n X dX5_write_4 1 rfl rfl ?_
  refine r_aload_n X dX5_write_5 0 rfl rfl ?_
  refine r_geti X dX5_write_6 i_X5 v_X5 (lS0 hb0) 2 rfl (Nat.le_of_ble_eq_true rfl) g_284 ?_
  refine r_bipush X dX5_write_9 (v := 32) (by decide) ?_
  refine r_icmp_ne X 18 dX5_write_11 (by decide) (fun c5 => ?_) (fun c5 => ?_)
  · rw [if_neg c5] at h
    refine r_iload_n X dX5_write_18 2 rfl rfl ?_
    refine r_iconst X dX5_write_19 (v := 1) (by decide) ?_
    refine r_aload_n X dX5_write_20 0 rfl rfl ?_
    refine r_geti X dX5_write_21 i_X5 v_X5 (lS0 hb0) 2 rfl (Nat.le_of_ble_eq_true rfl) g_284 ?_
    refine s_ishl X dX5_write_24 ?_
    refine r_iconst X dX5_write_25 (v := 1) (by decide) ?_
    refine r_isub X dX5_write_26 ?_
    refine r_iand X dX5_write_27 ?_
    obtain ⟨g1, s2, es2, h⟩ := as_ok h
    refine s_iast X dX5_write_28 (lS1 hb0) g1 es2 ?_
    exact s_vret X hlk hr dX5_write_29 h
  · rw [if_pos c5] at h
    refine r_iload_n X dX5_write_14 2 rfl rfl ?_
    refine r_goto X 28 dX5_write_15 (by decide) ?_
    obtain ⟨g3, s4, es4, h⟩ := as_ok h
    refine s_iast X dX5_write_28 (lS1 hb0) g3 es4 ?_
    exact s_vret X hlk hr dX5_write_29 h
/-! X5_holds -/
theorem nX5_holds : yX5_holds.cls ≠ "java/lang/invoke/MethodHandle" ∧ yX5_holds.cls ≠ "java/lang/invoke/VarHandle" ∧ (parseMethodDescriptor yX5_holds.desc).map (fun d => d.parameters.length) = some 2 := by decide +kernel
theorem kX5_holds {l : Launch} {E : EE} {p : Program} {e : Env} {ms : State} {m : MethodId} {args : Array Value} {below : List Frame} {meth : Method} {c : Code} {cc : ByteArray} {own : String} {nL pc idx d D : Nat} {Q : State → Prop} {L : List (Nat × Value)} {rest : List Value} {σ τ : St} {b0 : Nat} {a1 : Int32} {a2 : Int32} {r : Int32} {fl : List (Option Nat)} (X : Cx E layC p ms m args c cc own nL) (hM : Ct l E layC yX5_holds cX5_holds 3 (some .boolean) d [.ref (ea E b0), .int a1, .int a2] σ (some (.int r)) τ) (hd : decode cc pc = .ok (.invokevirtual idx, 3)) (hlay : layC[b0]? = some (.inl (4, fl))) (w1 : Cond.methodLink own idx yX5_holds ∈ gw) (hR : d + 1 ≤ D) (hrs : (rest.map fun v => v.category).sum ≤ 8) (k : AW E layC p l e (rmD D) ms m args below meth c nL 0 0 Q (pc + 3) L (.int r :: rest) τ) : AW E layC p l e (rmD D) ms m args below meth c nL 0 0 Q pc L (.int a2 :: .int a1 :: .ref (ea E b0) :: rest) σ :=
  s_callV X [.int a1, .int a2] rest hM hd v_X5 hlay w1 g_713 g_714 g_76 g_715 nX5_holds rfl rfl hrs (Nat.le_of_ble_eq_true rfl) hR k
def fX5_holds (b0 : Nat) (a1 : Int32) (a2 : Int32) (s0 : St) : Option (Int32 × St) :=
    jn (fun (_ : Unit) =>
    some (0, s0)) fun j22 =>
    if a2 < 0 then
    j22 ()
    else
    if a1 < 0 then
    j22 ()
    else
    if ((s0 b0 1) - a2) < a1 then
    j22 ()
    else
    some (1, s0)
set_option maxHeartbeats 4000000 in
set_option maxRecDepth 100000 in
theorem ctX5_holds {l : Launch} {E : EE} {b0 : Nat} {a1 : Int32} {a2 : Int32} {s0 : St} {r9 : Int32} {t9 : St} (hb0 : isS b0) (h : fX5_holds b0 a1 a2 s0 = some (r9, t9)) : Ct l E layC yX5_holds cX5_holds 3 (some .boolean) 0 [.ref (ea E b0), .int a1, .int a2] s0 (some (.int r9)) t9 := by
  refine Ct.of (by decide) (Nat.le_of_ble_eq_true rfl) ?_
  intro p e ms m below meth c X hlk hr
  have X : Cx E layC p ms m [.ref (ea E b0), .int a1, .int a2].toArray c cX5_holds RX5 3 := X
  refine r_sub (L' := [(0, .ref (ea E b0)), (1, .int a1), (2, .int a2)]) [0, 1, 2] rfl ?_
  unfold fX5_holds at h
  refine r_iload_n X dX5_holds_0 2 rfl rfl ?_
  obtain ⟨j22, ej22, h⟩ := jn1_ok h
  have hj22 : ∀ (u : Unit), j22 u = some (r9, t9) → AW E layC p l e (rmD 0) ms m [.ref (ea E b0), .int a1, .int a2].toArray below meth c 3 0 0 (MQc E layC below [.ref (ea E b0), .int a1, .int a2].toArray ms (some (.int r9)) t9) 22 [] [] s0 := by
    intro u h
    rw [ej22] at h
    refine r_iconst X dX5_holds_22 (v := 0) (by decide) ?_
    exact s_zret X hlk hr (by decide) dX5_holds_23 h
  refine r_if_lt X 22 dX5_holds_1 (by decide) (fun c3 => ?_) (fun c3 => ?_)
  · rw [if_pos c3] at h
    refine r_sub (L' := []) [] rfl ?_
    exact hj22 _ h
  · rw [if_neg c3] at h
    refine r_iload_n X dX5_holds_4 1 rfl rfl ?_
    refine r_if_lt X 22 dX5_holds_5 (by decide) (fun c2 => ?_) (fun c2 => ?_)
    · rw [if_pos c2] at h
      refine r_sub (L' := []) [] rfl ?_
      exact hj22 _ h
    · rw [if_neg c2] at h
      refine r_iload_n X dX5_holds_8 1 rfl rfl ?_
      refine r_aload_n X dX5_holds_9 0 rfl rfl ?_
      refine r_geti X dX5_holds_10 i_X5 v_X5 (lS0 hb0) 1 rfl (Nat.le_of_ble_eq_true rfl) g_282 ?_
      refine r_iload_n X dX5_holds_13 2 rfl rfl ?_
      refine r_isub X dX5_holds_14 ?_
      refine r_icmp_gt X 22 dX5_holds_15 (by decide) (fun c1 => ?_) (fun c1 => ?_)
      · rw [if_pos c1] at h
        refine r_sub (L' := []) [] rfl ?_
        exact hj22 _ h
      · rw [if_neg c1] at h
        refine r_iconst X dX5_holds_18 (v := 1) (by decide) ?_
        refine r_goto X 23 dX5_holds_19 (by decide) ?_
        exact s_zret X hlk hr (by decide) dX5_holds_23 h
/-! X6_say X6_sayAbove X6_sayFrom X6_spoken -/
theorem nX6_say : yX6_say.cls ≠ "java/lang/invoke/MethodHandle" ∧ yX6_say.cls ≠ "java/lang/invoke/VarHandle" ∧ (parseMethodDescriptor yX6_say.desc).map (fun d => d.parameters.length) = some 3 := by decide +kernel
theorem kX6_say {l : Launch} {E : EE} {p : Program} {e : Env} {ms : State} {m : MethodId} {args : Array Value} {below : List Frame} {meth : Method} {c : Code} {cc : ByteArray} {own : String} {nL pc idx d D : Nat} {Q : State → Prop} {L : List (Nat × Value)} {rest : List Value} {σ τ : St} {a1 : Int32} {a2 : Int32} {a3 : Int32} {r : Int32} {fl : List (Option Nat)} (X : Cx E layC p ms m args c cc own nL) (hM : Ct l E layC yX6_say cX6_say 4 (some .int) d [.ref (ea E 55), .int a1, .int a2, .int a3] σ (some (.int r)) τ) (hd : decode cc pc = .ok (.invokevirtual idx, 3)) (hlay : layC[55]? = some (.inl (5, fl))) (w1 : Cond.methodLink own idx yX6_say ∈ gw) (hR : d + 1 ≤ D) (hrs : (rest.map fun v => v.category).sum ≤ 8) (k : AW E layC p l e (rmD D) ms m args below meth c nL 0 0 Q (pc + 3) L (.int r :: rest) τ) : AW E layC p l e (rmD D) ms m args below meth c nL 0 0 Q pc L (.int a3 :: .int a2 :: .int a1 :: .ref (ea E 55) :: rest) σ :=
  s_callV X [.int a1, .int a2, .int a3] rest hM hd v_X6 hlay w1 g_669 g_16 g_75 g_670 nX6_say rfl rfl hrs (Nat.le_of_ble_eq_true rfl) hR k
theorem nX6_sayAbove : yX6_sayAbove.cls ≠ "java/lang/invoke/MethodHandle" ∧ yX6_sayAbove.cls ≠ "java/lang/invoke/VarHandle" ∧ (parseMethodDescriptor yX6_sayAbove.desc).map (fun d => d.parameters.length) = some 4 := by decide +kernel
theorem kX6_sayAbove {l : Launch} {E : EE} {p : Program} {e : Env} {ms : State} {m : MethodId} {args : Array Value} {below : List Frame} {meth : Method} {c : Code} {cc : ByteArray} {own : String} {nL pc idx d D : Nat} {Q : State → Prop} {L : List (Nat × Value)} {rest : List Value} {σ τ : St} {a1 : Int32} {a2 : Int32} {a3 : Int32} {a4 : Int32} {r : Int32} {fl : List (Option Nat)} (X : Cx E layC p ms m args c cc own nL) (hM : Ct l E layC yX6_sayAbove cX6_sayAbove 5 (some .int) d [.ref (ea E 55), .int a1, .int a2, .int a3, .int a4] σ (some (.int r)) τ) (hd : decode cc pc = .ok (.invokevirtual idx, 3)) (hlay : layC[55]? = some (.inl (5, fl))) (w1 : Cond.methodLink own idx yX6_sayAbove ∈ gw) (hR : d + 1 ≤ D) (hrs : (rest.map fun v => v.category).sum ≤ 8) (k : AW E layC p l e (rmD D) ms m args below meth c nL 0 0 Q (pc + 3) L (.int r :: rest) τ) : AW E layC p l e (rmD D) ms m args below meth c nL 0 0 Q pc L (.int a4 :: .int a3 :: .int a2 :: .int a1 :: .ref (ea E 55) :: rest) σ :=
  s_callV X [.int a1, .int a2, .int a3, .int a4] rest hM hd v_X6 hlay w1 g_684 g_19 g_75 g_685 nX6_sayAbove rfl rfl hrs (Nat.le_of_ble_eq_true rfl) hR k
theorem nX6_sayFrom : yX6_sayFrom.cls ≠ "java/lang/invoke/MethodHandle" ∧ yX6_sayFrom.cls ≠ "java/lang/invoke/VarHandle" ∧ (parseMethodDescriptor yX6_sayFrom.desc).map (fun d => d.parameters.length) = some 4 := by decide +kernel
theorem kX6_sayFrom {l : Launch} {E : EE} {p : Program} {e : Env} {ms : State} {m : MethodId} {args : Array Value} {below : List Frame} {meth : Method} {c : Code} {cc : ByteArray} {own : String} {nL pc idx d D : Nat} {Q : State → Prop} {L : List (Nat × Value)} {rest : List Value} {σ τ : St} {a1 : Int32} {a2 : Int32} {a3 : Int32} {a4 : Int32} {r : Int32} {fl : List (Option Nat)} (X : Cx E layC p ms m args c cc own nL) (hM : Ct l E layC yX6_sayFrom cX6_sayFrom 8 (some .int) d [.ref (ea E 55), .int a1, .int a2, .int a3, .int a4] σ (some (.int r)) τ) (hd : decode cc pc = .ok (.invokevirtual idx, 3)) (hlay : layC[55]? = some (.inl (5, fl))) (w1 : Cond.methodLink own idx yX6_sayFrom ∈ gw) (hR : d + 1 ≤ D) (hrs : (rest.map fun v => v.category).sum ≤ 8) (k : AW E layC p l e (rmD D) ms m args below meth c nL 0 0 Q (pc + 3) L (.int r :: rest) τ) : AW E layC p l e (rmD D) ms m args below meth c nL 0 0 Q pc L (.int a4 :: .int a3 :: .int a2 :: .int a1 :: .ref (ea E 55) :: rest) σ :=
  s_callV X [.int a1, .int a2, .int a3, .int a4] rest hM hd v_X6 hlay w1 g_673 g_17 g_75 g_674 nX6_sayFrom rfl rfl hrs (Nat.le_of_ble_eq_true rfl) hR k
theorem nX6_spoken : yX6_spoken.cls ≠ "java/lang/invoke/MethodHandle" ∧ yX6_spoken.cls ≠ "java/lang/invoke/VarHandle" ∧ (parseMethodDescriptor yX6_spoken.desc).map (fun d => d.parameters.length) = some 3 := by decide +kernel
theorem kX6_spoken {l : Launch} {E : EE} {p : Program} {e : Env} {ms : State} {m : MethodId} {args : Array Value} {below : List Frame} {meth : Method} {c : Code} {cc : ByteArray} {own : String} {nL pc idx d D : Nat} {Q : State → Prop} {L : List (Nat × Value)} {rest : List Value} {σ τ : St} {a1 : Int32} {a2 : Int32} {a3 : Int32} {r : Int32} {fl : List (Option Nat)} (X : Cx E layC p ms m args c cc own nL) (hM : Ct l E layC yX6_spoken cX6_spoken 4 (some .int) d [.ref (ea E 55), .int a1, .int a2, .int a3] σ (some (.int r)) τ) (hd : decode cc pc = .ok (.invokevirtual idx, 3)) (hlay : layC[55]? = some (.inl (5, fl))) (w1 : Cond.methodLink own idx yX6_spoken ∈ gw) (hR : d + 1 ≤ D) (hrs : (rest.map fun v => v.category).sum ≤ 8) (k : AW E layC p l e (rmD D) ms m args below meth c nL 0 0 Q (pc + 3) L (.int r :: rest) τ) : AW E layC p l e (rmD D) ms m args below meth c nL 0 0 Q pc L (.int a3 :: .int a2 :: .int a1 :: .ref (ea E 55) :: rest) σ :=
  s_callV X [.int a1, .int a2, .int a3] rest hM hd v_X6 hlay w1 g_680 g_18 g_75 g_681 nX6_spoken rfl rfl hrs (Nat.le_of_ble_eq_true rfl) hR k
def fX6_say (rec : Nat → List Int32 → St → Option (Int32 × St)) (a1 : Int32) (a2 : Int32) (a3 : Int32) (s0 : St) : Option (Int32 × St) :=
    bd2 (rec 2 [(s0 55 3), a1, a2, a3] s0) fun u3 s1 =>
    some (u3, s1)
set_option maxHeartbeats 4000000 in
set_option maxRecDepth 100000 in
theorem ctX6_say_s {l : Launch} {E : EE} {d : Nat} {rec : Nat → List Int32 → St → Option (Int32 × St)} {a1 : Int32} {a2 : Int32} {a3 : Int32} {s0 : St} {r9 : Int32} {t9 : St} (hd : 1 ≤ d) (hrec0 : ∀ (a1 : Int32) (a2 : Int32) (a3 : Int32) (s : St) (r : Int32) (t : St), rec 0 [a1, a2, a3] s = some (r, t) → Ct l E layC yX6_say cX6_say 4 (some .int) d [.ref (ea E 55), .int a1, .int a2, .int a3] s (some (.int r)) t) (hrec1 : ∀ (a1 : Int32) (a2 : Int32) (a3 : Int32) (a4 : Int32) (s : St) (r : Int32) (t : St), rec 1 [a1, a2, a3, a4] s = some (r, t) → Ct l E layC yX6_sayAbove cX6_sayAbove 5 (some .int) d [.ref (ea E 55), .int a1, .int a2, .int a3, .int a4] s (some (.int r)) t) (hrec2 : ∀ (a1 : Int32) (a2 : Int32) (a3 : Int32) (a4 : Int32) (s : St) (r : Int32) (t : St), rec 2 [a1, a2, a3, a4] s = some (r, t) → Ct l E layC yX6_sayFrom cX6_sayFrom 8 (some .int) d [.ref (ea E 55), .int a1, .int a2, .int a3, .int a4] s (some (.int r)) t) (hrec3 : ∀ (a1 : Int32) (a2 : Int32) (a3 : Int32) (s : St) (r : Int32) (t : St), rec 3 [a1, a2, a3] s = some (r, t) → Ct l E layC yX6_spoken cX6_spoken 4 (some .int) d [.ref (ea E 55), .int a1, .int a2, .int a3] s (some (.int r)) t) (h : fX6_say rec a1 a2 a3 s0 = some (r9, t9)) : Ct l E layC yX6_say cX6_say 4 (some .int) (d + 1) [.ref (ea E 55), .int a1, .int a2, .int a3] s0 (some (.int r9)) t9 := by
  refine Ct.of (by decide) (Nat.le_of_ble_eq_true rfl) ?_
  intro p e ms m below meth c X hlk hr
  have X : Cx E layC p ms m [.ref (ea E 55), .int a1, .int a2, .int a3].toArray c cX6_say RX6 4 := X
  refine r_sub (L' := [(0, .ref (ea E 55)), (1, .int a1), (2, .int a2), (3, .int a3)]) [0, 1, 2, 3] rfl ?_
  unfold fX6_say at h
  refine r_aload_n X dX6_say_0 0 rfl rfl ?_
  refine r_aload_n X dX6_say_1 0 rfl rfl ?_
  refine r_geti X dX6_say_2 i_X6 v_X6 lC_55 3 rfl (Nat.le_of_ble_eq_true rfl) g_263 ?_
  refine r_iload_n X dX6_say_5 1 rfl rfl ?_
  refine r_iload_n X dX6_say_6 2 rfl rfl ?_
  refine r_iload_n X dX6_say_7 3 rfl rfl ?_
  obtain ⟨u3, s1, e2, h⟩ := bd2_ok h
  refine kX6_sayFrom X (hrec2 _ _ _ _ _ _ _ e2) dX6_say_8 lC_55 g_671 (by omega) (Nat.le_of_ble_eq_true rfl) ?_
  exact s_iret X hlk hr dX6_say_11 h
def fX6_sayAbove (rec : Nat → List Int32 → St → Option (Int32 × St)) (a1 : Int32) (a2 : Int32) (a3 : Int32) (a4 : Int32) (s0 : St) : Option (Int32 × St) :=
    bd2 (fX1_above a1 s0) fun u3 s1 =>
    bd2 (rec 2 [u3, a2, a3, a4] s1) fun u6 s4 =>
    some (u6, s4)
set_option maxHeartbeats 4000000 in
set_option maxRecDepth 100000 in
theorem ctX6_sayAbove_s {l : Launch} {E : EE} {d : Nat} {rec : Nat → List Int32 → St → Option (Int32 × St)} {a1 : Int32} {a2 : Int32} {a3 : Int32} {a4 : Int32} {s0 : St} {r9 : Int32} {t9 : St} (hd : 1 ≤ d) (hrec0 : ∀ (a1 : Int32) (a2 : Int32) (a3 : Int32) (s : St) (r : Int32) (t : St), rec 0 [a1, a2, a3] s = some (r, t) → Ct l E layC yX6_say cX6_say 4 (some .int) d [.ref (ea E 55), .int a1, .int a2, .int a3] s (some (.int r)) t) (hrec1 : ∀ (a1 : Int32) (a2 : Int32) (a3 : Int32) (a4 : Int32) (s : St) (r : Int32) (t : St), rec 1 [a1, a2, a3, a4] s = some (r, t) → Ct l E layC yX6_sayAbove cX6_sayAbove 5 (some .int) d [.ref (ea E 55), .int a1, .int a2, .int a3, .int a4] s (some (.int r)) t) (hrec2 : ∀ (a1 : Int32) (a2 : Int32) (a3 : Int32) (a4 : Int32) (s : St) (r : Int32) (t : St), rec 2 [a1, a2, a3, a4] s = some (r, t) → Ct l E layC yX6_sayFrom cX6_sayFrom 8 (some .int) d [.ref (ea E 55), .int a1, .int a2, .int a3, .int a4] s (some (.int r)) t) (hrec3 : ∀ (a1 : Int32) (a2 : Int32) (a3 : Int32) (s : St) (r : Int32) (t : St), rec 3 [a1, a2, a3] s = some (r, t) → Ct l E layC yX6_spoken cX6_spoken 4 (some .int) d [.ref (ea E 55), .int a1, .int a2, .int a3] s (some (.int r)) t) (h : fX6_sayAbove rec a1 a2 a3 a4 s0 = some (r9, t9)) : Ct l E layC yX6_sayAbove cX6_sayAbove 5 (some .int) (d + 1) [.ref (ea E 55), .int a1, .int a2, .int a3, .int a4] s0 (some (.int r9)) t9 := by
  refine Ct.of (by decide) (Nat.le_of_ble_eq_true rfl) ?_
  intro p e ms m below meth c X hlk hr
  have X : Cx E layC p ms m [.ref (ea E 55), .int a1, .int a2, .int a3, .int a4].toArray c cX6_sayAbove RX6 5 := X
  refine r_sub (L' := [(0, .ref (ea E 55)), (1, .int a1), (2, .int a2), (3, .int a3), (4, .int a4)]) [0, 1, 2, 3, 4] rfl ?_
  unfold fX6_sayAbove at h
  refine r_aload_n X dX6_sayAbove_0 0 rfl rfl ?_
  refine r_iload_n X dX6_sayAbove_1 1 rfl rfl ?_
  obtain ⟨u3, s1, e2, h⟩ := bd2_ok h
  refine kX1_above X (ctX1_above e2) dX6_sayAbove_2 g_686 (by omega) (Nat.le_of_ble_eq_true rfl) ?_
  refine r_iload_n X dX6_sayAbove_5 2 rfl rfl ?_
  refine r_iload_n X dX6_sayAbove_6 3 rfl rfl ?_
  refine r_iload X dX6_sayAbove_7 4 rfl ?_
  obtain ⟨u6, s4, e5, h⟩ := bd2_ok h
  refine kX6_sayFrom X (hrec2 _ _ _ _ _ _ _ e5) dX6_sayAbove_9 lC_55 g_671 (by omega) (Nat.le_of_ble_eq_true rfl) ?_
  exact s_iret X hlk hr dX6_sayAbove_12 h
def fX6_sayFrom_6 (rec : Nat → List Int32 → St → Option (Int32 × St)) (a2 : Int32) (a3 : Int32) (a4 : Int32) : Nat → Int32 → Int32 → St → Option ((Int32 × St) ⊕ (St))
  | 0, _, _, _ => none
  | n + 1, a5, a6, s0 =>
    if 6 < a6 then
    some (.inr s0)
    else
    if a5 < 0 then
    some (.inr s0)
    else
    if 30 ≤ a4 then
    some (.inr s0)
    else
    bd1 (tld kBO 28 ((a5 * 4) + a2)) fun v2 =>
    if v2 = 0 then
    bd2 (fX1_above a5 s0) fun u5 s3 =>
    fX6_sayFrom_6 rec a2 a3 a4 n u5 (a6 + 1) s3
    else
    bd1 (fX4_add 56 v2 s0) fun s6 =>
    bd2 (rec 3 [v2, a3, (a4 + 1)] s6) fun u10 s8 =>
    some (.inl (u10, s8))
def fX6_sayFrom (rec : Nat → List Int32 → St → Option (Int32 × St)) (a1 : Int32) (a2 : Int32) (a3 : Int32) (a4 : Int32) (s0 : St) : Option (Int32 × St) :=
    bS1 (fX6_sayFrom_6 rec a2 a3 a4 FU a1 0 s0) (fun u16 => some u16) fun s15 =>
    some (0, s15)
set_option maxHeartbeats 4000000 in
set_option maxRecDepth 100000 in
theorem LX6_sayFrom_6 {l : Launch} {E : EE} {p : Program} {e : Env} {ms : State} {m : MethodId} {args : Array Value} {below : List Frame} {meth : Method} {c : Code} {d : Nat} {rec : Nat → List Int32 → St → Option (Int32 × St)} {a2 : Int32} {a3 : Int32} {a4 : Int32} {r9 : Int32} {t9 : St} (X : Cx E layC p ms m args c cX6_sayFrom RX6 8) (hd : 1 ≤ d) (hrec0 : ∀ (a1 : Int32) (a2 : Int32) (a3 : Int32) (s : St) (r : Int32) (t : St), rec 0 [a1, a2, a3] s = some (r, t) → Ct l E layC yX6_say cX6_say 4 (some .int) d [.ref (ea E 55), .int a1, .int a2, .int a3] s (some (.int r)) t) (hrec1 : ∀ (a1 : Int32) (a2 : Int32) (a3 : Int32) (a4 : Int32) (s : St) (r : Int32) (t : St), rec 1 [a1, a2, a3, a4] s = some (r, t) → Ct l E layC yX6_sayAbove cX6_sayAbove 5 (some .int) d [.ref (ea E 55), .int a1, .int a2, .int a3, .int a4] s (some (.int r)) t) (hrec2 : ∀ (a1 : Int32) (a2 : Int32) (a3 : Int32) (a4 : Int32) (s : St) (r : Int32) (t : St), rec 2 [a1, a2, a3, a4] s = some (r, t) → Ct l E layC yX6_sayFrom cX6_sayFrom 8 (some .int) d [.ref (ea E 55), .int a1, .int a2, .int a3, .int a4] s (some (.int r)) t) (hrec3 : ∀ (a1 : Int32) (a2 : Int32) (a3 : Int32) (s : St) (r : Int32) (t : St), rec 3 [a1, a2, a3] s = some (r, t) → Ct l E layC yX6_spoken cX6_spoken 4 (some .int) d [.ref (ea E 55), .int a1, .int a2, .int a3] s (some (.int r)) t) (hlk : meth.locks = false) (hr : meth.sig.returnType = (some .int)) : ∀ (n : Nat) (a5 : Int32) (a6 : Int32) (s0 : St) (o : (Int32 × St) ⊕ (St)), fX6_sayFrom_6 rec a2 a3 a4 n a5 a6 s0 = some o → (∀ r, o = .inl r → r = (r9, t9)) → (∀  (t8 : St), o = .inr t8 → AW E layC p l e (rmD (d + 1)) ms m args below meth c 8 0 0 (MQc E layC below args ms (some (.int r9)) t9) 76 [] [] t8) → AW E layC p l e (rmD (d + 1)) ms m args below meth c 8 0 0 (MQc E layC below args ms (some (.int r9)) t9) 6 [(0, .ref (ea E 55)), (2, .int a2), (3, .int a3), (4, .int a4), (5, .int a5), (6, .int a6)] [] s0 := by
  intro n
  induction n with
  | zero =>
    intro a5 a6 s0 o h hR hE
    cases h
  | succ n ih =>
    intro a5 a6 s0 o h hR hE
    rw [fX6_sayFrom_6] at h
    refine r_iload X dX6_sayFrom_6 5 rfl ?_
    refine r_bipush X dX6_sayFrom_8 (v := 6) (by decide) ?_
    refine r_icmp_gt X 76 dX6_sayFrom_10 (by decide) (fun c14 => ?_) (fun c14 => ?_)
    · rw [if_pos c14] at h
      refine r_sub (L' := []) [] rfl ?_
      cases h
      exact hE _ rfl
    · rw [if_neg c14] at h
      refine r_iload X dX6_sayFrom_13 4 rfl ?_
      refine r_if_lt X 76 dX6_sayFrom_15 (by decide) (fun c13 => ?_) (fun c13 => ?_)
      · rw [if_pos c13] at h
        refine r_sub (L' := []) [] rfl ?_
        cases h
        exact hE _ rfl
      · rw [if_neg c13] at h
        refine r_iload X dX6_sayFrom_18 3 rfl ?_
        refine r_bipush X dX6_sayFrom_20 (v := 30) (by decide) ?_
        refine r_icmp_ge X 76 dX6_sayFrom_22 (by decide) (fun c12 => ?_) (fun c12 => ?_)
        · rw [if_pos c12] at h
          refine r_sub (L' := []) [] rfl ?_
          cases h
          exact hE _ rfl
        · rw [if_neg c12] at h
          refine r_sB X dX6_sayFrom_25 g_675 ?_
          refine r_iload X dX6_sayFrom_28 4 rfl ?_
          refine r_iconst X dX6_sayFrom_30 (v := 4) (by decide) ?_
          refine r_imul X dX6_sayFrom_31 ?_
          refine r_iload_n X dX6_sayFrom_32 1 rfl rfl ?_
          refine r_iadd X dX6_sayFrom_33 ?_
          obtain ⟨g1, v2, ev2, h⟩ := tl_ok h
          refine s_ldB X dX6_sayFrom_34 g1 ev2 ?_
          refine r_istore (L' := [(0, .ref (ea E 55)), (2, .int a2), (3, .int a3), (4, .int a4), (5, .int a5), (6, .int a6), (7, .int v2)]) X dX6_sayFrom_35 [1, 2, 3, 4, 5, 6, 0] rfl (Nat.le_of_ble_eq_true rfl) ?_
          refine r_iload X dX6_sayFrom_37 6 rfl ?_
          refine r_if_eq X 63 dX6_sayFrom_39 (by decide) (fun c11 => ?_) (fun c11 => ?_)
          · rw [if_pos c11] at h
            refine r_iload X dX6_sayFrom_63 4 rfl ?_
            obtain ⟨u5, s3, e4, h⟩ := bd2_ok h
            refine kX1_above X (ctX1_above e4) dX6_sayFrom_65 g_686 (by omega) (Nat.le_of_ble_eq_true rfl) ?_
            refine r_istore (L' := [(0, .ref (ea E 55)), (2, .int a2), (3, .int a3), (4, .int a4), (5, .int u5), (6, .int a6)]) X dX6_sayFrom_68 [1, 2, 3, 4, 0, 5] rfl (Nat.le_of_ble_eq_true rfl) ?_
            refine r_iinc (L' := [(0, .ref (ea E 55)), (2, .int a2), (3, .int a3), (4, .int a4), (5, .int u5), (6, .int (a6 + 1))]) (v := a6 + 1) X dX6_sayFrom_70 5 rfl rfl [1, 2, 3, 4, 5, 0] rfl (Nat.le_of_ble_eq_true rfl) ?_
            refine r_goto X 6 dX6_sayFrom_73 (by decide) ?_
            exact ih _ _ _ _ h hR hE
          · rw [if_neg c11] at h
            refine r_aload_n X dX6_sayFrom_42 0 rfl rfl ?_
            refine r_getr X dX6_sayFrom_43 i_X6 v_X6 lC_55 0 rfl (Nat.le_of_ble_eq_true rfl) g_259 ?_
            refine r_iload X dX6_sayFrom_46 6 rfl ?_
            obtain ⟨s6, e7, h⟩ := bd1_ok h
            refine kX4_add X (ctX4_add hR_56 e7) dX6_sayFrom_48 lC_56 g_677 (by omega) (Nat.le_of_ble_eq_true rfl) ?_
            refine r_aload_n X dX6_sayFrom_51 0 rfl rfl ?_
            refine r_iload X dX6_sayFrom_52 6 rfl ?_
            refine r_iload_n X dX6_sayFrom_54 2 rfl rfl ?_
            refine r_iload X dX6_sayFrom_55 3 rfl ?_
            refine r_iconst X dX6_sayFrom_57 (v := 1) (by decide) ?_
            refine r_iadd X dX6_sayFrom_58 ?_
            obtain ⟨u10, s8, e9, h⟩ := bd2_ok h
            refine kX6_spoken X (hrec3 _ _ _ _ _ _ e9) dX6_sayFrom_59 lC_55 g_678 (by omega) (Nat.le_of_ble_eq_true rfl) ?_
            exact s_iret X hlk hr dX6_sayFrom_62 (inl_ok h hR)
set_option maxHeartbeats 4000000 in
set_option maxRecDepth 100000 in
theorem LX6_sayFrom_6_x {l : Launch} {E : EE} {p : Program} {e : Env} {ms : State} {m : MethodId} {args : Array Value} {below : List Frame} {meth : Method} {c : Code} {d : Nat} {rec : Nat → List Int32 → St → Option (Int32 × St)} {a2 : Int32} {a3 : Int32} {a4 : Int32} {r9 : Int32} {t9 : St} (X : Cx E layC p ms m args c cX6_sayFrom RX6 8) (hd : 1 ≤ d) (hrec0 : ∀ (a1 : Int32) (a2 : Int32) (a3 : Int32) (s : St) (r : Int32) (t : St), rec 0 [a1, a2, a3] s = some (r, t) → Ct l E layC yX6_say cX6_say 4 (some .int) d [.ref (ea E 55), .int a1, .int a2, .int a3] s (some (.int r)) t) (hrec1 : ∀ (a1 : Int32) (a2 : Int32) (a3 : Int32) (a4 : Int32) (s : St) (r : Int32) (t : St), rec 1 [a1, a2, a3, a4] s = some (r, t) → Ct l E layC yX6_sayAbove cX6_sayAbove 5 (some .int) d [.ref (ea E 55), .int a1, .int a2, .int a3, .int a4] s (some (.int r)) t) (hrec2 : ∀ (a1 : Int32) (a2 : Int32) (a3 : Int32) (a4 : Int32) (s : St) (r : Int32) (t : St), rec 2 [a1, a2, a3, a4] s = some (r, t) → Ct l E layC yX6_sayFrom cX6_sayFrom 8 (some .int) d [.ref (ea E 55), .int a1, .int a2, .int a3, .int a4] s (some (.int r)) t) (hrec3 : ∀ (a1 : Int32) (a2 : Int32) (a3 : Int32) (s : St) (r : Int32) (t : St), rec 3 [a1, a2, a3] s = some (r, t) → Ct l E layC yX6_spoken cX6_spoken 4 (some .int) d [.ref (ea E 55), .int a1, .int a2, .int a3] s (some (.int r)) t) (hlk : meth.locks = false) (hr : meth.sig.returnType = (some .int)) (n : Nat) (a5 : Int32) (a6 : Int32) (s0 : St)  (t8 : St) (h : fX6_sayFrom_6 rec a2 a3 a4 n a5 a6 s0 = some (.inr t8)) (hE : AW E layC p l e (rmD (d + 1)) ms m args below meth c 8 0 0 (MQc E layC below args ms (some (.int r9)) t9) 76 [] [] t8) : AW E layC p l e (rmD (d + 1)) ms m args below meth c 8 0 0 (MQc E layC below args ms (some (.int r9)) t9) 6 [(0, .ref (ea E 55)), (2, .int a2), (3, .int a3), (4, .int a4), (5, .int a5), (6, .int a6)] [] s0 :=
  LX6_sayFrom_6 X hd hrec0 hrec1 hrec2 hrec3 hlk hr n a5 a6 s0 _ h (fun r he => by cases he) (fun _ he => by cases he; exact hE)
set_option maxHeartbeats 4000000 in
set_option maxRecDepth 100000 in
theorem LX6_sayFrom_6_r {l : Launch} {E : EE} {p : Program} {e : Env} {ms : State} {m : MethodId} {args : Array Value} {below : List Frame} {meth : Method} {c : Code} {d : Nat} {rec : Nat → List Int32 → St → Option (Int32 × St)} {a2 : Int32} {a3 : Int32} {a4 : Int32} {r9 : Int32} {t9 : St} (X : Cx E layC p ms m args c cX6_sayFrom RX6 8) (hd : 1 ≤ d) (hrec0 : ∀ (a1 : Int32) (a2 : Int32) (a3 : Int32) (s : St) (r : Int32) (t : St), rec 0 [a1, a2, a3] s = some (r, t) → Ct l E layC yX6_say cX6_say 4 (some .int) d [.ref (ea E 55), .int a1, .int a2, .int a3] s (some (.int r)) t) (hrec1 : ∀ (a1 : Int32) (a2 : Int32) (a3 : Int32) (a4 : Int32) (s : St) (r : Int32) (t : St), rec 1 [a1, a2, a3, a4] s = some (r, t) → Ct l E layC yX6_sayAbove cX6_sayAbove 5 (some .int) d [.ref (ea E 55), .int a1, .int a2, .int a3, .int a4] s (some (.int r)) t) (hrec2 : ∀ (a1 : Int32) (a2 : Int32) (a3 : Int32) (a4 : Int32) (s : St) (r : Int32) (t : St), rec 2 [a1, a2, a3, a4] s = some (r, t) → Ct l E layC yX6_sayFrom cX6_sayFrom 8 (some .int) d [.ref (ea E 55), .int a1, .int a2, .int a3, .int a4] s (some (.int r)) t) (hrec3 : ∀ (a1 : Int32) (a2 : Int32) (a3 : Int32) (s : St) (r : Int32) (t : St), rec 3 [a1, a2, a3] s = some (r, t) → Ct l E layC yX6_spoken cX6_spoken 4 (some .int) d [.ref (ea E 55), .int a1, .int a2, .int a3] s (some (.int r)) t) (hlk : meth.locks = false) (hr : meth.sig.returnType = (some .int)) (n : Nat) (a5 : Int32) (a6 : Int32) (s0 : St) {r8 : Int32 × St} (h : fX6_sayFrom_6 rec a2 a3 a4 n a5 a6 s0 = some (.inl r8)) (hR : ∀ r, (.inl r8 : (Int32 × St) ⊕ (St)) = .inl r → r = (r9, t9)) : AW E layC p l e (rmD (d + 1)) ms m args below meth c 8 0 0 (MQc E layC below args ms (some (.int r9)) t9) 6 [(0, .ref (ea E 55)), (2, .int a2), (3, .int a3), (4, .int a4), (5, .int a5), (6, .int a6)] [] s0 :=
  LX6_sayFrom_6 X hd hrec0 hrec1 hrec2 hrec3 hlk hr n a5 a6 s0 _ h hR (fun _ he => by cases he)
set_option maxHeartbeats 4000000 in
set_option maxRecDepth 100000 in
theorem ctX6_sayFrom_s {l : Launch} {E : EE} {d : Nat} {rec : Nat → List Int32 → St → Option (Int32 × St)} {a1 : Int32} {a2 : Int32} {a3 : Int32} {a4 : Int32} {s0 : St} {r9 : Int32} {t9 : St} (hd : 1 ≤ d) (hrec0 : ∀ (a1 : Int32) (a2 : Int32) (a3 : Int32) (s : St) (r : Int32) (t : St), rec 0 [a1, a2, a3] s = some (r, t) → Ct l E layC yX6_say cX6_say 4 (some .int) d [.ref (ea E 55), .int a1, .int a2, .int a3] s (some (.int r)) t) (hrec1 : ∀ (a1 : Int32) (a2 : Int32) (a3 : Int32) (a4 : Int32) (s : St) (r : Int32) (t : St), rec 1 [a1, a2, a3, a4] s = some (r, t) → Ct l E layC yX6_sayAbove cX6_sayAbove 5 (some .int) d [.ref (ea E 55), .int a1, .int a2, .int a3, .int a4] s (some (.int r)) t) (hrec2 : ∀ (a1 : Int32) (a2 : Int32) (a3 : Int32) (a4 : Int32) (s : St) (r : Int32) (t : St), rec 2 [a1, a2, a3, a4] s = some (r, t) → Ct l E layC yX6_sayFrom cX6_sayFrom 8 (some .int) d [.ref (ea E 55), .int a1, .int a2, .int a3, .int a4] s (some (.int r)) t) (hrec3 : ∀ (a1 : Int32) (a2 : Int32) (a3 : Int32) (s : St) (r : Int32) (t : St), rec 3 [a1, a2, a3] s = some (r, t) → Ct l E layC yX6_spoken cX6_spoken 4 (some .int) d [.ref (ea E 55), .int a1, .int a2, .int a3] s (some (.int r)) t) (h : fX6_sayFrom rec a1 a2 a3 a4 s0 = some (r9, t9)) : Ct l E layC yX6_sayFrom cX6_sayFrom 8 (some .int) (d + 1) [.ref (ea E 55), .int a1, .int a2, .int a3, .int a4] s0 (some (.int r9)) t9 := by
  refine Ct.of (by decide) (Nat.le_of_ble_eq_true rfl) ?_
  intro p e ms m below meth c X hlk hr
  have X : Cx E layC p ms m [.ref (ea E 55), .int a1, .int a2, .int a3, .int a4].toArray c cX6_sayFrom RX6 8 := X
  refine r_sub (L' := [(0, .ref (ea E 55)), (1, .int a1), (2, .int a2), (3, .int a3), (4, .int a4)]) [0, 1, 2, 3, 4] rfl ?_
  unfold fX6_sayFrom at h
  refine r_iload_n X dX6_sayFrom_0 1 rfl rfl ?_
  refine r_istore (L' := [(0, .ref (ea E 55)), (2, .int a2), (3, .int a3), (4, .int a4), (5, .int a1)]) X dX6_sayFrom_1 [1, 3, 4, 5, 0] rfl (Nat.le_of_ble_eq_true rfl) ?_
  refine r_iconst X dX6_sayFrom_3 (v := 0) (by decide) ?_
  refine r_istore (L' := [(0, .ref (ea E 55)), (2, .int a2), (3, .int a3), (4, .int a4), (5, .int a1), (6, .int 0)]) X dX6_sayFrom_4 [1, 2, 3, 4, 5, 0] rfl (Nat.le_of_ble_eq_true rfl) ?_
  obtain ⟨o17, eo, ho⟩ := bS1_ok h
  rcases ho with ⟨u16, rfl, h⟩ | ⟨s15, rfl, h⟩
  · exact LX6_sayFrom_6_r X hd hrec0 hrec1 hrec2 hrec3 hlk hr FU _ _ _ eo (fun r hr1 => by cases hr1; exact Option.some.inj h)
  · refine LX6_sayFrom_6_x X hd hrec0 hrec1 hrec2 hrec3 hlk hr FU _ _ _ _ eo ?_
    refine r_iconst X dX6_sayFrom_76 (v := 0) (by decide) ?_
    exact s_iret X hlk hr dX6_sayFrom_77 h
def fX6_spoken (rec : Nat → List Int32 → St → Option (Int32 × St)) (a1 : Int32) (a2 : Int32) (a3 : Int32) (s0 : St) : Option (Int32 × St) :=
    if a1 = 10 then
    some (a2 + (s0 55 1), s0)
    else if a1 = 11 then
    bd2 (rec 0 [0, a2, a3] s0) fun u5 s3 =>
    some (u5 * 2, s3)
    else if a1 = 12 then
    some (a2 - (s0 55 2), s0)
    else if a1 = 13 then
    bd2 (rec 0 [1, a2, a3] s0) fun u10 s8 =>
    bd2 (rec 0 [2, a2, a3] s8) fun u13 s11 =>
    some (u10 ^^^ u13, s11)
    else if a1 = 20 then
    bd2 (rec 1 [1, 0, a2, a3] s0) fun u17 s15 =>
    some (u17 * 3, s15)
    else if a1 = 30 then
    bd2 (rec 1 [2, 1, a2, a3] s0) fun u21 s19 =>
    bd2 (rec 0 [2, 1, a3] s19) fun u24 s22 =>
    some (u21 - u24, s22)
    else if a1 = 40 then
    bd2 (rec 1 [3, 2, a2, a3] s0) fun u28 s26 =>
    some (-u28, s26)
    else if a1 = 50 then
    bd2 (rec 1 [4, 3, a2, a3] s0) fun u32 s30 =>
    bd2 (rec 0 [0, 2, a3] s30) fun u35 s33 =>
    some (u32 - u35, s33)
    else if a1 = 60 then
    bd2 (rec 1 [5, 1, (a2 + 1), a3] s0) fun u39 s37 =>
    some (u39, s37)
    else if a1 = 70 then
    bd2 (rec 1 [6, 2, a2, a3] s0) fun u43 s41 =>
    some (u43 ^^^ (s41 55 1), s41)
    else if a1 = 71 then
    bd2 (rec 0 [1, a2, a3] s0) fun u47 s45 =>
    bd2 (rec 1 [6, 3, a2, a3] s45) fun u50 s48 =>
    some (u47 - u50, s48)
    else some (0, s0)
set_option maxHeartbeats 4000000 in
set_option maxRecDepth 100000 in
theorem ctX6_spoken_s {l : Launch} {E : EE} {d : Nat} {rec : Nat → List Int32 → St → Option (Int32 × St)} {a1 : Int32} {a2 : Int32} {a3 : Int32} {s0 : St} {r9 : Int32} {t9 : St} (hd : 1 ≤ d) (hrec0 : ∀ (a1 : Int32) (a2 : Int32) (a3 : Int32) (s : St) (r : Int32) (t : St), rec 0 [a1, a2, a3] s = some (r, t) → Ct l E layC yX6_say cX6_say 4 (some .int) d [.ref (ea E 55), .int a1, .int a2, .int a3] s (some (.int r)) t) (hrec1 : ∀ (a1 : Int32) (a2 : Int32) (a3 : Int32) (a4 : Int32) (s : St) (r : Int32) (t : St), rec 1 [a1, a2, a3, a4] s = some (r, t) → Ct l E layC yX6_sayAbove cX6_sayAbove 5 (some .int) d [.ref (ea E 55), .int a1, .int a2, .int a3, .int a4] s (some (.int r)) t) (hrec2 : ∀ (a1 : Int32) (a2 : Int32) (a3 : Int32) (a4 : Int32) (s : St) (r : Int32) (t : St), rec 2 [a1, a2, a3, a4] s = some (r, t) → Ct l E layC yX6_sayFrom cX6_sayFrom 8 (some .int) d [.ref (ea E 55), .int a1, .int a2, .int a3, .int a4] s (some (.int r)) t) (hrec3 : ∀ (a1 : Int32) (a2 : Int32) (a3 : Int32) (s : St) (r : Int32) (t : St), rec 3 [a1, a2, a3] s = some (r, t) → Ct l E layC yX6_spoken cX6_spoken 4 (some .int) d [.ref (ea E 55), .int a1, .int a2, .int a3] s (some (.int r)) t) (h : fX6_spoken rec a1 a2 a3 s0 = some (r9, t9)) : Ct l E layC yX6_spoken cX6_spoken 4 (some .int) (d + 1) [.ref (ea E 55), .int a1, .int a2, .int a3] s0 (some (.int r9)) t9 := by
  refine Ct.of (by decide) (Nat.le_of_ble_eq_true rfl) ?_
  intro p e ms m below meth c X hlk hr
  have X : Cx E layC p ms m [.ref (ea E 55), .int a1, .int a2, .int a3].toArray c cX6_spoken RX6 4 := X
  refine r_sub (L' := [(0, .ref (ea E 55)), (1, .int a1), (2, .int a2), (3, .int a3)]) [0, 1, 2, 3] rfl ?_
  unfold fX6_spoken at h
  refine r_iload_n X dX6_spoken_0 1 rfl rfl ?_
  by_cases c1 : a1 = 10
  · rw [if_pos c1] at h
    refine r_lookup X 100 dX6_spoken_1 (by decide) (by rw [c1] <;> rfl) (by decide) ?_
    refine r_iload_n X dX6_spoken_100 2 rfl rfl ?_
    refine r_aload_n X dX6_spoken_101 0 rfl rfl ?_
    refine r_geti X dX6_spoken_102 i_X6 v_X6 lC_55 1 rfl (Nat.le_of_ble_eq_true rfl) g_261 ?_
    refine r_iadd X dX6_spoken_105 ?_
    exact s_iret X hlk hr dX6_spoken_106 h
  rw [if_neg c1] at h
  by_cases c2 : a1 = 11
  · rw [if_pos c2] at h
    refine r_lookup X 107 dX6_spoken_1 (by decide) (by rw [c2] <;> rfl) (by decide) ?_
    refine r_aload_n X dX6_spoken_107 0 rfl rfl ?_
    refine r_iconst X dX6_spoken_108 (v := 0) (by decide) ?_
    refine r_iload_n X dX6_spoken_109 2 rfl rfl ?_
    refine r_iload_n X dX6_spoken_110 3 rfl rfl ?_
    obtain ⟨u5, s3, e4, h⟩ := bd2_ok h
    refine kX6_say X (hrec0 _ _ _ _ _ _ e4) dX6_spoken_111 lC_55 g_667 (by omega) (Nat.le_of_ble_eq_true rfl) ?_
    refine r_iconst X dX6_spoken_114 (v := 2) (by decide) ?_
    refine r_imul X dX6_spoken_115 ?_
    exact s_iret X hlk hr dX6_spoken_116 h
  rw [if_neg c2] at h
  by_cases c6 : a1 = 12
  · rw [if_pos c6] at h
    refine r_lookup X 117 dX6_spoken_1 (by decide) (by rw [c6] <;> rfl) (by decide) ?_
    refine r_iload_n X dX6_spoken_117 2 rfl rfl ?_
    refine r_aload_n X dX6_spoken_118 0 rfl rfl ?_
    refine r_geti X dX6_spoken_119 i_X6 v_X6 lC_55 2 rfl (Nat.le_of_ble_eq_true rfl) g_262 ?_
    refine r_isub X dX6_spoken_122 ?_
    exact s_iret X hlk hr dX6_spoken_123 h
  rw [if_neg c6] at h
  by_cases c7 : a1 = 13
  · rw [if_pos c7] at h
    refine r_lookup X 124 dX6_spoken_1 (by decide) (by rw [c7] <;> rfl) (by decide) ?_
    refine r_aload_n X dX6_spoken_124 0 rfl rfl ?_
    refine r_iconst X dX6_spoken_125 (v := 1) (by decide) ?_
    refine r_iload_n X dX6_spoken_126 2 rfl rfl ?_
    refine r_iload_n X dX6_spoken_127 3 rfl rfl ?_
    obtain ⟨u10, s8, e9, h⟩ := bd2_ok h
    refine kX6_say X (hrec0 _ _ _ _ _ _ e9) dX6_spoken_128 lC_55 g_667 (by omega) (Nat.le_of_ble_eq_true rfl) ?_
    refine r_aload_n X dX6_spoken_131 0 rfl rfl ?_
    refine r_iconst X dX6_spoken_132 (v := 2) (by decide) ?_
    refine r_iload_n X dX6_spoken_133 2 rfl rfl ?_
    refine r_iload_n X dX6_spoken_134 3 rfl rfl ?_
    obtain ⟨u13, s11, e12, h⟩ := bd2_ok h
    refine kX6_say X (hrec0 _ _ _ _ _ _ e12) dX6_spoken_135 lC_55 g_667 (by omega) (Nat.le_of_ble_eq_true rfl) ?_
    refine r_ixor X dX6_spoken_138 ?_
    exact s_iret X hlk hr dX6_spoken_139 h
  rw [if_neg c7] at h
  by_cases c14 : a1 = 20
  · rw [if_pos c14] at h
    refine r_lookup X 140 dX6_spoken_1 (by decide) (by rw [c14] <;> rfl) (by decide) ?_
    refine r_aload_n X dX6_spoken_140 0 rfl rfl ?_
    refine r_iconst X dX6_spoken_141 (v := 1) (by decide) ?_
    refine r_iconst X dX6_spoken_142 (v := 0) (by decide) ?_
    refine r_iload_n X dX6_spoken_143 2 rfl rfl ?_
    refine r_iload_n X dX6_spoken_144 3 rfl rfl ?_
    obtain ⟨u17, s15, e16, h⟩ := bd2_ok h
    refine kX6_sayAbove X (hrec1 _ _ _ _ _ _ _ e16) dX6_spoken_145 lC_55 g_682 (by omega) (Nat.le_of_ble_eq_true rfl) ?_
    refine r_iconst X dX6_spoken_148 (v := 3) (by decide) ?_
    refine r_imul X dX6_spoken_149 ?_
    exact s_iret X hlk hr dX6_spoken_150 h
  rw [if_neg c14] at h
  by_cases c18 : a1 = 30
  · rw [if_pos c18] at h
    refine r_lookup X 151 dX6_spoken_1 (by decide) (by rw [c18] <;> rfl) (by decide) ?_
    refine r_aload_n X dX6_spoken_151 0 rfl rfl ?_
    refine r_iconst X dX6_spoken_152 (v := 2) (by decide) ?_
    refine r_iconst X dX6_spoken_153 (v := 1) (by decide) ?_
    refine r_iload_n X dX6_spoken_154 2 rfl rfl ?_
    refine r_iload_n X dX6_spoken_155 3 rfl rfl ?_
    obtain ⟨u21, s19, e20, h⟩ := bd2_ok h
    refine kX6_sayAbove X (hrec1 _ _ _ _ _ _ _ e20) dX6_spoken_156 lC_55 g_682 (by omega) (Nat.le_of_ble_eq_true rfl) ?_
    refine r_aload_n X dX6_spoken_159 0 rfl rfl ?_
    refine r_iconst X dX6_spoken_160 (v := 2) (by decide) ?_
    refine r_iconst X dX6_spoken_161 (v := 1) (by decide) ?_
    refine r_iload_n X dX6_spoken_162 3 rfl rfl ?_
    obtain ⟨u24, s22, e23, h⟩ := bd2_ok h
    refine kX6_say X (hrec0 _ _ _ _ _ _ e23) dX6_spoken_163 lC_55 g_667 (by omega) (Nat.le_of_ble_eq_true rfl) ?_
    refine r_isub X dX6_spoken_166 ?_
    exact s_iret X hlk hr dX6_spoken_167 h
  rw [if_neg c18] at h
  by_cases c25 : a1 = 40
  · rw [if_pos c25] at h
    refine r_lookup X 168 dX6_spoken_1 (by decide) (by rw [c25] <;> rfl) (by decide) ?_
    refine r_aload_n X dX6_spoken_168 0 rfl rfl ?_
    refine r_iconst X dX6_spoken_169 (v := 3) (by decide) ?_
    refine r_iconst X dX6_spoken_170 (v := 2) (by decide) ?_
    refine r_iload_n X dX6_spoken_171 2 rfl rfl ?_
    refine r_iload_n X dX6_spoken_172 3 rfl rfl ?_
    obtain ⟨u28, s26, e27, h⟩ := bd2_ok h
    refine kX6_sayAbove X (hrec1 _ _ _ _ _ _ _ e27) dX6_spoken_173 lC_55 g_682 (by omega) (Nat.le_of_ble_eq_true rfl) ?_
    refine r_ineg X dX6_spoken_176 ?_
    exact s_iret X hlk hr dX6_spoken_177 h
  rw [if_neg c25] at h
  by_cases c29 : a1 = 50
  · rw [if_pos c29] at h
    refine r_lookup X 178 dX6_spoken_1 (by decide) (by rw [c29] <;> rfl) (by decide) ?_
    refine r_aload_n X dX6_spoken_178 0 rfl rfl ?_
    refine r_iconst X dX6_spoken_179 (v := 4) (by decide) ?_
    refine r_iconst X dX6_spoken_180 (v := 3) (by decide) ?_
    refine r_iload_n X dX6_spoken_181 2 rfl rfl ?_
    refine r_iload_n X dX6_spoken_182 3 rfl rfl ?_
    obtain ⟨u32, s30, e31, h⟩ := bd2_ok h
    refine kX6_sayAbove X (hrec1 _ _ _ _ _ _ _ e31) dX6_spoken_183 lC_55 g_682 (by omega) (Nat.le_of_ble_eq_true rfl) ?_
    refine r_aload_n X dX6_spoken_186 0 rfl rfl ?_
    refine r_iconst X dX6_spoken_187 (v := 0) (by decide) ?_
    refine r_iconst X dX6_spoken_188 (v := 2) (by decide) ?_
    refine r_iload_n X dX6_spoken_189 3 rfl rfl ?_
    obtain ⟨u35, s33, e34, h⟩ := bd2_ok h
    refine kX6_say X (hrec0 _ _ _ _ _ _ e34) dX6_spoken_190 lC_55 g_667 (by omega) (Nat.le_of_ble_eq_true rfl) ?_
    refine r_isub X dX6_spoken_193 ?_
    exact s_iret X hlk hr dX6_spoken_194 h
  rw [if_neg c29] at h
  by_cases c36 : a1 = 60
  · rw [if_pos c36] at h
    refine r_lookup X 195 dX6_spoken_1 (by decide) (by rw [c36] <;> rfl) (by decide) ?_
    refine r_aload_n X dX6_spoken_195 0 rfl rfl ?_
    refine r_iconst X dX6_spoken_196 (v := 5) (by decide) ?_
    refine r_iconst X dX6_spoken_197 (v := 1) (by decide) ?_
    refine r_iload_n X dX6_spoken_198 2 rfl rfl ?_
    refine r_iconst X dX6_spoken_199 (v := 1) (by decide) ?_
    refine r_iadd X dX6_spoken_200 ?_
    refine r_iload_n X dX6_spoken_201 3 rfl rfl ?_
    obtain ⟨u39, s37, e38, h⟩ := bd2_ok h
    refine kX6_sayAbove X (hrec1 _ _ _ _ _ _ _ e38) dX6_spoken_202 lC_55 g_682 (by omega) (Nat.le_of_ble_eq_true rfl) ?_
    exact s_iret X hlk hr dX6_spoken_205 h
  rw [if_neg c36] at h
  by_cases c40 : a1 = 70
  · rw [if_pos c40] at h
    refine r_lookup X 206 dX6_spoken_1 (by decide) (by rw [c40] <;> rfl) (by decide) ?_
    refine r_aload_n X dX6_spoken_206 0 rfl rfl ?_
    refine r_bipush X dX6_spoken_207 (v := 6) (by decide) ?_
    refine r_iconst X dX6_spoken_209 (v := 2) (by decide) ?_
    refine r_iload_n X dX6_spoken_210 2 rfl rfl ?_
    refine r_iload_n X dX6_spoken_211 3 rfl rfl ?_
    obtain ⟨u43, s41, e42, h⟩ := bd2_ok h
    refine kX6_sayAbove X (hrec1 _ _ _ _ _ _ _ e42) dX6_spoken_212 lC_55 g_682 (by omega) (Nat.le_of_ble_eq_true rfl) ?_
    refine r_aload_n X dX6_spoken_215 0 rfl rfl ?_
    refine r_geti X dX6_spoken_216 i_X6 v_X6 lC_55 1 rfl (Nat.le_of_ble_eq_true rfl) g_261 ?_
    refine r_ixor X dX6_spoken_219 ?_
    exact s_iret X hlk hr dX6_spoken_220 h
  rw [if_neg c40] at h
  by_cases c44 : a1 = 71
  · rw [if_pos c44] at h
    refine r_lookup X 221 dX6_spoken_1 (by decide) (by rw [c44] <;> rfl) (by decide) ?_
    refine r_aload_n X dX6_spoken_221 0 rfl rfl ?_
    refine r_iconst X dX6_spoken_222 (v := 1) (by decide) ?_
    refine r_iload_n X dX6_spoken_223 2 rfl rfl ?_
    refine r_iload_n X dX6_spoken_224 3 rfl rfl ?_
    obtain ⟨u47, s45, e46, h⟩ := bd2_ok h
    refine kX6_say X (hrec0 _ _ _ _ _ _ e46) dX6_spoken_225 lC_55 g_667 (by omega) (Nat.le_of_ble_eq_true rfl) ?_
    refine r_aload_n X dX6_spoken_228 0 rfl rfl ?_
    refine r_bipush X dX6_spoken_229 (v := 6) (by decide) ?_
    refine r_iconst X dX6_spoken_231 (v := 3) (by decide) ?_
    refine r_iload_n X dX6_spoken_232 2 rfl rfl ?_
    refine r_iload_n X dX6_spoken_233 3 rfl rfl ?_
    obtain ⟨u50, s48, e49, h⟩ := bd2_ok h
    refine kX6_sayAbove X (hrec1 _ _ _ _ _ _ _ e49) dX6_spoken_234 lC_55 g_682 (by omega) (Nat.le_of_ble_eq_true rfl) ?_
    refine r_isub X dX6_spoken_237 ?_
    exact s_iret X hlk hr dX6_spoken_238 h
  rw [if_neg c44] at h
  refine r_lookup (off := 238) X 239 dX6_spoken_1 (by decide) ((lv_osw (k := 10) c1 (by decide)).trans ((lv_osw (k := 11) c2 (by decide)).trans ((lv_osw (k := 12) c6 (by decide)).trans ((lv_osw (k := 13) c7 (by decide)).trans ((lv_osw (k := 20) c14 (by decide)).trans ((lv_osw (k := 30) c18 (by decide)).trans ((lv_osw (k := 40) c25 (by decide)).trans ((lv_osw (k := 50) c29 (by decide)).trans ((lv_osw (k := 60) c36 (by decide)).trans ((lv_osw (k := 70) c40 (by decide)).trans ((lv_osw (k := 71) c44 (by decide)).trans rfl))))))))))) (by decide) ?_
  refine r_iconst X dX6_spoken_239 (v := 0) (by decide) ?_
  exact s_iret X hlk hr dX6_spoken_240 h
def grp_X6_say : Nat → Nat → List Int32 → St → Option (Int32 × St)
  | 0, _, _, _ => none
  | n + 1, 0, [a1, a2, a3], s => fX6_say (grp_X6_say n) a1 a2 a3 s
  | n + 1, 1, [a1, a2, a3, a4], s => fX6_sayAbove (grp_X6_say n) a1 a2 a3 a4 s
  | n + 1, 2, [a1, a2, a3, a4], s => fX6_sayFrom (grp_X6_say n) a1 a2 a3 a4 s
  | n + 1, 3, [a1, a2, a3], s => fX6_spoken (grp_X6_say n) a1 a2 a3 s
  | _ + 1, _, _, _ => none
set_option maxHeartbeats 4000000 in
set_option maxRecDepth 100000 in
theorem grp_X6_say_ok (l : Launch) (E : EE) : ∀ n : Nat, (∀ (a1 : Int32) (a2 : Int32) (a3 : Int32) (s : St) (r : Int32) (t : St), grp_X6_say n 0 [a1, a2, a3] s = some (r, t) → Ct l E layC yX6_say cX6_say 4 (some .int) (n + 1) [.ref (ea E 55), .int a1, .int a2, .int a3] s (some (.int r)) t) ∧ (∀ (a1 : Int32) (a2 : Int32) (a3 : Int32) (a4 : Int32) (s : St) (r : Int32) (t : St), grp_X6_say n 1 [a1, a2, a3, a4] s = some (r, t) → Ct l E layC yX6_sayAbove cX6_sayAbove 5 (some .int) (n + 1) [.ref (ea E 55), .int a1, .int a2, .int a3, .int a4] s (some (.int r)) t) ∧ (∀ (a1 : Int32) (a2 : Int32) (a3 : Int32) (a4 : Int32) (s : St) (r : Int32) (t : St), grp_X6_say n 2 [a1, a2, a3, a4] s = some (r, t) → Ct l E layC yX6_sayFrom cX6_sayFrom 8 (some .int) (n + 1) [.ref (ea E 55), .int a1, .int a2, .int a3, .int a4] s (some (.int r)) t) ∧ (∀ (a1 : Int32) (a2 : Int32) (a3 : Int32) (s : St) (r : Int32) (t : St), grp_X6_say n 3 [a1, a2, a3] s = some (r, t) → Ct l E layC yX6_spoken cX6_spoken 4 (some .int) (n + 1) [.ref (ea E 55), .int a1, .int a2, .int a3] s (some (.int r)) t) := by
  intro n
  induction n with
  | zero =>
    refine ⟨(fun _ _ _ _ _ _ h => by cases h), (fun _ _ _ _ _ _ _ h => by cases h), (fun _ _ _ _ _ _ _ h => by cases h), (fun _ _ _ _ _ _ h => by cases h)⟩
  | succ n ih =>
    obtain ⟨h0, h1, h2, h3⟩ := ih
    refine ⟨?_, ?_, ?_, ?_⟩
    · intro z0 z1 z2 s r t h
      rw [show n + 1 + 1 = n + 1 + 1 by omega]
      exact ctX6_say_s (Nat.le_add_left _ _) h0 h1 h2 h3 h
    · intro z0 z1 z2 z3 s r t h
      rw [show n + 1 + 1 = n + 1 + 1 by omega]
      exact ctX6_sayAbove_s (Nat.le_add_left _ _) h0 h1 h2 h3 h
    · intro z0 z1 z2 z3 s r t h
      rw [show n + 1 + 1 = n + 1 + 1 by omega]
      exact ctX6_sayFrom_s (Nat.le_add_left _ _) h0 h1 h2 h3 h
    · intro z0 z1 z2 s r t h
      rw [show n + 1 + 1 = n + 1 + 1 by omega]
      exact ctX6_spoken_s (Nat.le_add_left _ _) h0 h1 h2 h3 h
theorem ctX6_say {l : Launch} {E : EE} {a1 : Int32} {a2 : Int32} {a3 : Int32} {s t : St} {r : Int32} (h : grp_X6_say RF 0 [a1, a2, a3] s = some (r, t)) : Ct l E layC yX6_say cX6_say 4 (some .int) 101 [.ref (ea E 55), .int a1, .int a2, .int a3] s (some (.int r)) t := (grp_X6_say_ok l E RF).1 _ _ _ _ _ _ h
theorem ctX6_sayAbove {l : Launch} {E : EE} {a1 : Int32} {a2 : Int32} {a3 : Int32} {a4 : Int32} {s t : St} {r : Int32} (h : grp_X6_say RF 1 [a1, a2, a3, a4] s = some (r, t)) : Ct l E layC yX6_sayAbove cX6_sayAbove 5 (some .int) 101 [.ref (ea E 55), .int a1, .int a2, .int a3, .int a4] s (some (.int r)) t := (grp_X6_say_ok l E RF).2.1 _ _ _ _ _ _ _ h
theorem ctX6_sayFrom {l : Launch} {E : EE} {a1 : Int32} {a2 : Int32} {a3 : Int32} {a4 : Int32} {s t : St} {r : Int32} (h : grp_X6_say RF 2 [a1, a2, a3, a4] s = some (r, t)) : Ct l E layC yX6_sayFrom cX6_sayFrom 8 (some .int) 101 [.ref (ea E 55), .int a1, .int a2, .int a3, .int a4] s (some (.int r)) t := (grp_X6_say_ok l E RF).2.2.1 _ _ _ _ _ _ _ h
theorem ctX6_spoken {l : Launch} {E : EE} {a1 : Int32} {a2 : Int32} {a3 : Int32} {s t : St} {r : Int32} (h : grp_X6_say RF 3 [a1, a2, a3] s = some (r, t)) : Ct l E layC yX6_spoken cX6_spoken 4 (some .int) 101 [.ref (ea E 55), .int a1, .int a2, .int a3] s (some (.int r)) t := (grp_X6_say_ok l E RF).2.2.2 _ _ _ _ _ _ h
/-! X6_raised -/
theorem nX6_raised : yX6_raised.cls ≠ "java/lang/invoke/MethodHandle" ∧ yX6_raised.cls ≠ "java/lang/invoke/VarHandle" ∧ (parseMethodDescriptor yX6_raised.desc).map (fun d => d.parameters.length) = some 5 := by decide +kernel
theorem kX6_raised {l : Launch} {E : EE} {p : Program} {e : Env} {ms : State} {m : MethodId} {args : Array Value} {below : List Frame} {meth : Method} {c : Code} {cc : ByteArray} {own : String} {nL pc idx d D : Nat} {Q : State → Prop} {L : List (Nat × Value)} {rest : List Value} {σ τ : St} {a1 : Int32} {a2 : Int32} {a3 : Int32} {a4 : Int32} {a5 : Int32} {r : Int32} {fl : List (Option Nat)} (X : Cx E layC p ms m args c cc own nL) (hM : Ct l E layC yX6_raised cX6_raised 6 (some .int) d [.ref (ea E 55), .int a1, .int a2, .int a3, .int a4, .int a5] σ (some (.int r)) τ) (hd : decode cc pc = .ok (.invokevirtual idx, 3)) (hlay : layC[55]? = some (.inl (5, fl))) (w1 : Cond.methodLink own idx yX6_raised ∈ gw) (hR : d + 1 ≤ D) (hrs : (rest.map fun v => v.category).sum ≤ 8) (k : AW E layC p l e (rmD D) ms m args below meth c nL 0 0 Q (pc + 3) L (.int r :: rest) τ) : AW E layC p l e (rmD D) ms m args below meth c nL 0 0 Q pc L (.int a5 :: .int a4 :: .int a3 :: .int a2 :: .int a1 :: .ref (ea E 55) :: rest) σ :=
  s_callV X [.int a1, .int a2, .int a3, .int a4, .int a5] rest hM hd v_X6 hlay w1 g_664 g_665 g_75 g_666 nX6_raised rfl rfl hrs (Nat.le_of_ble_eq_true rfl) hR k
def fX6_raised (a1 : Int32) (a2 : Int32) (a3 : Int32) (a4 : Int32) (a5 : Int32) (s0 : St) : Option (Int32 × St) :=
    bd1 (ptf s0 55 1 a1) fun s1 =>
    bd1 (ptf s1 55 2 a2) fun s2 =>
    bd1 (ptf s2 55 3 a3) fun s3 =>
    bd1 (ptf s3 56 1 0) fun s4 =>
    bd2 (grp_X6_say RF 0 [a4, a5, 0] s4) fun u7 s5 =>
    some (u7, s5)
set_option maxHeartbeats 4000000 in
set_option maxRecDepth 100000 in
theorem ctX6_raised {l : Launch} {E : EE} {a1 : Int32} {a2 : Int32} {a3 : Int32} {a4 : Int32} {a5 : Int32} {s0 : St} {r9 : Int32} {t9 : St}  (h : fX6_raised a1 a2 a3 a4 a5 s0 = some (r9, t9)) : Ct l E layC yX6_raised cX6_raised 6 (some .int) 102 [.ref (ea E 55), .int a1, .int a2, .int a3, .int a4, .int a5] s0 (some (.int r9)) t9 := by
  refine Ct.of (by decide) (Nat.le_of_ble_eq_true rfl) ?_
  intro p e ms m below meth c X hlk hr
  have X : Cx E layC p ms m [.ref (ea E 55), .int a1, .int a2, .int a3, .int a4, .int a5].toArray c cX6_raised RX6 6 := X
  refine r_sub (L' := [(0, .ref (ea E 55)), (1, .int a1), (2, .int a2), (3, .int a3), (4, .int a4), (5, .int a5)]) [0, 1, 2, 3, 4, 5] rfl ?_
  unfold fX6_raised at h
  refine r_aload_n X dX6_raised_0 0 rfl rfl ?_
  refine r_iload_n X dX6_raised_1 1 rfl rfl ?_
  obtain ⟨s1, es1, h⟩ := pt_ok h
  refine s_puti X dX6_raised_2 i_X6 tyX6_ok nmX6 v_X6 lC_55 1 rfl (Nat.le_of_ble_eq_true rfl) g_261 rfl rfl ⟨rfl, rfl⟩ es1 ?_
  refine r_aload_n X dX6_raised_5 0 rfl rfl ?_
  refine r_iload_n X dX6_raised_6 2 rfl rfl ?_
  obtain ⟨s2, es2, h⟩ := pt_ok h
  refine s_puti X dX6_raised_7 i_X6 tyX6_ok nmX6 v_X6 lC_55 2 rfl (Nat.le_of_ble_eq_true rfl) g_262 rfl rfl ⟨rfl, rfl⟩ es2 ?_
  refine r_aload_n X dX6_raised_10 0 rfl rfl ?_
  refine r_iload_n X dX6_raised_11 3 rfl rfl ?_
  obtain ⟨s3, es3, h⟩ := pt_ok h
  refine s_puti X dX6_raised_12 i_X6 tyX6_ok nmX6 v_X6 lC_55 3 rfl (Nat.le_of_ble_eq_true rfl) g_263 rfl rfl ⟨rfl, rfl⟩ es3 ?_
  refine r_aload_n X dX6_raised_15 0 rfl rfl ?_
  refine r_getr X dX6_raised_16 i_X6 v_X6 lC_55 0 rfl (Nat.le_of_ble_eq_true rfl) g_259 ?_
  refine r_iconst X dX6_raised_19 (v := 0) (by decide) ?_
  obtain ⟨s4, es4, h⟩ := pt_ok h
  refine s_puti X dX6_raised_20 i_X4 tyX4_ok nmX4 v_X4 lC_56 1 rfl (Nat.le_of_ble_eq_true rfl) g_168 rfl rfl ⟨rfl, rfl⟩ es4 ?_
  refine r_aload_n X dX6_raised_23 0 rfl rfl ?_
  refine r_iload X dX6_raised_24 4 rfl ?_
  refine r_iload X dX6_raised_26 5 rfl ?_
  refine r_iconst X dX6_raised_28 (v := 0) (by decide) ?_
  obtain ⟨u7, s5, e6, h⟩ := bd2_ok h
  refine kX6_say X (ctX6_say e6) dX6_raised_29 lC_55 g_667 (Nat.le_of_ble_eq_true rfl) (Nat.le_of_ble_eq_true rfl) ?_
  exact s_iret X hlk hr dX6_raised_32 h
/-! X7_copyFrom -/
theorem nX7_copyFrom : yX7_copyFrom.cls ≠ "java/lang/invoke/MethodHandle" ∧ yX7_copyFrom.cls ≠ "java/lang/invoke/VarHandle" ∧ (parseMethodDescriptor yX7_copyFrom.desc).map (fun d => d.parameters.length) = some 1 := by decide +kernel
theorem kX7_copyFrom {l : Launch} {E : EE} {p : Program} {e : Env} {ms : State} {m : MethodId} {args : Array Value} {below : List Frame} {meth : Method} {c : Code} {cc : ByteArray} {own : String} {nL pc idx d D : Nat} {Q : State → Prop} {L : List (Nat × Value)} {rest : List Value} {σ τ : St} {b0 : Nat} {b1 : Nat}  {fl : List (Option Nat)} (X : Cx E layC p ms m args c cc own nL) (hM : Ct l E layC yX7_copyFrom cX7_copyFrom 2 none d [.ref (ea E b0), .ref (ea E b1)] σ none τ) (hd : decode cc pc = .ok (.invokevirtual idx, 3)) (hlay : layC[b0]? = some (.inl (6, fl))) (w1 : Cond.methodLink own idx yX7_copyFrom ∈ gw) (hR : d + 1 ≤ D) (hrs : (rest.map fun v => v.category).sum ≤ 8) (k : AW E layC p l e (rmD D) ms m args below meth c nL 0 0 Q (pc + 3) L rest τ) : AW E layC p l e (rmD D) ms m args below meth c nL 0 0 Q pc L (.ref (ea E b1) :: .ref (ea E b0) :: rest) σ :=
  s_callV X [.ref (ea E b1)] rest hM hd v_X7 hlay w1 g_731 g_732 g_68 g_733 nX7_copyFrom rfl rfl hrs (Nat.le_of_ble_eq_true rfl) hR k
def fX7_copyFrom (b0 : Nat) (b1 : Nat) (s0 : St) : Option (St) :=
    bd1 (fX0_copyFrom (b0 + 1) (b1 + 1) s0) fun s1 =>
    bd1 (fX4_copyFrom (b0 + 11) (b1 + 11) s1) fun s3 =>
    bd1 (fX4_copyFrom (b0 + 13) (b1 + 13) s3) fun s5 =>
    bd1 (fX4_copyFrom (b0 + 15) (b1 + 15) s5) fun s7 =>
    bd1 (fX4_copyFrom (b0 + 17) (b1 + 17) s7) fun s9 =>
    bd1 (ptf s9 b0 5 (s9 b1 5)) fun s11 =>
    some s11
set_option maxHeartbeats 4000000 in
set_option maxRecDepth 100000 in
theorem ctX7_copyFrom {l : Launch} {E : EE} {b0 : Nat} {b1 : Nat} {s0 : St} {t9 : St} (hb0 : isW b0) (hb1 : isW b1) (h : fX7_copyFrom b0 b1 s0 = some t9) : Ct l E layC yX7_copyFrom cX7_copyFrom 2 none 2 [.ref (ea E b0), .ref (ea E b1)] s0 none t9 := by
  refine Ct.of (by decide) (Nat.le_of_ble_eq_true rfl) ?_
  intro p e ms m below meth c X hlk hr
  have X : Cx E layC p ms m [.ref (ea E b0), .ref (ea E b1)].toArray c cX7_copyFrom RX7 2 := X
  refine r_sub (L' := [(0, .ref (ea E b0)), (1, .ref (ea E b1))]) [0, 1] rfl ?_
  unfold fX7_copyFrom at h
  refine r_aload_n X dX7_copyFrom_0 0 rfl rfl ?_
  refine r_getr X dX7_copyFrom_1 i_X7 v_X7 (lW0 hb0) 0 rfl (Nat.le_of_ble_eq_true rfl) g_176 ?_
  refine r_aload_n X dX7_copyFrom_4 1 rfl rfl ?_
  refine r_getr X dX7_copyFrom_5 i_X7 v_X7 (lW0 hb1) 0 rfl (Nat.le_of_ble_eq_true rfl) g_176 ?_
  obtain ⟨s1, e2, h⟩ := bd1_ok h
  refine kX0_copyFrom X (ctX0_copyFrom (wH hb0) (wH hb1) e2) dX7_copyFrom_8 (lH0 (wH hb0)) g_734 (Nat.le_of_ble_eq_true rfl) (Nat.le_of_ble_eq_true rfl) ?_
  refine r_aload_n X dX7_copyFrom_11 0 rfl rfl ?_
  refine r_getr X dX7_copyFrom_12 i_X7 v_X7 (lW0 hb0) 1 rfl (Nat.le_of_ble_eq_true rfl) g_178 ?_
  refine r_aload_n X dX7_copyFrom_15 1 rfl rfl ?_
  refine r_getr X dX7_copyFrom_16 i_X7 v_X7 (lW0 hb1) 1 rfl (Nat.le_of_ble_eq_true rfl) g_178 ?_
  obtain ⟨s3, e4, h⟩ := bd1_ok h
  refine kX4_copyFrom X (ctX4_copyFrom (wR11 hb0) (wR11 hb1) e4) dX7_copyFrom_19 (lR0 (wR11 hb0)) g_735 (Nat.le_of_ble_eq_true rfl) (Nat.le_of_ble_eq_true rfl) ?_
  refine r_aload_n X dX7_copyFrom_22 0 rfl rfl ?_
  refine r_getr X dX7_copyFrom_23 i_X7 v_X7 (lW0 hb0) 2 rfl (Nat.le_of_ble_eq_true rfl) g_180 ?_
  refine r_aload_n X dX7_copyFrom_26 1 rfl rfl ?_
  refine r_getr X dX7_copyFrom_27 i_X7 v_X7 (lW0 hb1) 2 rfl (Nat.le_of_ble_eq_true rfl) g_180 ?_
  obtain ⟨s5, e6, h⟩ := bd1_ok h
  refine kX4_copyFrom X (ctX4_copyFrom (wR13 hb0) (wR13 hb1) e6) dX7_copyFrom_30 (lR0 (wR13 hb0)) g_735 (Nat.le_of_ble_eq_true rfl) (Nat.le_of_ble_eq_true rfl) ?_
  refine r_aload_n X dX7_copyFrom_33 0 rfl rfl ?_
  refine r_getr X dX7_copyFrom_34 i_X7 v_X7 (lW0 hb0) 3 rfl (Nat.le_of_ble_eq_true rfl) g_183 ?_
  refine r_aload_n X dX7_copyFrom_37 1 rfl rfl ?_
  refine r_getr X dX7_copyFrom_38 i_X7 v_X7 (lW0 hb1) 3 rfl (Nat.le_of_ble_eq_true rfl) g_183 ?_
  obtain ⟨s7, e8, h⟩ := bd1_ok h
  refine kX4_copyFrom X (ctX4_copyFrom (wR15 hb0) (wR15 hb1) e8) dX7_copyFrom_41 (lR0 (wR15 hb0)) g_735 (Nat.le_of_ble_eq_true rfl) (Nat.le_of_ble_eq_true rfl) ?_
  refine r_aload_n X dX7_copyFrom_44 0 rfl rfl ?_
  refine r_getr X dX7_copyFrom_45 i_X7 v_X7 (lW0 hb0) 4 rfl (Nat.le_of_ble_eq_true rfl) g_185 ?_
  refine r_aload_n X dX7_copyFrom_48 1 rfl rfl ?_
  refine r_getr X dX7_copyFrom_49 i_X7 v_X7 (lW0 hb1) 4 rfl (Nat.le_of_ble_eq_true rfl) g_185 ?_
  obtain ⟨s9, e10, h⟩ := bd1_ok h
  refine kX4_copyFrom X (ctX4_copyFrom (wR17 hb0) (wR17 hb1) e10) dX7_copyFrom_52 (lR0 (wR17 hb0)) g_735 (Nat.le_of_ble_eq_true rfl) (Nat.le_of_ble_eq_true rfl) ?_
  refine r_aload_n X dX7_copyFrom_55 0 rfl rfl ?_
  refine r_aload_n X dX7_copyFrom_56 1 rfl rfl ?_
  refine r_geti X dX7_copyFrom_57 i_X7 v_X7 (lW0 hb1) 5 rfl (Nat.le_of_ble_eq_true rfl) g_186 ?_
  obtain ⟨s11, es11, h⟩ := pt_ok h
  refine s_puti X dX7_copyFrom_60 i_X7 tyX7_ok nmX7 v_X7 (lW0 hb0) 5 rfl (Nat.le_of_ble_eq_true rfl) g_186 rfl rfl ⟨rfl, rfl⟩ es11 ?_
  exact s_vret X hlk hr dX7_copyFrom_63 h
/-! X7_textOf -/
theorem nX7_textOf : yX7_textOf.cls ≠ "java/lang/invoke/MethodHandle" ∧ yX7_textOf.cls ≠ "java/lang/invoke/VarHandle" ∧ (parseMethodDescriptor yX7_textOf.desc).map (fun d => d.parameters.length) = some 1 := by decide +kernel
theorem kX7_textOf {l : Launch} {E : EE} {p : Program} {e : Env} {ms : State} {m : MethodId} {args : Array Value} {below : List Frame} {meth : Method} {c : Code} {cc : ByteArray} {own : String} {nL pc idx d D : Nat} {Q : State → Prop} {L : List (Nat × Value)} {rest : List Value} {σ τ : St} {b0 : Nat} {a1 : Int32} {r : Nat} {fl : List (Option Nat)} (X : Cx E layC p ms m args c cc own nL) (hM : Ct l E layC yX7_textOf cX7_textOf 2 (some (.object "ScullerySweets$Row")) d [.ref (ea E b0), .int a1] σ (some (.ref (ea E r))) τ) (hd : decode cc pc = .ok (.invokevirtual idx, 3)) (hlay : layC[b0]? = some (.inl (6, fl))) (w1 : Cond.methodLink own idx yX7_textOf ∈ gw) (hR : d + 1 ≤ D) (hrs : (rest.map fun v => v.category).sum ≤ 8) (k : AW E layC p l e (rmD D) ms m args below meth c nL 0 0 Q (pc + 3) L (.ref (ea E r) :: rest) τ) : AW E layC p l e (rmD D) ms m args below meth c nL 0 0 Q pc L (.int a1 :: .ref (ea E b0) :: rest) σ :=
  s_callV X [.int a1] rest hM hd v_X7 hlay w1 g_498 g_499 g_68 g_500 nX7_textOf rfl rfl hrs (Nat.le_of_ble_eq_true rfl) hR k
def fX7_textOf (b0 : Nat) (a1 : Int32) (s0 : St) : Option (Nat × St) :=
    if a1 = 0 then
    some (b0 + 15, s0)
    else
    some (b0 + 17, s0)
set_option maxHeartbeats 4000000 in
set_option maxRecDepth 100000 in
theorem ctX7_textOf {l : Launch} {E : EE} {b0 : Nat} {a1 : Int32} {s0 : St} {r9 : Nat} {t9 : St} (hb0 : isW b0) (h : fX7_textOf b0 a1 s0 = some (r9, t9)) : Ct l E layC yX7_textOf cX7_textOf 2 (some (.object "ScullerySweets$Row")) 0 [.ref (ea E b0), .int a1] s0 (some (.ref (ea E r9))) t9 := by
  refine Ct.of (by decide) (Nat.le_of_ble_eq_true rfl) ?_
  intro p e ms m below meth c X hlk hr
  have X : Cx E layC p ms m [.ref (ea E b0), .int a1].toArray c cX7_textOf RX7 2 := X
  refine r_sub (L' := [(0, .ref (ea E b0)), (1, .int a1)]) [0, 1] rfl ?_
  unfold fX7_textOf at h
  refine r_iload_n X dX7_textOf_0 1 rfl rfl ?_
  refine r_if_ne X 11 dX7_textOf_1 (by decide) (fun c1 => ?_) (fun c1 => ?_)
  · rw [if_neg c1] at h
    refine r_aload_n X dX7_textOf_11 0 rfl rfl ?_
    refine r_getr X dX7_textOf_12 i_X7 v_X7 (lW0 hb0) 4 rfl (Nat.le_of_ble_eq_true rfl) g_185 ?_
    exact s_aret X hlk hr dX7_textOf_15 h
  · rw [if_pos c1] at h
    refine r_aload_n X dX7_textOf_4 0 rfl rfl ?_
    refine r_getr X dX7_textOf_5 i_X7 v_X7 (lW0 hb0) 3 rfl (Nat.le_of_ble_eq_true rfl) g_183 ?_
    refine r_goto X 15 dX7_textOf_8 (by decide) ?_
    exact s_aret X hlk hr dX7_textOf_15 h
theorem fX7_textOf_isR {b0 : Nat} {a1 : Int32} {s0 : St} {r9 : Nat} {t9 : St} (hb : isW b0) (h : fX7_textOf b0 a1 s0 = some (r9, t9)) : isR r9 := by
  unfold fX7_textOf at h
  split at h <;> cases h
  · exact wR15 hb
  · exact wR17 hb
/-! X7_draw -/
theorem nX7_draw : yX7_draw.cls ≠ "java/lang/invoke/MethodHandle" ∧ yX7_draw.cls ≠ "java/lang/invoke/VarHandle" ∧ (parseMethodDescriptor yX7_draw.desc).map (fun d => d.parameters.length) = some 0 := by decide +kernel
theorem kX7_draw {l : Launch} {E : EE} {p : Program} {e : Env} {ms : State} {m : MethodId} {args : Array Value} {below : List Frame} {meth : Method} {c : Code} {cc : ByteArray} {own : String} {nL pc idx d D : Nat} {Q : State → Prop} {L : List (Nat × Value)} {rest : List Value} {σ τ : St} {b0 : Nat} {r : Int32} {fl : List (Option Nat)} (X : Cx E layC p ms m args c cc own nL) (hM : Ct l E layC yX7_draw cX7_draw 1 (some .int) d [.ref (ea E b0)] σ (some (.int r)) τ) (hd : decode cc pc = .ok (.invokevirtual idx, 3)) (hlay : layC[b0]? = some (.inl (6, fl))) (w1 : Cond.methodLink own idx yX7_draw ∈ gw) (hR : d + 1 ≤ D) (hrs : (rest.map fun v => v.category).sum ≤ 8) (k : AW E layC p l e (rmD D) ms m args below meth c nL 0 0 Q (pc + 3) L (.int r :: rest) τ) : AW E layC p l e (rmD D) ms m args below meth c nL 0 0 Q pc L (.ref (ea E b0) :: rest) σ :=
  s_callV X [] rest hM hd v_X7 hlay w1 g_548 g_549 g_68 g_550 nX7_draw rfl rfl hrs (Nat.le_of_ble_eq_true rfl) hR k
def fX7_draw (b0 : Nat) (s0 : St) : Option (Int32 × St) :=
    bd1 (ptf s0 b0 5 (((s0 b0 5) * 1103515245) + 12345)) fun s1 =>
    some (ush (s1 b0 5) 8, s1)
set_option maxHeartbeats 4000000 in
set_option maxRecDepth 100000 in
theorem ctX7_draw {l : Launch} {E : EE} {b0 : Nat} {s0 : St} {r9 : Int32} {t9 : St} (hb0 : isW b0) (h : fX7_draw b0 s0 = some (r9, t9)) : Ct l E layC yX7_draw cX7_draw 1 (some .int) 0 [.ref (ea E b0)] s0 (some (.int r9)) t9 := by
  refine Ct.of (by decide) (Nat.le_of_ble_eq_true rfl) ?_
  intro p e ms m below meth c X hlk hr
  have X : Cx E layC p ms m [.ref (ea E b0)].toArray c cX7_draw RX7 1 := X
  refine r_sub (L' := [(0, .ref (ea E b0))]) [0] rfl ?_
  unfold fX7_draw at h
  refine r_aload_n X dX7_draw_0 0 rfl rfl ?_
  refine r_aload_n X dX7_draw_1 0 rfl rfl ?_
  refine r_geti X dX7_draw_2 i_X7 v_X7 (lW0 hb0) 5 rfl (Nat.le_of_ble_eq_true rfl) g_186 ?_
  refine r_ldc X dX7_draw_5 g_551 ?_
  refine r_imul X dX7_draw_7 ?_
  refine r_sipush X dX7_draw_8 (v := 12345) (by decide) ?_
  refine r_iadd X dX7_draw_11 ?_
  obtain ⟨s1, es1, h⟩ := pt_ok h
  refine s_puti X dX7_draw_12 i_X7 tyX7_ok nmX7 v_X7 (lW0 hb0) 5 rfl (Nat.le_of_ble_eq_true rfl) g_186 rfl rfl ⟨rfl, rfl⟩ es1 ?_
  refine r_aload_n X dX7_draw_15 0 rfl rfl ?_
  refine r_geti X dX7_draw_16 i_X7 v_X7 (lW0 hb0) 5 rfl (Nat.le_of_ble_eq_true rfl) g_186 ?_
  refine r_bipush X dX7_draw_19 (v := 8) (by decide) ?_
  refine s_iushr X dX7_draw_21 ?_
  exact s_iret X hlk hr dX7_draw_22 h
/-! X8_within -/
theorem nX8_within : yX8_within.cls ≠ "java/lang/invoke/MethodHandle" ∧ yX8_within.cls ≠ "java/lang/invoke/VarHandle" ∧ (parseMethodDescriptor yX8_within.desc).map (fun d => d.parameters.length) = some 3 := by decide +kernel
theorem kX8_within {l : Launch} {E : EE} {p : Program} {e : Env} {ms : State} {m : MethodId} {args : Array Value} {below : List Frame} {meth : Method} {c : Code} {cc : ByteArray} {own : String} {nL pc idx d D : Nat} {Q : State → Prop} {L : List (Nat × Value)} {rest : List Value} {σ τ : St} {a0 : Int32} {a1 : Int32} {a2 : Int32} {r : Int32} (X : Cx E layC p ms m args c cc own nL) (hM : Ct l E layC yX8_within cX8_within 3 (some .boolean) d [.int a0, .int a1, .int a2] σ (some (.int r)) τ) (hd : decode cc pc = .ok (.invokestatic idx, 3)) (w1 : Cond.methodLink own idx yX8_within ∈ gw) (hR : d + 1 ≤ D) (hrs : (rest.map fun v => v.category).sum ≤ 8) (k : AW E layC p l e (rmD D) ms m args below meth c nL 0 0 Q (pc + 3) L (.int r :: rest) τ) : AW E layC p l e (rmD D) ms m args below meth c nL 0 0 Q pc L (.int a2 :: .int a1 :: .int a0 :: rest) σ :=
  s_callS X [.int a0, .int a1, .int a2] rest hM hd w1 g_335 g_67 g_336 nX8_within rfl rfl hrs (Nat.le_of_ble_eq_true rfl) hR k
def fX8_within (a0 : Int32) (a1 : Int32) (a2 : Int32) (s0 : St) : Option (Int32 × St) :=
    jn (fun (_ : Unit) =>
    some (0, s0)) fun j14 =>
    if a0 < a1 then
    j14 ()
    else
    if a2 < a0 then
    j14 ()
    else
    some (1, s0)
set_option maxHeartbeats 4000000 in
set_option maxRecDepth 100000 in
theorem ctX8_within {l : Launch} {E : EE} {a0 : Int32} {a1 : Int32} {a2 : Int32} {s0 : St} {r9 : Int32} {t9 : St}  (h : fX8_within a0 a1 a2 s0 = some (r9, t9)) : Ct l E layC yX8_within cX8_within 3 (some .boolean) 0 [.int a0, .int a1, .int a2] s0 (some (.int r9)) t9 := by
  refine Ct.of (by decide) (Nat.le_of_ble_eq_true rfl) ?_
  intro p e ms m below meth c X hlk hr
  have X : Cx E layC p ms m [.int a0, .int a1, .int a2].toArray c cX8_within RX8 3 := X
  refine r_sub (L' := [(0, .int a0), (1, .int a1), (2, .int a2)]) [0, 1, 2] rfl ?_
  unfold fX8_within at h
  refine r_iload_n X dX8_within_0 0 rfl rfl ?_
  refine r_iload_n X dX8_within_1 1 rfl rfl ?_
  obtain ⟨j14, ej14, h⟩ := jn1_ok h
  have hj14 : ∀ (u : Unit), j14 u = some (r9, t9) → AW E layC p l e (rmD 0) ms m [.int a0, .int a1, .int a2].toArray below meth c 3 0 0 (MQc E layC below [.int a0, .int a1, .int a2].toArray ms (some (.int r9)) t9) 14 [] [] s0 := by
    intro u h
    rw [ej14] at h
    refine r_iconst X dX8_within_14 (v := 0) (by decide) ?_
    exact s_zret X hlk hr (by decide) dX8_within_15 h
  refine r_icmp_lt X 14 dX8_within_2 (by decide) (fun c2 => ?_) (fun c2 => ?_)
  · rw [if_pos c2] at h
    refine r_sub (L' := []) [] rfl ?_
    exact hj14 _ h
  · rw [if_neg c2] at h
    refine r_iload_n X dX8_within_5 0 rfl rfl ?_
    refine r_iload_n X dX8_within_6 2 rfl rfl ?_
    refine r_icmp_gt X 14 dX8_within_7 (by decide) (fun c1 => ?_) (fun c1 => ?_)
    · rw [if_pos c1] at h
      refine r_sub (L' := []) [] rfl ?_
      exact hj14 _ h
    · rw [if_neg c1] at h
      refine r_iconst X dX8_within_10 (v := 1) (by decide) ?_
      refine r_goto X 15 dX8_within_11 (by decide) ?_
      exact s_zret X hlk hr (by decide) dX8_within_15 h
