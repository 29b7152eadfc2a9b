/-! X8_sheet -/
theorem nX8_sheet : yX8_sheet.cls ≠ "java/lang/invoke/MethodHandle" ∧ yX8_sheet.cls ≠ "java/lang/invoke/VarHandle" ∧ (parseMethodDescriptor yX8_sheet.desc).map (fun d => d.parameters.length) = some 3 := by decide +kernel
theorem kX8_sheet {l : Launch} {E : EE} {p : Program} {e : Env} {ms : State} {m : MethodId} {args : Array Value} {below : List Frame} {meth : Method} {c : Code} {cc : ByteArray} {own : String} {nL pc idx d D : Nat} {Q : State → Prop} {L : List (Nat × Value)} {rest : List Value} {σ τ : St} {a1 : Int32} {a2 : Int32} {a3 : Int32} {r : Int32} {fl : List (Option Nat)} (X : Cx E layC p ms m args c cc own nL) (hM : Ct l E layC yX8_sheet cX8_sheet 4 (some .int) d [.ref (ea E 0), .int a1, .int a2, .int a3] σ (some (.int r)) τ) (hd : decode cc pc = .ok (.invokevirtual idx, 3)) (hlay : layC[0]? = some (.inl (7, fl))) (w1 : Cond.methodLink own idx yX8_sheet ∈ gw) (hR : d + 1 ≤ D) (hrs : (rest.map fun v => v.category).sum ≤ 8) (k : AW E layC p l e (rmD D) ms m args below meth c nL 0 0 Q (pc + 3) L (.int r :: rest) τ) : AW E layC p l e (rmD D) ms m args below meth c nL 0 0 Q pc L (.int a3 :: .int a2 :: .int a1 :: .ref (ea E 0) :: rest) σ :=
  s_callV X [.int a1, .int a2, .int a3] rest hM hd v_X8 hlay w1 g_692 g_693 g_67 g_694 nX8_sheet rfl rfl hrs (Nat.le_of_ble_eq_true rfl) hR k
def fX8_sheet (a1 : Int32) (a2 : Int32) (a3 : Int32) (s0 : St) : Option (Int32 × St) :=
    bd2 (fX8_isSheet a1 s0) fun u3 s1 =>
    jn (fun (_ : Unit) =>
    bd2 (fX8_error 1 s1) fun u6 s4 =>
    some (u6, s4)) fun j29 =>
    if u3 = 0 then
    j29 ()
    else
    jn (fun (_ : Unit) =>
    jn (fun (_ : Unit) =>
    jn (fun (_ : Unit) =>
    bd1 (rld 59 4 a1) fun v8 =>
    jn (fun (w9 : Int32) =>
    bd1 (fX5_lay v8 a2 w9 s1) fun s10 =>
    some (1, s10)) fun j81 =>
    if a2 = 0 then
    j81 0
    else
    j81 a3) fun j65 =>
    if a2 = 0 then
    j65 ()
    else
    if a3 ≤ 40 then
    j65 ()
    else
    bd2 (fX8_error 1 s1) fun u15 s13 =>
    some (u15, s13)) fun j49 =>
    if a2 = 0 then
    j49 ()
    else
    if 0 ≤ a3 then
    j49 ()
    else
    bd2 (fX8_error 3 s1) fun u20 s18 =>
    some (u20, s18)) fun j35 =>
    if a2 = 0 then
    j35 ()
    else
    if a2 = 8 then
    j35 ()
    else
    if a2 = 16 then
    j35 ()
    else
    if a2 = 32 then
    j35 ()
    else
    j29 ()
set_option maxHeartbeats 4000000 in
set_option maxRecDepth 100000 in
theorem ctX8_sheet {l : Launch} {E : EE} {a1 : Int32} {a2 : Int32} {a3 : Int32} {s0 : St} {r9 : Int32} {t9 : St}  (h : fX8_sheet a1 a2 a3 s0 = some (r9, t9)) : Ct l E layC yX8_sheet cX8_sheet 4 (some .int) 2 [.ref (ea E 0), .int a1, .int a2, .int a3] s0 (some (.int r9)) t9 := by
  refine Ct.of (by decide) (Nat.le_of_ble_eq_true rfl) ?_
  intro p e ms m below meth c X hlk hr
  have X : Cx E layC p ms m [.ref (ea E 0), .int a1, .int a2, .int a3].toArray c cX8_sheet RX8 4 := X
  refine r_sub (L' := [(0, .ref (ea E 0)), (1, .int a1), (2, .int a2), (3, .int a3)]) [0, 1, 2, 3] rfl ?_
  unfold fX8_sheet at h
  refine r_iload_n X dX8_sheet_0 1 rfl rfl ?_
  obtain ⟨u3, s1, e2, h⟩ := bd2_ok h
  refine kX8_isSheet X (ctX8_isSheet e2) dX8_sheet_1 g_600 (Nat.le_of_ble_eq_true rfl) (Nat.le_of_ble_eq_true rfl) ?_
  obtain ⟨j29, ej29, h⟩ := jn1_ok h
  have hj29 : ∀ (u : Unit), j29 u = some (r9, t9) → AW E layC p l e (rmD 2) ms m [.ref (ea E 0), .int a1, .int a2, .int a3].toArray below meth c 4 0 0 (MQc E layC below [.ref (ea E 0), .int a1, .int a2, .int a3].toArray ms (some (.int r9)) t9) 29 [(0, .ref (ea E 0))] [] s1 := by
    intro u h
    rw [ej29] at h
    refine r_aload_n X dX8_sheet_29 0 rfl rfl ?_
    refine r_iconst X dX8_sheet_30 (v := 1) (by decide) ?_
    obtain ⟨u6, s4, e5, h⟩ := bd2_ok h
    refine kX8_error X (ctX8_error e5) dX8_sheet_31 lC_0 g_337 (Nat.le_of_ble_eq_true rfl) (Nat.le_of_ble_eq_true rfl) ?_
    exact s_iret X hlk hr dX8_sheet_34 h
  refine r_if_eq X 29 dX8_sheet_4 (by decide) (fun c27 => ?_) (fun c27 => ?_)
  · rw [if_pos c27] at h
    refine r_sub (L' := [(0, .ref (ea E 0))]) [0] rfl ?_
    exact hj29 _ h
  · rw [if_neg c27] at h
    refine r_iload_n X dX8_sheet_7 2 rfl rfl ?_
    obtain ⟨j35, ej35, h⟩ := jn1_ok h
    have hj35 : ∀ (u : Unit), j35 u = some (r9, t9) → AW E layC p l e (rmD 2) ms m [.ref (ea E 0), .int a1, .int a2, .int a3].toArray below meth c 4 0 0 (MQc E layC below [.ref (ea E 0), .int a1, .int a2, .int a3].toArray ms (some (.int r9)) t9) 35 [(0, .ref (ea E 0)), (1, .int a1), (2, .int a2), (3, .int a3)] [] s1 := by
      intro u h
      rw [ej35] at h
      refine r_iload_n X dX8_sheet_35 2 rfl rfl ?_
      obtain ⟨j49, ej49, h⟩ := jn1_ok h
      have hj49 : ∀ (u : Unit), j49 u = some (r9, t9) → AW E layC p l e (rmD 2) ms m [.ref (ea E 0), .int a1, .int a2, .int a3].toArray below meth c 4 0 0 (MQc E layC below [.ref (ea E 0), .int a1, .int a2, .int a3].toArray ms (some (.int r9)) t9) 49 [(0, .ref (ea E 0)), (1, .int a1), (2, .int a2), (3, .int a3)] [] s1 := by
        intro u h
        rw [ej49] at h
        refine r_iload_n X dX8_sheet_49 2 rfl rfl ?_
        obtain ⟨j65, ej65, h⟩ := jn1_ok h
        have hj65 : ∀ (u : Unit), j65 u = some (r9, t9) → AW E layC p l e (rmD 2) ms m [.ref (ea E 0), .int a1, .int a2, .int a3].toArray below meth c 4 0 0 (MQc E layC below [.ref (ea E 0), .int a1, .int a2, .int a3].toArray ms (some (.int r9)) t9) 65 [(0, .ref (ea E 0)), (1, .int a1), (2, .int a2), (3, .int a3)] [] s1 := by
          intro u h
          rw [ej65] at h
          refine r_aload_n X dX8_sheet_65 0 rfl rfl ?_
          refine r_getr X dX8_sheet_66 i_X8 v_X8 lC_0 6 rfl (Nat.le_of_ble_eq_true rfl) g_299 ?_
          refine r_iload_n X dX8_sheet_69 1 rfl rfl ?_
          obtain ⟨g7, v8, ev8, h⟩ := rl_ok h
          refine s_aald X dX8_sheet_70 lC_58 g7 ev8 ?_
          refine r_iload_n X dX8_sheet_71 2 rfl rfl ?_
          refine r_iload_n X dX8_sheet_72 2 rfl rfl ?_
          obtain ⟨j81, ej81, h⟩ := jn1_ok h
          have hj81 : ∀ (w9 : Int32), j81 w9 = some (r9, t9) → AW E layC p l e (rmD 2) ms m [.ref (ea E 0), .int a1, .int a2, .int a3].toArray below meth c 4 0 0 (MQc E layC below [.ref (ea E 0), .int a1, .int a2, .int a3].toArray ms (some (.int r9)) t9) 81 [] [.int w9, .int a2, .ref (ea E v8)] s1 := by
            intro w9 h
            rw [ej81] at h
            obtain ⟨s10, e11, h⟩ := bd1_ok h
            refine kX5_lay X (ctX5_lay (hS_of2 g7 ev8) e11) dX8_sheet_81 (lS0 (hS_of2 g7 ev8)) g_695 (Nat.le_of_ble_eq_true rfl) (Nat.le_of_ble_eq_true rfl) ?_
            refine r_iconst X dX8_sheet_84 (v := 1) (by decide) ?_
            exact s_iret X hlk hr dX8_sheet_85 h
          refine r_if_ne X 80 dX8_sheet_73 (by decide) (fun c12 => ?_) (fun c12 => ?_)
          · rw [if_neg c12] at h
            refine r_iload_n X dX8_sheet_80 3 rfl rfl ?_
            refine r_sub (L' := []) [] rfl ?_
            exact hj81 _ h
          · rw [if_pos c12] at h
            refine r_iconst X dX8_sheet_76 (v := 0) (by decide) ?_
            refine r_goto X 81 dX8_sheet_77 (by decide) ?_
            refine r_sub (L' := []) [] rfl ?_
            exact hj81 _ h
        refine r_if_eq X 65 dX8_sheet_50 (by decide) (fun c17 => ?_) (fun c17 => ?_)
        · rw [if_pos c17] at h
          exact hj65 _ h
        · rw [if_neg c17] at h
          refine r_iload_n X dX8_sheet_53 3 rfl rfl ?_
          refine r_bipush X dX8_sheet_54 (v := 40) (by decide) ?_
          refine r_icmp_le X 65 dX8_sheet_56 (by decide) (fun c16 => ?_) (fun c16 => ?_)
          · rw [if_pos c16] at h
            exact hj65 _ h
          · rw [if_neg c16] at h
            refine r_aload_n X dX8_sheet_59 0 rfl rfl ?_
            refine r_iconst X dX8_sheet_60 (v := 1) (by decide) ?_
            obtain ⟨u15, s13, e14, h⟩ := bd2_ok h
            refine kX8_error X (ctX8_error e14) dX8_sheet_61 lC_0 g_337 (Nat.le_of_ble_eq_true rfl) (Nat.le_of_ble_eq_true rfl) ?_
            exact s_iret X hlk hr dX8_sheet_64 h
      refine r_if_eq X 49 dX8_sheet_36 (by decide) (fun c22 => ?_) (fun c22 => ?_)
      · rw [if_pos c22] at h
        exact hj49 _ h
      · rw [if_neg c22] at h
        refine r_iload_n X dX8_sheet_39 3 rfl rfl ?_
        refine r_if_ge X 49 dX8_sheet_40 (by decide) (fun c21 => ?_) (fun c21 => ?_)
        · rw [if_pos c21] at h
          exact hj49 _ h
        · rw [if_neg c21] at h
          refine r_aload_n X dX8_sheet_43 0 rfl rfl ?_
          refine r_iconst X dX8_sheet_44 (v := 3) (by decide) ?_
          obtain ⟨u20, s18, e19, h⟩ := bd2_ok h
          refine kX8_error X (ctX8_error e19) dX8_sheet_45 lC_0 g_337 (Nat.le_of_ble_eq_true rfl) (Nat.le_of_ble_eq_true rfl) ?_
          exact s_iret X hlk hr dX8_sheet_48 h
    refine r_if_eq X 35 dX8_sheet_8 (by decide) (fun c26 => ?_) (fun c26 => ?_)
    · rw [if_pos c26] at h
      exact hj35 _ h
    · rw [if_neg c26] at h
      refine r_iload_n X dX8_sheet_11 2 rfl rfl ?_
      refine r_bipush X dX8_sheet_12 (v := 8) (by decide) ?_
      refine r_icmp_eq X 35 dX8_sheet_14 (by decide) (fun c25 => ?_) (fun c25 => ?_)
      · rw [if_pos c25] at h
        exact hj35 _ h
      · rw [if_neg c25] at h
        refine r_iload_n X dX8_sheet_17 2 rfl rfl ?_
        refine r_bipush X dX8_sheet_18 (v := 16) (by decide) ?_
        refine r_icmp_eq X 35 dX8_sheet_20 (by decide) (fun c24 => ?_) (fun c24 => ?_)
        · rw [if_pos c24] at h
          exact hj35 _ h
        · rw [if_neg c24] at h
          refine r_iload_n X dX8_sheet_23 2 rfl rfl ?_
          refine r_bipush X dX8_sheet_24 (v := 32) (by decide) ?_
          refine r_icmp_eq X 35 dX8_sheet_26 (by decide) (fun c23 => ?_) (fun c23 => ?_)
          · rw [if_pos c23] at h
            exact hj35 _ h
          · rw [if_neg c23] at h
            refine r_sub (L' := [(0, .ref (ea E 0))]) [0] rfl ?_
            exact hj29 _ h
/-! X8_put -/
theorem nX8_put : yX8_put.cls ≠ "java/lang/invoke/MethodHandle" ∧ yX8_put.cls ≠ "java/lang/invoke/VarHandle" ∧ (parseMethodDescriptor yX8_put.desc).map (fun d => d.parameters.length) = some 3 := by decide +kernel
theorem kX8_put {l : Launch} {E : EE} {p : Program} {e : Env} {ms : State} {m : MethodId} {args : Array Value} {below : List Frame} {meth : Method} {c : Code} {cc : ByteArray} {own : String} {nL pc idx d D : Nat} {Q : State → Prop} {L : List (Nat × Value)} {rest : List Value} {σ τ : St} {a1 : Int32} {a2 : Int32} {a3 : Int32} {r : Int32} {fl : List (Option Nat)} (X : Cx E layC p ms m args c cc own nL) (hM : Ct l E layC yX8_put cX8_put 4 (some .int) d [.ref (ea E 0), .int a1, .int a2, .int a3] σ (some (.int r)) τ) (hd : decode cc pc = .ok (.invokevirtual idx, 3)) (hlay : layC[0]? = some (.inl (7, fl))) (w1 : Cond.methodLink own idx yX8_put ∈ gw) (hR : d + 1 ≤ D) (hrs : (rest.map fun v => v.category).sum ≤ 8) (k : AW E layC p l e (rmD D) ms m args below meth c nL 0 0 Q (pc + 3) L (.int r :: rest) τ) : AW E layC p l e (rmD D) ms m args below meth c nL 0 0 Q pc L (.int a3 :: .int a2 :: .int a1 :: .ref (ea E 0) :: rest) σ :=
  s_callV X [.int a1, .int a2, .int a3] rest hM hd v_X8 hlay w1 g_701 g_702 g_67 g_703 nX8_put rfl rfl hrs (Nat.le_of_ble_eq_true rfl) hR k
def fX8_put (a1 : Int32) (a2 : Int32) (a3 : Int32) (s0 : St) : Option (Int32 × St) :=
    bd2 (fX8_isSheet a1 s0) fun u3 s1 =>
    if u3 = 0 then
    bd2 (fX8_error 1 s1) fun u25 s23 =>
    some (u25, s23)
    else
    bd1 (rld 59 4 a1) fun v5 =>
    if (s1 v5 2) = 0 then
    bd2 (fX8_error 2 s1) fun u21 s19 =>
    some (u21, s19)
    else
    bd1 (rld 59 4 a1) fun v7 =>
    bd2 (fX8_within a2 0 ((s1 v7 1) - 1) s1) fun u10 s8 =>
    if u10 = 0 then
    bd2 (fX8_error 1 s8) fun u17 s15 =>
    some (u17, s15)
    else
    bd1 (rld 59 4 a1) fun v12 =>
    bd1 (fX5_write v12 a2 a3 s8) fun s13 =>
    some (1, s13)
set_option maxHeartbeats 4000000 in
set_option maxRecDepth 100000 in
theorem ctX8_put {l : Launch} {E : EE} {a1 : Int32} {a2 : Int32} {a3 : Int32} {s0 : St} {r9 : Int32} {t9 : St}  (h : fX8_put a1 a2 a3 s0 = some (r9, t9)) : Ct l E layC yX8_put cX8_put 4 (some .int) 2 [.ref (ea E 0), .int a1, .int a2, .int a3] s0 (some (.int r9)) t9 := by
  refine Ct.of (by decide) (Nat.le_of_ble_eq_true rfl) ?_
  intro p e ms m below meth c X hlk hr
  have X : Cx E layC p ms m [.ref (ea E 0), .int a1, .int a2, .int a3].toArray c cX8_put RX8 4 := X
  refine r_sub (L' := [(0, .ref (ea E 0)), (1, .int a1), (2, .int a2), (3, .int a3)]) [0, 1, 2, 3] rfl ?_
  unfold fX8_put at h
  refine r_iload_n X dX8_put_0 1 rfl rfl ?_
  obtain ⟨u3, s1, e2, h⟩ := bd2_ok h
  refine kX8_isSheet X (ctX8_isSheet e2) dX8_put_1 g_600 (Nat.le_of_ble_eq_true rfl) (Nat.le_of_ble_eq_true rfl) ?_
  refine r_if_ne X 13 dX8_put_4 (by decide) (fun c26 => ?_) (fun c26 => ?_)
  · rw [if_neg c26] at h
    refine r_aload_n X dX8_put_13 0 rfl rfl ?_
    refine r_getr X dX8_put_14 i_X8 v_X8 lC_0 6 rfl (Nat.le_of_ble_eq_true rfl) g_299 ?_
    refine r_iload_n X dX8_put_17 1 rfl rfl ?_
    obtain ⟨g4, v5, ev5, h⟩ := rl_ok h
    refine s_aald X dX8_put_18 lC_58 g4 ev5 ?_
    refine r_geti X dX8_put_19 i_X5 v_X5 (lS0 (hS_of2 g4 ev5)) 2 rfl (Nat.le_of_ble_eq_true rfl) g_285 ?_
    refine r_if_ne X 31 dX8_put_22 (by decide) (fun c22 => ?_) (fun c22 => ?_)
    · rw [if_neg c22] at h
      refine r_iload_n X dX8_put_31 2 rfl rfl ?_
      refine r_iconst X dX8_put_32 (v := 0) (by decide) ?_
      refine r_aload_n X dX8_put_33 0 rfl rfl ?_
      refine r_getr X dX8_put_34 i_X8 v_X8 lC_0 6 rfl (Nat.le_of_ble_eq_true rfl) g_299 ?_
      refine r_iload_n X dX8_put_37 1 rfl rfl ?_
      obtain ⟨g6, v7, ev7, h⟩ := rl_ok h
      refine s_aald X dX8_put_38 lC_58 g6 ev7 ?_
      refine r_geti X dX8_put_39 i_X5 v_X5 (lS0 (hS_of2 g6 ev7)) 1 rfl (Nat.le_of_ble_eq_true rfl) g_283 ?_
      refine r_iconst X dX8_put_42 (v := 1) (by decide) ?_
      refine r_isub X dX8_put_43 ?_
      obtain ⟨u10, s8, e9, h⟩ := bd2_ok h
      refine kX8_within X (ctX8_within e9) dX8_put_44 g_334 (Nat.le_of_ble_eq_true rfl) (Nat.le_of_ble_eq_true rfl) ?_
      refine r_if_ne X 56 dX8_put_47 (by decide) (fun c18 => ?_) (fun c18 => ?_)
      · rw [if_neg c18] at h
        refine r_aload_n X dX8_put_56 0 rfl rfl ?_
        refine r_getr X dX8_put_57 i_X8 v_X8 lC_0 6 rfl (Nat.le_of_ble_eq_true rfl) g_299 ?_
        refine r_iload_n X dX8_put_60 1 rfl rfl ?_
        obtain ⟨g11, v12, ev12, h⟩ := rl_ok h
        refine s_aald X dX8_put_61 lC_58 g11 ev12 ?_
        refine r_iload_n X dX8_put_62 2 rfl rfl ?_
        refine r_iload_n X dX8_put_63 3 rfl rfl ?_
        obtain ⟨s13, e14, h⟩ := bd1_ok h
        refine kX5_write X (ctX5_write (hS_of2 g11 ev12) e14) dX8_put_64 (lS0 (hS_of2 g11 ev12)) g_704 (Nat.le_of_ble_eq_true rfl) (Nat.le_of_ble_eq_true rfl) ?_
        refine r_iconst X dX8_put_67 (v := 1) (by decide) ?_
        exact s_iret X hlk hr dX8_put_68 h
      · rw [if_pos c18] at h
        refine r_aload_n X dX8_put_50 0 rfl rfl ?_
        refine r_iconst X dX8_put_51 (v := 1) (by decide) ?_
        obtain ⟨u17, s15, e16, h⟩ := bd2_ok h
        refine kX8_error X (ctX8_error e16) dX8_put_52 lC_0 g_337 (Nat.le_of_ble_eq_true rfl) (Nat.le_of_ble_eq_true rfl) ?_
        exact s_iret X hlk hr dX8_put_55 h
    · rw [if_pos c22] at h
      refine r_aload_n X dX8_put_25 0 rfl rfl ?_
      refine r_iconst X dX8_put_26 (v := 2) (by decide) ?_
      obtain ⟨u21, s19, e20, h⟩ := bd2_ok h
      refine kX8_error X (ctX8_error e20) dX8_put_27 lC_0 g_337 (Nat.le_of_ble_eq_true rfl) (Nat.le_of_ble_eq_true rfl) ?_
      exact s_iret X hlk hr dX8_put_30 h
  · rw [if_pos c26] at h
    refine r_aload_n X dX8_put_7 0 rfl rfl ?_
    refine r_iconst X dX8_put_8 (v := 1) (by decide) ?_
    obtain ⟨u25, s23, e24, h⟩ := bd2_ok h
    refine kX8_error X (ctX8_error e24) dX8_put_9 lC_0 g_337 (Nat.le_of_ble_eq_true rfl) (Nat.le_of_ble_eq_true rfl) ?_
    exact s_iret X hlk hr dX8_put_12 h
/-! X8_move -/
theorem nX8_move : yX8_move.cls ≠ "java/lang/invoke/MethodHandle" ∧ yX8_move.cls ≠ "java/lang/invoke/VarHandle" ∧ (parseMethodDescriptor yX8_move.desc).map (fun d => d.parameters.length) = some 5 := by decide +kernel
theorem kX8_move {l : Launch} {E : EE} {p : Program} {e : Env} {ms : State} {m : MethodId} {args : Array Value} {below : List Frame} {meth : Method} {c : Code} {cc : ByteArray} {own : String} {nL pc idx d D : Nat} {Q : State → Prop} {L : List (Nat × Value)} {rest : List Value} {σ τ : St} {a1 : Int32} {a2 : Int32} {a3 : Int32} {a4 : Int32} {a5 : Int32} {r : Int32} {fl : List (Option Nat)} (X : Cx E layC p ms m args c cc own nL) (hM : Ct l E layC yX8_move cX8_move 8 (some .int) d [.ref (ea E 0), .int a1, .int a2, .int a3, .int a4, .int a5] σ (some (.int r)) τ) (hd : decode cc pc = .ok (.invokevirtual idx, 3)) (hlay : layC[0]? = some (.inl (7, fl))) (w1 : Cond.methodLink own idx yX8_move ∈ gw) (hR : d + 1 ≤ D) (hrs : (rest.map fun v => v.category).sum ≤ 8) (k : AW E layC p l e (rmD D) ms m args below meth c nL 0 0 Q (pc + 3) L (.int r :: rest) τ) : AW E layC p l e (rmD D) ms m args below meth c nL 0 0 Q pc L (.int a5 :: .int a4 :: .int a3 :: .int a2 :: .int a1 :: .ref (ea E 0) :: rest) σ :=
  s_callV X [.int a1, .int a2, .int a3, .int a4, .int a5] rest hM hd v_X8 hlay w1 g_709 g_710 g_67 g_711 nX8_move rfl rfl hrs (Nat.le_of_ble_eq_true rfl) hR k
def fX8_move (a1 : Int32) (a2 : Int32) (a3 : Int32) (a4 : Int32) (a5 : Int32) (s0 : St) : Option (Int32 × St) :=
    bd2 (fX8_isSheet a1 s0) fun u3 s1 =>
    jn (fun (s4 : St) =>
    bd2 (fX8_error 1 s4) fun u7 s5 =>
    some (u7, s5)) fun j14 =>
    if u3 = 0 then
    j14 s1
    else
    bd2 (fX8_isSheet a3 s1) fun u10 s8 =>
    if u10 = 0 then
    j14 s8
    else
    bd1 (rld 59 4 a1) fun v12 =>
    bd1 (rld 59 4 a3) fun v14 =>
    jn (fun (_ : Unit) =>
    bd2 (fX8_error 2 s8) fun u17 s15 =>
    some (u17, s15)) fun j52 =>
    if (s8 v12 2) = 0 then
    j52 ()
    else
    if (s8 v14 2) = 0 then
    j52 ()
    else
    if (s8 v12 2) = (s8 v14 2) then
    bd2 (fX5_holds v12 a2 a5 s8) fun u20 s18 =>
    jn (fun (s21 : St) =>
    bd2 (fX8_error 1 s21) fun u24 s22 =>
    some (u24, s22)) fun j100 =>
    if u20 = 0 then
    j100 s18
    else
    bd2 (fX5_holds v14 a4 a5 s18) fun u27 s25 =>
    if u27 = 0 then
    j100 s25
    else
    bd1 (acp s25 (v12 + 1) 40 a2 (v14 + 1) 40 a4 a5) fun s28 =>
    some (a5, s28)
    else
    bd2 (fX8_error 5 s8) fun u34 s32 =>
    some (u34, s32)
set_option maxHeartbeats 4000000 in
set_option maxRecDepth 100000 in
theorem ctX8_move {l : Launch} {E : EE} {a1 : Int32} {a2 : Int32} {a3 : Int32} {a4 : Int32} {a5 : Int32} {s0 : St} {r9 : Int32} {t9 : St}  (h : fX8_move a1 a2 a3 a4 a5 s0 = some (r9, t9)) : Ct l E layC yX8_move cX8_move 8 (some .int) 2 [.ref (ea E 0), .int a1, .int a2, .int a3, .int a4, .int a5] s0 (some (.int r9)) t9 := by
  refine Ct.of (by decide) (Nat.le_of_ble_eq_true rfl) ?_
  intro p e ms m below meth c X hlk hr
  have X : Cx E layC p ms m [.ref (ea E 0), .int a1, .int a2, .int a3, .int a4, .int a5].toArray c cX8_move RX8 8 := X
  refine r_sub (L' := [(0, .ref (ea E 0)), (1, .int a1), (2, .int a2), (3, .int a3), (4, .int a4), (5, .int a5)]) [0, 1, 2, 3, 4, 5] rfl ?_
  unfold fX8_move at h
  refine r_iload_n X dX8_move_0 1 rfl rfl ?_
  obtain ⟨u3, s1, e2, h⟩ := bd2_ok h
  refine kX8_isSheet X (ctX8_isSheet e2) dX8_move_1 g_600 (Nat.le_of_ble_eq_true rfl) (Nat.le_of_ble_eq_true rfl) ?_
  obtain ⟨j14, ej14, h⟩ := jn1_ok h
  have hj14 : ∀ (s4 : St), j14 s4 = some (r9, t9) → AW E layC p l e (rmD 2) ms m [.ref (ea E 0), .int a1, .int a2, .int a3, .int a4, .int a5].toArray below meth c 8 0 0 (MQc E layC below [.ref (ea E 0), .int a1, .int a2, .int a3, .int a4, .int a5].toArray ms (some (.int r9)) t9) 14 [(0, .ref (ea E 0))] [] s4 := by
    intro s4 h
    rw [ej14] at h
    refine r_aload_n X dX8_move_14 0 rfl rfl ?_
    refine r_iconst X dX8_move_15 (v := 1) (by decide) ?_
    obtain ⟨u7, s5, e6, h⟩ := bd2_ok h
    refine kX8_error X (ctX8_error e6) dX8_move_16 lC_0 g_337 (Nat.le_of_ble_eq_true rfl) (Nat.le_of_ble_eq_true rfl) ?_
    exact s_iret X hlk hr dX8_move_19 h
  refine r_if_eq X 14 dX8_move_4 (by decide) (fun c39 => ?_) (fun c39 => ?_)
  · rw [if_pos c39] at h
    refine r_sub (L' := [(0, .ref (ea E 0))]) [0] rfl ?_
    exact hj14 _ h
  · rw [if_neg c39] at h
    refine r_iload_n X dX8_move_7 3 rfl rfl ?_
    obtain ⟨u10, s8, e9, h⟩ := bd2_ok h
    refine kX8_isSheet X (ctX8_isSheet e9) dX8_move_8 g_600 (Nat.le_of_ble_eq_true rfl) (Nat.le_of_ble_eq_true rfl) ?_
    refine r_if_ne X 20 dX8_move_11 (by decide) (fun c38 => ?_) (fun c38 => ?_)
    · rw [if_neg c38] at h
      refine r_aload_n X dX8_move_20 0 rfl rfl ?_
      refine r_getr X dX8_move_21 i_X8 v_X8 lC_0 6 rfl (Nat.le_of_ble_eq_true rfl) g_299 ?_
      refine r_iload_n X dX8_move_24 1 rfl rfl ?_
      obtain ⟨g11, v12, ev12, h⟩ := rl_ok h
      refine s_aald X dX8_move_25 lC_58 g11 ev12 ?_
      refine r_astore (L' := [(0, .ref (ea E 0)), (2, .int a2), (3, .int a3), (4, .int a4), (5, .int a5), (6, .ref (ea E v12))]) X dX8_move_26 [1, 3, 4, 5, 6, 0] rfl (Nat.le_of_ble_eq_true rfl) ?_
      refine r_aload_n X dX8_move_28 0 rfl rfl ?_
      refine r_getr X dX8_move_29 i_X8 v_X8 lC_0 6 rfl (Nat.le_of_ble_eq_true rfl) g_299 ?_
      refine r_iload_n X dX8_move_32 2 rfl rfl ?_
      obtain ⟨g13, v14, ev14, h⟩ := rl_ok h
      refine s_aald X dX8_move_33 lC_58 g13 ev14 ?_
      refine r_astore (L' := [(0, .ref (ea E 0)), (2, .int a2), (4, .int a4), (5, .int a5), (6, .ref (ea E v12)), (7, .ref (ea E v14))]) X dX8_move_34 [1, 2, 4, 5, 6, 0] rfl (Nat.le_of_ble_eq_true rfl) ?_
      refine r_aload X dX8_move_36 4 rfl ?_
      refine r_geti X dX8_move_38 i_X5 v_X5 (lS0 (hS_of2 g11 ev12)) 2 rfl (Nat.le_of_ble_eq_true rfl) g_285 ?_
      obtain ⟨j52, ej52, h⟩ := jn1_ok h
      have hj52 : ∀ (u : Unit), j52 u = some (r9, t9) → AW E layC p l e (rmD 2) ms m [.ref (ea E 0), .int a1, .int a2, .int a3, .int a4, .int a5].toArray below meth c 8 0 0 (MQc E layC below [.ref (ea E 0), .int a1, .int a2, .int a3, .int a4, .int a5].toArray ms (some (.int r9)) t9) 52 [(0, .ref (ea E 0))] [] s8 := by
        intro u h
        rw [ej52] at h
        refine r_aload_n X dX8_move_52 0 rfl rfl ?_
        refine r_iconst X dX8_move_53 (v := 2) (by decide) ?_
        obtain ⟨u17, s15, e16, h⟩ := bd2_ok h
        refine kX8_error X (ctX8_error e16) dX8_move_54 lC_0 g_337 (Nat.le_of_ble_eq_true rfl) (Nat.le_of_ble_eq_true rfl) ?_
        exact s_iret X hlk hr dX8_move_57 h
      refine r_if_eq X 52 dX8_move_41 (by decide) (fun c37 => ?_) (fun c37 => ?_)
      · rw [if_pos c37] at h
        refine r_sub (L' := [(0, .ref (ea E 0))]) [0] rfl ?_
        exact hj52 _ h
      · rw [if_neg c37] at h
        refine r_aload X dX8_move_44 5 rfl ?_
        refine r_geti X dX8_move_46 i_X5 v_X5 (lS0 (hS_of2 g13 ev14)) 2 rfl (Nat.le_of_ble_eq_true rfl) g_285 ?_
        refine r_if_ne X 58 dX8_move_49 (by decide) (fun c36 => ?_) (fun c36 => ?_)
        · rw [if_neg c36] at h
          refine r_aload X dX8_move_58 4 rfl ?_
          refine r_geti X dX8_move_60 i_X5 v_X5 (lS0 (hS_of2 g11 ev12)) 2 rfl (Nat.le_of_ble_eq_true rfl) g_285 ?_
          refine r_aload X dX8_move_63 5 rfl ?_
          refine r_geti X dX8_move_65 i_X5 v_X5 (lS0 (hS_of2 g13 ev14)) 2 rfl (Nat.le_of_ble_eq_true rfl) g_285 ?_
          refine r_icmp_eq X 77 dX8_move_68 (by decide) (fun c35 => ?_) (fun c35 => ?_)
          · rw [if_pos c35] at h
            refine r_aload X dX8_move_77 4 rfl ?_
            refine r_iload_n X dX8_move_79 1 rfl rfl ?_
            refine r_iload X dX8_move_80 3 rfl ?_
            obtain ⟨u20, s18, e19, h⟩ := bd2_ok h
            refine kX5_holds X (ctX5_holds (hS_of2 g11 ev12) e19) dX8_move_82 (lS0 (hS_of2 g11 ev12)) g_712 (Nat.le_of_ble_eq_true rfl) (Nat.le_of_ble_eq_true rfl) ?_
            obtain ⟨j100, ej100, h⟩ := jn1_ok h
            have hj100 : ∀ (s21 : St), j100 s21 = some (r9, t9) → AW E layC p l e (rmD 2) ms m [.ref (ea E 0), .int a1, .int a2, .int a3, .int a4, .int a5].toArray below meth c 8 0 0 (MQc E layC below [.ref (ea E 0), .int a1, .int a2, .int a3, .int a4, .int a5].toArray ms (some (.int r9)) t9) 100 [(0, .ref (ea E 0))] [] s21 := by
              intro s21 h
              rw [ej100] at h
              refine r_aload_n X dX8_move_100 0 rfl rfl ?_
              refine r_iconst X dX8_move_101 (v := 1) (by decide) ?_
              obtain ⟨u24, s22, e23, h⟩ := bd2_ok h
              refine kX8_error X (ctX8_error e23) dX8_move_102 lC_0 g_337 (Nat.le_of_ble_eq_true rfl) (Nat.le_of_ble_eq_true rfl) ?_
              exact s_iret X hlk hr dX8_move_105 h
            refine r_if_eq X 100 dX8_move_85 (by decide) (fun c31 => ?_) (fun c31 => ?_)
            · rw [if_pos c31] at h
              refine r_sub (L' := [(0, .ref (ea E 0))]) [0] rfl ?_
              exact hj100 _ h
            · rw [if_neg c31] at h
              refine r_aload X dX8_move_88 5 rfl ?_
              refine r_iload X dX8_move_90 2 rfl ?_
              refine r_iload X dX8_move_92 3 rfl ?_
              obtain ⟨u27, s25, e26, h⟩ := bd2_ok h
              refine kX5_holds X (ctX5_holds (hS_of2 g13 ev14) e26) dX8_move_94 (lS0 (hS_of2 g13 ev14)) g_712 (Nat.le_of_ble_eq_true rfl) (Nat.le_of_ble_eq_true rfl) ?_
              refine r_if_ne X 106 dX8_move_97 (by decide) (fun c30 => ?_) (fun c30 => ?_)
              · rw [if_neg c30] at h
                refine r_aload X dX8_move_106 4 rfl ?_
                refine r_getr X dX8_move_108 i_X5 v_X5 (lS0 (hS_of2 g11 ev12)) 0 rfl (Nat.le_of_ble_eq_true rfl) g_281 ?_
                refine r_iload_n X dX8_move_111 1 rfl rfl ?_
                refine r_aload X dX8_move_112 5 rfl ?_
                refine r_getr X dX8_move_114 i_X5 v_X5 (lS0 (hS_of2 g13 ev14)) 0 rfl (Nat.le_of_ble_eq_true rfl) g_281 ?_
                refine r_iload X dX8_move_117 2 rfl ?_
                refine r_iload X dX8_move_119 3 rfl ?_
                obtain ⟨g29, s28, es28, h⟩ := cp_ok h
                refine s_copy X dX8_move_121 g_716 g_508 g_507 g_79 (lS1 (hS_of2 g11 ev12)) (lS1 (hS_of2 g13 ev14)) g29 (Nat.le_of_ble_eq_true rfl) (Nat.le_of_ble_eq_true rfl) es28 ?_
                refine r_iload X dX8_move_124 3 rfl ?_
                exact s_iret X hlk hr dX8_move_126 h
              · rw [if_pos c30] at h
                refine r_sub (L' := [(0, .ref (ea E 0))]) [0] rfl ?_
                exact hj100 _ h
          · rw [if_neg c35] at h
            refine r_aload_n X dX8_move_71 0 rfl rfl ?_
            refine r_iconst X dX8_move_72 (v := 5) (by decide) ?_
            obtain ⟨u34, s32, e33, h⟩ := bd2_ok h
            refine kX8_error X (ctX8_error e33) dX8_move_73 lC_0 g_337 (Nat.le_of_ble_eq_true rfl) (Nat.le_of_ble_eq_true rfl) ?_
            exact s_iret X hlk hr dX8_move_76 h
        · rw [if_pos c36] at h
          refine r_sub (L' := [(0, .ref (ea E 0))]) [0] rfl ?_
          exact hj52 _ h
    · rw [if_pos c38] at h
      refine r_sub (L' := [(0, .ref (ea E 0))]) [0] rfl ?_
      exact hj14 _ h
/-! X8_menus -/
theorem nX8_menus : yX8_menus.cls ≠ "java/lang/invoke/MethodHandle" ∧ yX8_menus.cls ≠ "java/lang/invoke/VarHandle" ∧ (parseMethodDescriptor yX8_menus.desc).map (fun d => d.parameters.length) = some 1 := by decide +kernel
theorem kX8_menus {l : Launch} {E : EE} {p : Program} {e : Env} {ms : State} {m : MethodId} {args : Array Value} {below : List Frame} {meth : Method} {c : Code} {cc : ByteArray} {own : String} {nL pc idx d D : Nat} {Q : State → Prop} {L : List (Nat × Value)} {rest : List Value} {σ τ : St} {a1 : Int32} {r : Int32} {fl : List (Option Nat)} (X : Cx E layC p ms m args c cc own nL) (hM : Ct l E layC yX8_menus cX8_menus 5 (some .int) d [.ref (ea E 0), .int a1] σ (some (.int r)) τ) (hd : decode cc pc = .ok (.invokevirtual idx, 3)) (hlay : layC[0]? = some (.inl (7, fl))) (w1 : Cond.methodLink own idx yX8_menus ∈ gw) (hR : d + 1 ≤ D) (hrs : (rest.map fun v => v.category).sum ≤ 8) (k : AW E layC p l e (rmD D) ms m args below meth c nL 0 0 Q (pc + 3) L (.int r :: rest) τ) : AW E layC p l e (rmD D) ms m args below meth c nL 0 0 Q pc L (.int a1 :: .ref (ea E 0) :: rest) σ :=
  s_callV X [.int a1] rest hM hd v_X8 hlay w1 g_718 g_719 g_67 g_720 nX8_menus rfl rfl hrs (Nat.le_of_ble_eq_true rfl) hR k
def fX8_menus_38 (b2 : Nat) : Nat → Int32 → Int32 → St → Option (Int32 × St)
  | 0, _, _, _ => none
  | n + 1, a3, a4, s0 =>
    if (s0 b2 1) ≤ a4 then
    some (a3, s0)
    else
    bd2 (fX8_isCourse a4 s0) fun u8 s6 =>
    if u8 = 0 then
    some (a3, s6)
    else
    bd1 (ald s6 (b2 + 1) 40 a4) fun v10 =>
    bd2 (fX8_isDish v10 s6) fun u13 s11 =>
    if u13 = 0 then
    some (a3, s11)
    else
    bd1 (ald s11 (b2 + 1) 40 a4) fun v15 =>
    bd1 (ast s11 5 6 a4 v15) fun s17 =>
    fX8_menus_38 b2 n (a3 + 1) (a4 + 1) s17
def fX8_menus (a1 : Int32) (s0 : St) : Option (Int32 × St) :=
    bd2 (fX8_isSheet a1 s0) fun u3 s1 =>
    if u3 = 0 then
    bd2 (fX8_error 1 s1) fun u29 s27 =>
    some (u29, s27)
    else
    bd1 (rld 59 4 a1) fun v5 =>
    if (s1 v5 2) = 0 then
    bd2 (fX8_error 2 s1) fun u25 s23 =>
    some (u25, s23)
    else
    bd2 (fX8_menus_38 v5 FU 0 0 s1) fun v22 s21 =>
    some (v22, s21)
set_option maxHeartbeats 4000000 in
set_option maxRecDepth 100000 in
theorem LX8_menus_38 {l : Launch} {E : EE} {p : Program} {e : Env} {ms : State} {m : MethodId} {args : Array Value} {below : List Frame} {meth : Method} {c : Code} {b2 : Nat} {Q : State → Prop} (X : Cx E layC p ms m args c cX8_menus RX8 5) (hb2 : isS b2) : ∀ (n : Nat) (a3 : Int32) (a4 : Int32) (s0 : St) (q3 : Int32) (t8 : St), fX8_menus_38 b2 n a3 a4 s0 = some (q3, t8) → AW E layC p l e (rmD 2) ms m args below meth c 5 0 0 Q 97 [(3, .int q3)] [] t8 → AW E layC p l e (rmD 2) ms m args below meth c 5 0 0 Q 38 [(0, .ref (ea E 0)), (2, .ref (ea E b2)), (3, .int a3), (4, .int a4)] [] s0 := by
  intro n
  induction n with
  | zero =>
    intro a3 a4 s0 q3 t8 h hE
    cases h
  | succ n ih =>
    intro a3 a4 s0 q3 t8 h hE
    rw [fX8_menus_38] at h
    refine r_iload X dX8_menus_38 3 rfl ?_
    refine r_aload_n X dX8_menus_40 1 rfl rfl ?_
    refine r_geti X dX8_menus_41 i_X5 v_X5 (lS0 hb2) 1 rfl (Nat.le_of_ble_eq_true rfl) g_283 ?_
    refine r_icmp_ge X 97 dX8_menus_44 (by decide) (fun c20 => ?_) (fun c20 => ?_)
    · rw [if_pos c20] at h
      refine r_sub (L' := [(3, .int a3)]) [2] rfl ?_
      cases h
      exact hE
    · rw [if_neg c20] at h
      refine r_iload X dX8_menus_47 3 rfl ?_
      obtain ⟨u8, s6, e7, h⟩ := bd2_ok h
      refine kX8_isCourse X (ctX8_isCourse e7) dX8_menus_49 g_357 (Nat.le_of_ble_eq_true rfl) (Nat.le_of_ble_eq_true rfl) ?_
      refine r_if_eq X 97 dX8_menus_52 (by decide) (fun c19 => ?_) (fun c19 => ?_)
      · rw [if_pos c19] at h
        refine r_sub (L' := [(3, .int a3)]) [2] rfl ?_
        cases h
        exact hE
      · rw [if_neg c19] at h
        refine r_aload_n X dX8_menus_55 1 rfl rfl ?_
        refine r_getr X dX8_menus_56 i_X5 v_X5 (lS0 hb2) 0 rfl (Nat.le_of_ble_eq_true rfl) g_281 ?_
        refine r_iload X dX8_menus_59 3 rfl ?_
        obtain ⟨g9, v10, ev10, h⟩ := ld_ok h
        refine s_iald X dX8_menus_61 (lS1 hb2) g9 ev10 ?_
        obtain ⟨u13, s11, e12, h⟩ := bd2_ok h
        refine kX8_isDish X (ctX8_isDish e12) dX8_menus_62 g_331 (Nat.le_of_ble_eq_true rfl) (Nat.le_of_ble_eq_true rfl) ?_
        refine r_if_eq X 97 dX8_menus_65 (by decide) (fun c18 => ?_) (fun c18 => ?_)
        · rw [if_pos c18] at h
          refine r_sub (L' := [(3, .int a3)]) [2] rfl ?_
          cases h
          exact hE
        · rw [if_neg c18] at h
          refine r_aload_n X dX8_menus_68 0 rfl rfl ?_
          refine r_getr X dX8_menus_69 i_X8 v_X8 lC_0 0 rfl (Nat.le_of_ble_eq_true rfl) g_293 ?_
          refine r_getr X dX8_menus_72 i_X7 v_X7 lC_1 0 rfl (Nat.le_of_ble_eq_true rfl) g_177 ?_
          refine r_getr X dX8_menus_75 i_X0 v_X0 lC_2 2 rfl (Nat.le_of_ble_eq_true rfl) g_105 ?_
          refine r_iload X dX8_menus_78 3 rfl ?_
          refine r_aload_n X dX8_menus_80 1 rfl rfl ?_
          refine r_getr X dX8_menus_81 i_X5 v_X5 (lS0 hb2) 0 rfl (Nat.le_of_ble_eq_true rfl) g_281 ?_
          refine r_iload X dX8_menus_84 3 rfl ?_
          obtain ⟨g14, v15, ev15, h⟩ := ld_ok h
          refine s_iald X dX8_menus_86 (lS1 hb2) g14 ev15 ?_
          obtain ⟨g16, s17, es17, h⟩ := as_ok h
          refine s_iast X dX8_menus_87 lC_5 g16 es17 ?_
          refine r_iinc (L' := [(0, .ref (ea E 0)), (2, .ref (ea E b2)), (3, .int (a3 + 1)), (4, .int a4)]) (v := a3 + 1) X dX8_menus_88 2 rfl rfl [1, 2, 0, 3] rfl (Nat.le_of_ble_eq_true rfl) ?_
          refine r_iinc (L' := [(0, .ref (ea E 0)), (2, .ref (ea E b2)), (3, .int (a3 + 1)), (4, .int (a4 + 1))]) (v := a4 + 1) X dX8_menus_91 3 rfl rfl [1, 2, 3, 0] rfl (Nat.le_of_ble_eq_true rfl) ?_
          refine r_goto X 38 dX8_menus_94 (by decide) ?_
          exact ih _ _ _ _ _ h hE
set_option maxHeartbeats 4000000 in
set_option maxRecDepth 100000 in
theorem ctX8_menus {l : Launch} {E : EE} {a1 : Int32} {s0 : St} {r9 : Int32} {t9 : St}  (h : fX8_menus a1 s0 = some (r9, t9)) : Ct l E layC yX8_menus cX8_menus 5 (some .int) 2 [.ref (ea E 0), .int a1] s0 (some (.int r9)) t9 := by
  refine Ct.of (by decide) (Nat.le_of_ble_eq_true rfl) ?_
  intro p e ms m below meth c X hlk hr
  have X : Cx E layC p ms m [.ref (ea E 0), .int a1].toArray c cX8_menus RX8 5 := X
  refine r_sub (L' := [(0, .ref (ea E 0)), (1, .int a1)]) [0, 1] rfl ?_
  unfold fX8_menus at h
  refine r_iload_n X dX8_menus_0 1 rfl rfl ?_
  obtain ⟨u3, s1, e2, h⟩ := bd2_ok h
  refine kX8_isSheet X (ctX8_isSheet e2) dX8_menus_1 g_600 (Nat.le_of_ble_eq_true rfl) (Nat.le_of_ble_eq_true rfl) ?_
  refine r_if_ne X 13 dX8_menus_4 (by decide) (fun c30 => ?_) (fun c30 => ?_)
  · rw [if_neg c30] at h
    refine r_aload_n X dX8_menus_13 0 rfl rfl ?_
    refine r_getr X dX8_menus_14 i_X8 v_X8 lC_0 6 rfl (Nat.le_of_ble_eq_true rfl) g_299 ?_
    refine r_iload_n X dX8_menus_17 1 rfl rfl ?_
    obtain ⟨g4, v5, ev5, h⟩ := rl_ok h
    refine s_aald X dX8_menus_18 lC_58 g4 ev5 ?_
    refine r_astore_n (L' := [(0, .ref (ea E 0)), (2, .ref (ea E v5))]) X dX8_menus_19 [1, 0] rfl rfl (Nat.le_of_ble_eq_true rfl) ?_
    refine r_aload_n X dX8_menus_20 1 rfl rfl ?_
    refine r_geti X dX8_menus_21 i_X5 v_X5 (lS0 (hS_of2 g4 ev5)) 2 rfl (Nat.le_of_ble_eq_true rfl) g_285 ?_
    refine r_if_ne X 33 dX8_menus_24 (by decide) (fun c26 => ?_) (fun c26 => ?_)
    · rw [if_neg c26] at h
      refine r_iconst X dX8_menus_33 (v := 0) (by decide) ?_
      refine r_istore_n (L' := [(0, .ref (ea E 0)), (2, .ref (ea E v5)), (3, .int 0)]) X dX8_menus_34 [1, 2, 0] rfl rfl (Nat.le_of_ble_eq_true rfl) ?_
      refine r_iconst X dX8_menus_35 (v := 0) (by decide) ?_
      refine r_istore (L' := [(0, .ref (ea E 0)), (2, .ref (ea E v5)), (3, .int 0), (4, .int 0)]) X dX8_menus_36 [1, 2, 3, 0] rfl (Nat.le_of_ble_eq_true rfl) ?_
      obtain ⟨v22, s21, eo, h⟩ := bd2_ok h
      refine LX8_menus_38 X (hS_of2 g4 ev5) FU _ _ _ _ _ eo ?_
      refine r_iload_n X dX8_menus_97 0 rfl rfl ?_
      exact s_iret X hlk hr dX8_menus_98 h
    · rw [if_pos c26] at h
      refine r_aload_n X dX8_menus_27 0 rfl rfl ?_
      refine r_iconst X dX8_menus_28 (v := 2) (by decide) ?_
      obtain ⟨u25, s23, e24, h⟩ := bd2_ok h
      refine kX8_error X (ctX8_error e24) dX8_menus_29 lC_0 g_337 (Nat.le_of_ble_eq_true rfl) (Nat.le_of_ble_eq_true rfl) ?_
      exact s_iret X hlk hr dX8_menus_32 h
  · rw [if_pos c30] at h
    refine r_aload_n X dX8_menus_7 0 rfl rfl ?_
    refine r_iconst X dX8_menus_8 (v := 1) (by decide) ?_
    obtain ⟨u29, s27, e28, h⟩ := bd2_ok h
    refine kX8_error X (ctX8_error e28) dX8_menus_9 lC_0 g_337 (Nat.le_of_ble_eq_true rfl) (Nat.le_of_ble_eq_true rfl) ?_
    exact s_iret X hlk hr dX8_menus_12 h
/-! X8_judge -/
theorem nX8_judge : yX8_judge.cls ≠ "java/lang/invoke/MethodHandle" ∧ yX8_judge.cls ≠ "java/lang/invoke/VarHandle" ∧ (parseMethodDescriptor yX8_judge.desc).map (fun d => d.parameters.length) = some 1 := by decide +kernel
theorem kX8_judge {l : Launch} {E : EE} {p : Program} {e : Env} {ms : State} {m : MethodId} {args : Array Value} {below : List Frame} {meth : Method} {c : Code} {cc : ByteArray} {own : String} {nL pc idx d D : Nat} {Q : State → Prop} {L : List (Nat × Value)} {rest : List Value} {σ τ : St} {a1 : Int32} {r : Int32} {fl : List (Option Nat)} (X : Cx E layC p ms m args c cc own nL) (hM : Ct l E layC yX8_judge cX8_judge 5 (some .int) d [.ref (ea E 0), .int a1] σ (some (.int r)) τ) (hd : decode cc pc = .ok (.invokevirtual idx, 3)) (hlay : layC[0]? = some (.inl (7, fl))) (w1 : Cond.methodLink own idx yX8_judge ∈ gw) (hR : d + 1 ≤ D) (hrs : (rest.map fun v => v.category).sum ≤ 8) (k : AW E layC p l e (rmD D) ms m args below meth c nL 0 0 Q (pc + 3) L (.int r :: rest) τ) : AW E layC p l e (rmD D) ms m args below meth c nL 0 0 Q pc L (.int a1 :: .ref (ea E 0) :: rest) σ :=
  s_callV X [.int a1] rest hM hd v_X8 hlay w1 g_722 g_723 g_67 g_724 nX8_judge rfl rfl hrs (Nat.le_of_ble_eq_true rfl) hR k
def fX8_judge_54 (b2 : Nat) (a3 : Int32) : Nat → Int32 → St → Option ((Int32 × St) ⊕ (St))
  | 0, _, _ => none
  | n + 1, a4, s0 =>
    if a3 ≤ a4 then
    some (.inr s0)
    else
    bd1 (ald s0 (b2 + 1) 40 a4) fun v7 =>
    bd1 (ald s0 8 8 a4) fun v9 =>
    if v7 = v9 then
    fX8_judge_54 b2 a3 n (a4 + 1) s0
    else
    some (.inl (a4, s0))
def fX8_judge (a1 : Int32) (s0 : St) : Option (Int32 × St) :=
    bd2 (fX8_isSheet a1 s0) fun u3 s1 =>
    if u3 = 0 then
    bd2 (fX8_error 1 s1) fun u22 s20 =>
    some (u22, s20)
    else
    bd1 (rld 59 4 a1) fun v5 =>
    if (s1 v5 2) = 0 then
    bd2 (fX8_error 2 s1) fun u18 s16 =>
    some (u18, s16)
    else
    bS1 (fX8_judge_54 v5 (imn (s1 v5 1) (s1 2 12)) FU 0 s1) (fun u14 => some u14) fun s12 =>
    if (s12 v5 1) = (s12 2 12) then
    some ((-1), s12)
    else
    some (imn (s1 v5 1) (s1 2 12), s12)
set_option maxHeartbeats 4000000 in
set_option maxRecDepth 100000 in
theorem LX8_judge_54 {l : Launch} {E : EE} {p : Program} {e : Env} {ms : State} {m : MethodId} {args : Array Value} {below : List Frame} {meth : Method} {c : Code} {b2 : Nat} {a3 : Int32} {r9 : Int32} {t9 : St} (X : Cx E layC p ms m args c cX8_judge RX8 5) (hb2 : isS b2) (hlk : meth.locks = false) (hr : meth.sig.returnType = (some .int)) : ∀ (n : Nat) (a4 : Int32) (s0 : St) (o : (Int32 × St) ⊕ (St)), fX8_judge_54 b2 a3 n a4 s0 = some o → (∀ r, o = .inl r → r = (r9, t9)) → (∀  (t8 : St), o = .inr t8 → AW E layC p l e (rmD 2) ms m args below meth c 5 0 0 (MQc E layC below args ms (some (.int r9)) t9) 92 [(0, .ref (ea E 0)), (2, .ref (ea E b2)), (3, .int a3)] [] t8) → AW E layC p l e (rmD 2) ms m args below meth c 5 0 0 (MQc E layC below args ms (some (.int r9)) t9) 54 [(0, .ref (ea E 0)), (2, .ref (ea E b2)), (3, .int a3), (4, .int a4)] [] s0 := by
  intro n
  induction n with
  | zero =>
    intro a4 s0 o h hR hE
    cases h
  | succ n ih =>
    intro a4 s0 o h hR hE
    rw [fX8_judge_54] at h
    refine r_iload X dX8_judge_54 3 rfl ?_
    refine r_iload_n X dX8_judge_56 2 rfl rfl ?_
    refine r_icmp_ge X 92 dX8_judge_57 (by decide) (fun c11 => ?_) (fun c11 => ?_)
    · rw [if_pos c11] at h
      refine r_sub (L' := [(0, .ref (ea E 0)), (2, .ref (ea E b2)), (3, .int a3)]) [0, 1, 2] rfl ?_
      cases h
      exact hE _ rfl
    · rw [if_neg c11] at h
      refine r_aload_n X dX8_judge_60 1 rfl rfl ?_
      refine r_getr X dX8_judge_61 i_X5 v_X5 (lS0 hb2) 0 rfl (Nat.le_of_ble_eq_true rfl) g_281 ?_
      refine r_iload X dX8_judge_64 3 rfl ?_
      obtain ⟨g6, v7, ev7, h⟩ := ld_ok h
      refine s_iald X dX8_judge_66 (lS1 hb2) g6 ev7 ?_
      refine r_aload_n X dX8_judge_67 0 rfl rfl ?_
      refine r_getr X dX8_judge_68 i_X8 v_X8 lC_0 0 rfl (Nat.le_of_ble_eq_true rfl) g_293 ?_
      refine r_getr X dX8_judge_71 i_X7 v_X7 lC_1 0 rfl (Nat.le_of_ble_eq_true rfl) g_177 ?_
      refine r_getr X dX8_judge_74 i_X0 v_X0 lC_2 5 rfl (Nat.le_of_ble_eq_true rfl) g_111 ?_
      refine r_iload X dX8_judge_77 3 rfl ?_
      obtain ⟨g8, v9, ev9, h⟩ := ld_ok h
      refine s_iald X dX8_judge_79 lC_8 g8 ev9 ?_
      refine r_icmp_eq X 86 dX8_judge_80 (by decide) (fun c10 => ?_) (fun c10 => ?_)
      · rw [if_pos c10] at h
        refine r_iinc (L' := [(0, .ref (ea E 0)), (2, .ref (ea E b2)), (3, .int a3), (4, .int (a4 + 1))]) (v := a4 + 1) X dX8_judge_86 3 rfl rfl [1, 2, 3, 0] rfl (Nat.le_of_ble_eq_true rfl) ?_
        refine r_goto X 54 dX8_judge_89 (by decide) ?_
        exact ih _ _ _ h hR hE
      · rw [if_neg c10] at h
        refine r_iload X dX8_judge_83 3 rfl ?_
        exact s_iret X hlk hr dX8_judge_85 (inl_ok h hR)
set_option maxHeartbeats 4000000 in
set_option maxRecDepth 100000 in
theorem LX8_judge_54_x {l : Launch} {E : EE} {p : Program} {e : Env} {ms : State} {m : MethodId} {args : Array Value} {below : List Frame} {meth : Method} {c : Code} {b2 : Nat} {a3 : Int32} {r9 : Int32} {t9 : St} (X : Cx E layC p ms m args c cX8_judge RX8 5) (hb2 : isS b2) (hlk : meth.locks = false) (hr : meth.sig.returnType = (some .int)) (n : Nat) (a4 : Int32) (s0 : St)  (t8 : St) (h : fX8_judge_54 b2 a3 n a4 s0 = some (.inr t8)) (hE : AW E layC p l e (rmD 2) ms m args below meth c 5 0 0 (MQc E layC below args ms (some (.int r9)) t9) 92 [(0, .ref (ea E 0)), (2, .ref (ea E b2)), (3, .int a3)] [] t8) : AW E layC p l e (rmD 2) ms m args below meth c 5 0 0 (MQc E layC below args ms (some (.int r9)) t9) 54 [(0, .ref (ea E 0)), (2, .ref (ea E b2)), (3, .int a3), (4, .int a4)] [] s0 :=
  LX8_judge_54 X hb2 hlk hr n a4 s0 _ h (fun r he => by cases he) (fun _ he => by cases he; exact hE)
set_option maxHeartbeats 4000000 in
set_option maxRecDepth 100000 in
theorem LX8_judge_54_r {l : Launch} {E : EE} {p : Program} {e : Env} {ms : State} {m : MethodId} {args : Array Value} {below : List Frame} {meth : Method} {c : Code} {b2 : Nat} {a3 : Int32} {r9 : Int32} {t9 : St} (X : Cx E layC p ms m args c cX8_judge RX8 5) (hb2 : isS b2) (hlk : meth.locks = false) (hr : meth.sig.returnType = (some .int)) (n : Nat) (a4 : Int32) (s0 : St) {r8 : Int32 × St} (h : fX8_judge_54 b2 a3 n a4 s0 = some (.inl r8)) (hR : ∀ r, (.inl r8 : (Int32 × St) ⊕ (St)) = .inl r → r = (r9, t9)) : AW E layC p l e (rmD 2) ms m args below meth c 5 0 0 (MQc E layC below args ms (some (.int r9)) t9) 54 [(0, .ref (ea E 0)), (2, .ref (ea E b2)), (3, .int a3), (4, .int a4)] [] s0 :=
  LX8_judge_54 X hb2 hlk hr n a4 s0 _ h hR (fun _ he => by cases he)
set_option maxHeartbeats 4000000 in
set_option maxRecDepth 100000 in
theorem ctX8_judge {l : Launch} {E : EE} {a1 : Int32} {s0 : St} {r9 : Int32} {t9 : St}  (h : fX8_judge a1 s0 = some (r9, t9)) : Ct l E layC yX8_judge cX8_judge 5 (some .int) 2 [.ref (ea E 0), .int a1] s0 (some (.int r9)) t9 := by
  refine Ct.of (by decide) (Nat.le_of_ble_eq_true rfl) ?_
  intro p e ms m below meth c X hlk hr
  have X : Cx E layC p ms m [.ref (ea E 0), .int a1].toArray c cX8_judge RX8 5 := X
  refine r_sub (L' := [(0, .ref (ea E 0)), (1, .int a1)]) [0, 1] rfl ?_
  unfold fX8_judge at h
  refine r_iload_n X dX8_judge_0 1 rfl rfl ?_
  obtain ⟨u3, s1, e2, h⟩ := bd2_ok h
  refine kX8_isSheet X (ctX8_isSheet e2) dX8_judge_1 g_600 (Nat.le_of_ble_eq_true rfl) (Nat.le_of_ble_eq_true rfl) ?_
  refine r_if_ne X 13 dX8_judge_4 (by decide) (fun c23 => ?_) (fun c23 => ?_)
  · rw [if_neg c23] at h
    refine r_aload_n X dX8_judge_13 0 rfl rfl ?_
    refine r_getr X dX8_judge_14 i_X8 v_X8 lC_0 6 rfl (Nat.le_of_ble_eq_true rfl) g_299 ?_
    refine r_iload_n X dX8_judge_17 1 rfl rfl ?_
    obtain ⟨g4, v5, ev5, h⟩ := rl_ok h
    refine s_aald X dX8_judge_18 lC_58 g4 ev5 ?_
    refine r_astore_n (L' := [(0, .ref (ea E 0)), (2, .ref (ea E v5))]) X dX8_judge_19 [1, 0] rfl rfl (Nat.le_of_ble_eq_true rfl) ?_
    refine r_aload_n X dX8_judge_20 1 rfl rfl ?_
    refine r_geti X dX8_judge_21 i_X5 v_X5 (lS0 (hS_of2 g4 ev5)) 2 rfl (Nat.le_of_ble_eq_true rfl) g_285 ?_
    refine r_if_ne X 33 dX8_judge_24 (by decide) (fun c19 => ?_) (fun c19 => ?_)
    · rw [if_neg c19] at h
      refine r_aload_n X dX8_judge_33 1 rfl rfl ?_
      refine r_geti X dX8_judge_34 i_X5 v_X5 (lS0 (hS_of2 g4 ev5)) 1 rfl (Nat.le_of_ble_eq_true rfl) g_283 ?_
      refine r_aload_n X dX8_judge_37 0 rfl rfl ?_
      refine r_getr X dX8_judge_38 i_X8 v_X8 lC_0 0 rfl (Nat.le_of_ble_eq_true rfl) g_293 ?_
      refine r_getr X dX8_judge_41 i_X7 v_X7 lC_1 0 rfl (Nat.le_of_ble_eq_true rfl) g_177 ?_
      refine r_geti X dX8_judge_44 i_X0 v_X0 lC_2 12 rfl (Nat.le_of_ble_eq_true rfl) g_124 ?_
      refine s_mmin X dX8_judge_47 g_725 g_419 g_71 g_420 (Nat.le_of_ble_eq_true rfl) (Nat.le_of_ble_eq_true rfl) ?_
      refine r_istore_n (L' := [(0, .ref (ea E 0)), (2, .ref (ea E v5)), (3, .int (imn (s1 v5 1) (s1 2 12)))]) X dX8_judge_50 [1, 2, 0] rfl rfl (Nat.le_of_ble_eq_true rfl) ?_
      refine r_iconst X dX8_judge_51 (v := 0) (by decide) ?_
      refine r_istore (L' := [(0, .ref (ea E 0)), (2, .ref (ea E v5)), (3, .int (imn (s1 v5 1) (s1 2 12))), (4, .int 0)]) X dX8_judge_52 [1, 2, 3, 0] rfl (Nat.le_of_ble_eq_true rfl) ?_
      obtain ⟨o15, eo, ho⟩ := bS1_ok h
      rcases ho with ⟨u14, rfl, h⟩ | ⟨s12, rfl, h⟩
      · exact LX8_judge_54_r X (hS_of2 g4 ev5) hlk hr FU _ _ eo (fun r hr1 => by cases hr1; exact Option.some.inj h)
      · refine LX8_judge_54_x X (hS_of2 g4 ev5) hlk hr FU _ _ _ eo ?_
        refine r_aload_n X dX8_judge_92 1 rfl rfl ?_
        refine r_geti X dX8_judge_93 i_X5 v_X5 (lS0 (hS_of2 g4 ev5)) 1 rfl (Nat.le_of_ble_eq_true rfl) g_283 ?_
        refine r_aload_n X dX8_judge_96 0 rfl rfl ?_
        refine r_getr X dX8_judge_97 i_X8 v_X8 lC_0 0 rfl (Nat.le_of_ble_eq_true rfl) g_293 ?_
        refine r_getr X dX8_judge_100 i_X7 v_X7 lC_1 0 rfl (Nat.le_of_ble_eq_true rfl) g_177 ?_
        refine r_geti X dX8_judge_103 i_X0 v_X0 lC_2 12 rfl (Nat.le_of_ble_eq_true rfl) g_124 ?_
        refine r_icmp_ne X 113 dX8_judge_106 (by decide) (fun c13 => ?_) (fun c13 => ?_)
        · rw [if_neg c13] at h
          refine r_iload_n X dX8_judge_113 2 rfl rfl ?_
          exact s_iret X hlk hr dX8_judge_114 h
        · rw [if_pos c13] at h
          refine r_iconst X dX8_judge_109 (v := (-1)) (by decide) ?_
          refine r_goto X 114 dX8_judge_110 (by decide) ?_
          exact s_iret X hlk hr dX8_judge_114 h
    · rw [if_pos c19] at h
      refine r_aload_n X dX8_judge_27 0 rfl rfl ?_
      refine r_iconst X dX8_judge_28 (v := 2) (by decide) ?_
      obtain ⟨u18, s16, e17, h⟩ := bd2_ok h
      refine kX8_error X (ctX8_error e17) dX8_judge_29 lC_0 g_337 (Nat.le_of_ble_eq_true rfl) (Nat.le_of_ble_eq_true rfl) ?_
      exact s_iret X hlk hr dX8_judge_32 h
  · rw [if_pos c23] at h
    refine r_aload_n X dX8_judge_7 0 rfl rfl ?_
    refine r_iconst X dX8_judge_8 (v := 1) (by decide) ?_
    obtain ⟨u22, s20, e21, h⟩ := bd2_ok h
    refine kX8_error X (ctX8_error e21) dX8_judge_9 lC_0 g_337 (Nat.le_of_ble_eq_true rfl) (Nat.le_of_ble_eq_true rfl) ?_
    exact s_iret X hlk hr dX8_judge_12 h
/-! X8_image -/
theorem nX8_image : yX8_image.cls ≠ "java/lang/invoke/MethodHandle" ∧ yX8_image.cls ≠ "java/lang/invoke/VarHandle" ∧ (parseMethodDescriptor yX8_image.desc).map (fun d => d.parameters.length) = some 0 := by decide +kernel
theorem kX8_image {l : Launch} {E : EE} {p : Program} {e : Env} {ms : State} {m : MethodId} {args : Array Value} {below : List Frame} {meth : Method} {c : Code} {cc : ByteArray} {own : String} {nL pc idx d D : Nat} {Q : State → Prop} {L : List (Nat × Value)} {rest : List Value} {σ τ : St}  {r : Int32} {fl : List (Option Nat)} (X : Cx E layC p ms m args c cc own nL) (hM : Ct l E layC yX8_image cX8_image 1 (some .int) d [.ref (ea E 0)] σ (some (.int r)) τ) (hd : decode cc pc = .ok (.invokevirtual idx, 3)) (hlay : layC[0]? = some (.inl (7, fl))) (w1 : Cond.methodLink own idx yX8_image ∈ gw) (hR : d + 1 ≤ D) (hrs : (rest.map fun v => v.category).sum ≤ 8) (k : AW E layC p l e (rmD D) ms m args below meth c nL 0 0 Q (pc + 3) L (.int r :: rest) τ) : AW E layC p l e (rmD D) ms m args below meth c nL 0 0 Q pc L (.ref (ea E 0) :: rest) σ :=
  s_callV X [] rest hM hd v_X8 hlay w1 g_727 g_728 g_67 g_729 nX8_image rfl rfl hrs (Nat.le_of_ble_eq_true rfl) hR k
def fX8_image  (s0 : St) : Option (Int32 × St) :=
    bd1 (fX7_copyFrom 20 1 s0) fun s1 =>
    bd1 (ptf s1 0 10 ((s1 0 10) + 1)) fun s3 =>
    some (s3 0 10, s3)
set_option maxHeartbeats 4000000 in
set_option maxRecDepth 100000 in
theorem ctX8_image {l : Launch} {E : EE}  {s0 : St} {r9 : Int32} {t9 : St}  (h : fX8_image  s0 = some (r9, t9)) : Ct l E layC yX8_image cX8_image 1 (some .int) 3 [.ref (ea E 0)] s0 (some (.int r9)) t9 := by
  refine Ct.of (by decide) (Nat.le_of_ble_eq_true rfl) ?_
  intro p e ms m below meth c X hlk hr
  have X : Cx E layC p ms m [.ref (ea E 0)].toArray c cX8_image RX8 1 := X
  refine r_sub (L' := [(0, .ref (ea E 0))]) [0] rfl ?_
  unfold fX8_image at h
  refine r_aload_n X dX8_image_0 0 rfl rfl ?_
  refine r_getr X dX8_image_1 i_X8 v_X8 lC_0 1 rfl (Nat.le_of_ble_eq_true rfl) g_294 ?_
  refine r_aload_n X dX8_image_4 0 rfl rfl ?_
  refine r_getr X dX8_image_5 i_X8 v_X8 lC_0 0 rfl (Nat.le_of_ble_eq_true rfl) g_293 ?_
  obtain ⟨s1, e2, h⟩ := bd1_ok h
  refine kX7_copyFrom X (ctX7_copyFrom hW_20 hW_1 e2) dX8_image_8 lC_20 g_730 (Nat.le_of_ble_eq_true rfl) (Nat.le_of_ble_eq_true rfl) ?_
  refine r_aload_n X dX8_image_11 0 rfl rfl ?_
  refine r_dup X dX8_image_12 rfl ?_
  refine r_geti X dX8_image_13 i_X8 v_X8 lC_0 10 rfl (Nat.le_of_ble_eq_true rfl) g_303 ?_
  refine r_iconst X dX8_image_16 (v := 1) (by decide) ?_
  refine r_iadd X dX8_image_17 ?_
  obtain ⟨s3, es3, h⟩ := pt_ok h
  refine s_puti X dX8_image_18 i_X8 tyX8_ok nmX8 v_X8 lC_0 10 rfl (Nat.le_of_ble_eq_true rfl) g_303 rfl rfl ⟨rfl, rfl⟩ es3 ?_
  refine r_aload_n X dX8_image_21 0 rfl rfl ?_
  refine r_geti X dX8_image_22 i_X8 v_X8 lC_0 10 rfl (Nat.le_of_ble_eq_true rfl) g_303 ?_
  exact s_iret X hlk hr dX8_image_25 h
/-! X8_restore -/
theorem nX8_restore : yX8_restore.cls ≠ "java/lang/invoke/MethodHandle" ∧ yX8_restore.cls ≠ "java/lang/invoke/VarHandle" ∧ (parseMethodDescriptor yX8_restore.desc).map (fun d => d.parameters.length) = some 0 := by decide +kernel
theorem kX8_restore {l : Launch} {E : EE} {p : Program} {e : Env} {ms : State} {m : MethodId} {args : Array Value} {below : List Frame} {meth : Method} {c : Code} {cc : ByteArray} {own : String} {nL pc idx d D : Nat} {Q : State → Prop} {L : List (Nat × Value)} {rest : List Value} {σ τ : St}  {r : Int32} {fl : List (Option Nat)} (X : Cx E layC p ms m args c cc own nL) (hM : Ct l E layC yX8_restore cX8_restore 1 (some .int) d [.ref (ea E 0)] σ (some (.int r)) τ) (hd : decode cc pc = .ok (.invokevirtual idx, 3)) (hlay : layC[0]? = some (.inl (7, fl))) (w1 : Cond.methodLink own idx yX8_restore ∈ gw) (hR : d + 1 ≤ D) (hrs : (rest.map fun v => v.category).sum ≤ 8) (k : AW E layC p l e (rmD D) ms m args below meth c nL 0 0 Q (pc + 3) L (.int r :: rest) τ) : AW E layC p l e (rmD D) ms m args below meth c nL 0 0 Q pc L (.ref (ea E 0) :: rest) σ :=
  s_callV X [] rest hM hd v_X8 hlay w1 g_737 g_738 g_67 g_739 nX8_restore rfl rfl hrs (Nat.le_of_ble_eq_true rfl) hR k
def fX8_restore  (s0 : St) : Option (Int32 × St) :=
    if (s0 0 10) = 0 then
    bd2 (fX8_error 2 s0) fun u7 s5 =>
    some (u7, s5)
    else
    bd1 (fX7_copyFrom 1 20 s0) fun s1 =>
    bd1 (fX2_forget  s1) fun s3 =>
    some (s3 2 11, s3)
set_option maxHeartbeats 4000000 in
set_option maxRecDepth 100000 in
theorem ctX8_restore {l : Launch} {E : EE}  {s0 : St} {r9 : Int32} {t9 : St}  (h : fX8_restore  s0 = some (r9, t9)) : Ct l E layC yX8_restore cX8_restore 1 (some .int) 3 [.ref (ea E 0)] s0 (some (.int r9)) t9 := by
  refine Ct.of (by decide) (Nat.le_of_ble_eq_true rfl) ?_
  intro p e ms m below meth c X hlk hr
  have X : Cx E layC p ms m [.ref (ea E 0)].toArray c cX8_restore RX8 1 := X
  refine r_sub (L' := [(0, .ref (ea E 0))]) [0] rfl ?_
  unfold fX8_restore at h
  refine r_aload_n X dX8_restore_0 0 rfl rfl ?_
  refine r_geti X dX8_restore_1 i_X8 v_X8 lC_0 10 rfl (Nat.le_of_ble_eq_true rfl) g_303 ?_
  refine r_if_ne X 13 dX8_restore_4 (by decide) (fun c8 => ?_) (fun c8 => ?_)
  · rw [if_neg c8] at h
    refine r_aload_n X dX8_restore_13 0 rfl rfl ?_
    refine r_getr X dX8_restore_14 i_X8 v_X8 lC_0 0 rfl (Nat.le_of_ble_eq_true rfl) g_293 ?_
    refine r_aload_n X dX8_restore_17 0 rfl rfl ?_
    refine r_getr X dX8_restore_18 i_X8 v_X8 lC_0 1 rfl (Nat.le_of_ble_eq_true rfl) g_294 ?_
    obtain ⟨s1, e2, h⟩ := bd1_ok h
    refine kX7_copyFrom X (ctX7_copyFrom hW_1 hW_20 e2) dX8_restore_21 lC_1 g_730 (Nat.le_of_ble_eq_true rfl) (Nat.le_of_ble_eq_true rfl) ?_
    refine r_aload_n X dX8_restore_24 0 rfl rfl ?_
    refine r_getr X dX8_restore_25 i_X8 v_X8 lC_0 3 rfl (Nat.le_of_ble_eq_true rfl) g_296 ?_
    obtain ⟨s3, e4, h⟩ := bd1_ok h
    refine kX2_forget X (ctX2_forget e4) dX8_restore_28 lC_49 g_509 (Nat.le_of_ble_eq_true rfl) (Nat.le_of_ble_eq_true rfl) ?_
    refine r_aload_n X dX8_restore_31 0 rfl rfl ?_
    refine r_getr X dX8_restore_32 i_X8 v_X8 lC_0 0 rfl (Nat.le_of_ble_eq_true rfl) g_293 ?_
    refine r_getr X dX8_restore_35 i_X7 v_X7 lC_1 0 rfl (Nat.le_of_ble_eq_true rfl) g_177 ?_
    refine r_geti X dX8_restore_38 i_X0 v_X0 lC_2 11 rfl (Nat.le_of_ble_eq_true rfl) g_122 ?_
    exact s_iret X hlk hr dX8_restore_41 h
  · rw [if_pos c8] at h
    refine r_aload_n X dX8_restore_7 0 rfl rfl ?_
    refine r_iconst X dX8_restore_8 (v := 2) (by decide) ?_
    obtain ⟨u7, s5, e6, h⟩ := bd2_ok h
    refine kX8_error X (ctX8_error e6) dX8_restore_9 lC_0 g_337 (Nat.le_of_ble_eq_true rfl) (Nat.le_of_ble_eq_true rfl) ?_
    exact s_iret X hlk hr dX8_restore_12 h
/-! X8_tell -/
theorem nX8_tell : yX8_tell.cls ≠ "java/lang/invoke/MethodHandle" ∧ yX8_tell.cls ≠ "java/lang/invoke/VarHandle" ∧ (parseMethodDescriptor yX8_tell.desc).map (fun d => d.parameters.length) = some 1 := by decide +kernel
theorem kX8_tell {l : Launch} {E : EE} {p : Program} {e : Env} {ms : State} {m : MethodId} {args : Array Value} {below : List Frame} {meth : Method} {c : Code} {cc : ByteArray} {own : String} {nL pc idx d D : Nat} {Q : State → Prop} {L : List (Nat × Value)} {rest : List Value} {σ τ : St} {a1 : Int32} {r : Int32} {fl : List (Option Nat)} (X : Cx E layC p ms m args c cc own nL) (hM : Ct l E layC yX8_tell cX8_tell 2 (some .int) d [.ref (ea E 0), .int a1] σ (some (.int r)) τ) (hd : decode cc pc = .ok (.invokevirtual idx, 3)) (hlay : layC[0]? = some (.inl (7, fl))) (w1 : Cond.methodLink own idx yX8_tell ∈ gw) (hR : d + 1 ≤ D) (hrs : (rest.map fun v => v.category).sum ≤ 8) (k : AW E layC p l e (rmD D) ms m args below meth c nL 0 0 Q (pc + 3) L (.int r :: rest) τ) : AW E layC p l e (rmD D) ms m args below meth c nL 0 0 Q pc L (.int a1 :: .ref (ea E 0) :: rest) σ :=
  s_callV X [.int a1] rest hM hd v_X8 hlay w1 g_741 g_742 g_67 g_743 nX8_tell rfl rfl hrs (Nat.le_of_ble_eq_true rfl) hR k
def fX8_tell (a1 : Int32) (s0 : St) : Option (Int32 × St) :=
    if (s0 14 1) < 20 then
    bd1 (fX4_add 14 a1 s0) fun s1 =>
    some (s1 14 1, s1)
    else
    bd2 (fX8_error 4 s0) fun u5 s3 =>
    some (u5, s3)
set_option maxHeartbeats 4000000 in
set_option maxRecDepth 100000 in
theorem ctX8_tell {l : Launch} {E : EE} {a1 : Int32} {s0 : St} {r9 : Int32} {t9 : St}  (h : fX8_tell a1 s0 = some (r9, t9)) : Ct l E layC yX8_tell cX8_tell 2 (some .int) 1 [.ref (ea E 0), .int a1] s0 (some (.int r9)) t9 := by
  refine Ct.of (by decide) (Nat.le_of_ble_eq_true rfl) ?_
  intro p e ms m below meth c X hlk hr
  have X : Cx E layC p ms m [.ref (ea E 0), .int a1].toArray c cX8_tell RX8 2 := X
  refine r_sub (L' := [(0, .ref (ea E 0)), (1, .int a1)]) [0, 1] rfl ?_
  unfold fX8_tell at h
  refine r_aload_n X dX8_tell_0 0 rfl rfl ?_
  refine r_getr X dX8_tell_1 i_X8 v_X8 lC_0 0 rfl (Nat.le_of_ble_eq_true rfl) g_293 ?_
  refine r_getr X dX8_tell_4 i_X7 v_X7 lC_1 2 rfl (Nat.le_of_ble_eq_true rfl) g_181 ?_
  refine r_geti X dX8_tell_7 i_X4 v_X4 lC_14 1 rfl (Nat.le_of_ble_eq_true rfl) g_170 ?_
  refine r_bipush X dX8_tell_10 (v := 20) (by decide) ?_
  refine r_icmp_lt X 21 dX8_tell_12 (by decide) (fun c6 => ?_) (fun c6 => ?_)
  · rw [if_pos c6] at h
    refine r_aload_n X dX8_tell_21 0 rfl rfl ?_
    refine r_getr X dX8_tell_22 i_X8 v_X8 lC_0 0 rfl (Nat.le_of_ble_eq_true rfl) g_293 ?_
    refine r_getr X dX8_tell_25 i_X7 v_X7 lC_1 2 rfl (Nat.le_of_ble_eq_true rfl) g_181 ?_
    refine r_iload_n X dX8_tell_28 1 rfl rfl ?_
    obtain ⟨s1, e2, h⟩ := bd1_ok h
    refine kX4_add X (ctX4_add hR_14 e2) dX8_tell_29 lC_14 g_449 (Nat.le_of_ble_eq_true rfl) (Nat.le_of_ble_eq_true rfl) ?_
    refine r_aload_n X dX8_tell_32 0 rfl rfl ?_
    refine r_getr X dX8_tell_33 i_X8 v_X8 lC_0 0 rfl (Nat.le_of_ble_eq_true rfl) g_293 ?_
    refine r_getr X dX8_tell_36 i_X7 v_X7 lC_1 2 rfl (Nat.le_of_ble_eq_true rfl) g_181 ?_
    refine r_geti X dX8_tell_39 i_X4 v_X4 lC_14 1 rfl (Nat.le_of_ble_eq_true rfl) g_170 ?_
    exact s_iret X hlk hr dX8_tell_42 h
  · rw [if_neg c6] at h
    refine r_aload_n X dX8_tell_15 0 rfl rfl ?_
    refine r_iconst X dX8_tell_16 (v := 4) (by decide) ?_
    obtain ⟨u5, s3, e4, h⟩ := bd2_ok h
    refine kX8_error X (ctX8_error e4) dX8_tell_17 lC_0 g_337 (Nat.le_of_ble_eq_true rfl) (Nat.le_of_ble_eq_true rfl) ?_
    exact s_iret X hlk hr dX8_tell_20 h
/-! X8_check -/
theorem nX8_check : yX8_check.cls ≠ "java/lang/invoke/MethodHandle" ∧ yX8_check.cls ≠ "java/lang/invoke/VarHandle" ∧ (parseMethodDescriptor yX8_check.desc).map (fun d => d.parameters.length) = some 0 := by decide +kernel
theorem kX8_check {l : Launch} {E : EE} {p : Program} {e : Env} {ms : State} {m : MethodId} {args : Array Value} {below : List Frame} {meth : Method} {c : Code} {cc : ByteArray} {own : String} {nL pc idx d D : Nat} {Q : State → Prop} {L : List (Nat × Value)} {rest : List Value} {σ τ : St}  {r : Int32} {fl : List (Option Nat)} (X : Cx E layC p ms m args c cc own nL) (hM : Ct l E layC yX8_check cX8_check 3 (some .int) d [.ref (ea E 0)] σ (some (.int r)) τ) (hd : decode cc pc = .ok (.invokevirtual idx, 3)) (hlay : layC[0]? = some (.inl (7, fl))) (w1 : Cond.methodLink own idx yX8_check ∈ gw) (hR : d + 1 ≤ D) (hrs : (rest.map fun v => v.category).sum ≤ 8) (k : AW E layC p l e (rmD D) ms m args below meth c nL 0 0 Q (pc + 3) L (.int r :: rest) τ) : AW E layC p l e (rmD D) ms m args below meth c nL 0 0 Q pc L (.ref (ea E 0) :: rest) σ :=
  s_callV X [] rest hM hd v_X8 hlay w1 g_745 g_746 g_67 g_747 nX8_check rfl rfl hrs (Nat.le_of_ble_eq_true rfl) hR k
def fX8_check_28 (a1 : Int32) : Nat → Int32 → St → Option ((Int32 × St) ⊕ (St))
  | 0, _, _ => none
  | n + 1, a2, s0 =>
    if a1 ≤ a2 then
    some (.inr s0)
    else
    bd1 (fX0_spend 39 1 s0) fun s4 =>
    bd1 (ald s4 15 20 a2) fun v7 =>
    if (s4 39 10) = v7 then
    fX8_check_28 a1 n (a2 + 1) s4
    else
    some (.inl (1 + a2, s4))
def fX8_check  (s0 : St) : Option (Int32 × St) :=
    bd1 (ptf s0 14 1 0) fun s1 =>
    bd1 (fX8_thinkAnew  s1) fun s2 =>
    bS1 (fX8_check_28 (s0 14 1) FU 0 s2) (fun u11 => some u11) fun s10 =>
    some (0, s10)
set_option maxHeartbeats 4000000 in
set_option maxRecDepth 100000 in
theorem LX8_check_28 {l : Launch} {E : EE} {p : Program} {e : Env} {ms : State} {m : MethodId} {args : Array Value} {below : List Frame} {meth : Method} {c : Code} {a1 : Int32} {r9 : Int32} {t9 : St} (X : Cx E layC p ms m args c cX8_check RX8 3) (hlk : meth.locks = false) (hr : meth.sig.returnType = (some .int)) : ∀ (n : Nat) (a2 : Int32) (s0 : St) (o : (Int32 × St) ⊕ (St)), fX8_check_28 a1 n a2 s0 = some o → (∀ r, o = .inl r → r = (r9, t9)) → (∀  (t8 : St), o = .inr t8 → AW E layC p l e (rmD 6) ms m args below meth c 3 0 0 (MQc E layC below args ms (some (.int r9)) t9) 77 [] [] t8) → AW E layC p l e (rmD 6) ms m args below meth c 3 0 0 (MQc E layC below args ms (some (.int r9)) t9) 28 [(0, .ref (ea E 0)), (1, .int a1), (2, .int a2)] [] s0 := by
  intro n
  induction n with
  | zero =>
    intro a2 s0 o h hR hE
    cases h
  | succ n ih =>
    intro a2 s0 o h hR hE
    rw [fX8_check_28] at h
    refine r_iload_n X dX8_check_28 2 rfl rfl ?_
    refine r_iload_n X dX8_check_29 1 rfl rfl ?_
    refine r_icmp_ge X 77 dX8_check_30 (by decide) (fun c9 => ?_) (fun c9 => ?_)
    · rw [if_pos c9] at h
      refine r_sub (L' := []) [] rfl ?_
      cases h
      exact hE _ rfl
    · rw [if_neg c9] at h
      refine r_aload_n X dX8_check_33 0 rfl rfl ?_
      refine r_getr X dX8_check_34 i_X8 v_X8 lC_0 2 rfl (Nat.le_of_ble_eq_true rfl) g_295 ?_
      refine r_aload_n X dX8_check_37 0 rfl rfl ?_
      refine r_getr X dX8_check_38 i_X8 v_X8 lC_0 3 rfl (Nat.le_of_ble_eq_true rfl) g_296 ?_
      refine r_iconst X dX8_check_41 (v := 1) (by decide) ?_
      obtain ⟨s4, e5, h⟩ := bd1_ok h
      refine kX0_spend X (ctX0_spend hH_39 e5) dX8_check_42 lC_39 g_522 (Nat.le_of_ble_eq_true rfl) (Nat.le_of_ble_eq_true rfl) ?_
      refine r_aload_n X dX8_check_45 0 rfl rfl ?_
      refine r_getr X dX8_check_46 i_X8 v_X8 lC_0 2 rfl (Nat.le_of_ble_eq_true rfl) g_295 ?_
      refine r_geti X dX8_check_49 i_X0 v_X0 lC_39 10 rfl (Nat.le_of_ble_eq_true rfl) g_120 ?_
      refine r_aload_n X dX8_check_52 0 rfl rfl ?_
      refine r_getr X dX8_check_53 i_X8 v_X8 lC_0 0 rfl (Nat.le_of_ble_eq_true rfl) g_293 ?_
      refine r_getr X dX8_check_56 i_X7 v_X7 lC_1 2 rfl (Nat.le_of_ble_eq_true rfl) g_181 ?_
      refine r_getr X dX8_check_59 i_X4 v_X4 lC_14 0 rfl (Nat.le_of_ble_eq_true rfl) g_165 ?_
      refine r_iload_n X dX8_check_62 2 rfl rfl ?_
      obtain ⟨g6, v7, ev7, h⟩ := ld_ok h
      refine s_iald X dX8_check_63 lC_15 g6 ev7 ?_
      refine r_icmp_eq X 71 dX8_check_64 (by decide) (fun c8 => ?_) (fun c8 => ?_)
      · rw [if_pos c8] at h
        refine r_iinc (L' := [(0, .ref (ea E 0)), (1, .int a1), (2, .int (a2 + 1))]) (v := a2 + 1) X dX8_check_71 2 rfl rfl [1, 2, 0] rfl (Nat.le_of_ble_eq_true rfl) ?_
        refine r_goto X 28 dX8_check_74 (by decide) ?_
        exact ih _ _ _ h hR hE
      · rw [if_neg c8] at h
        refine r_iconst X dX8_check_67 (v := 1) (by decide) ?_
        refine r_iload_n X dX8_check_68 2 rfl rfl ?_
        refine r_iadd X dX8_check_69 ?_
        exact s_iret X hlk hr dX8_check_70 (inl_ok h hR)
set_option maxHeartbeats 4000000 in
set_option maxRecDepth 100000 in
theorem LX8_check_28_x {l : Launch} {E : EE} {p : Program} {e : Env} {ms : State} {m : MethodId} {args : Array Value} {below : List Frame} {meth : Method} {c : Code} {a1 : Int32} {r9 : Int32} {t9 : St} (X : Cx E layC p ms m args c cX8_check RX8 3) (hlk : meth.locks = false) (hr : meth.sig.returnType = (some .int)) (n : Nat) (a2 : Int32) (s0 : St)  (t8 : St) (h : fX8_check_28 a1 n a2 s0 = some (.inr t8)) (hE : AW E layC p l e (rmD 6) ms m args below meth c 3 0 0 (MQc E layC below args ms (some (.int r9)) t9) 77 [] [] t8) : AW E layC p l e (rmD 6) ms m args below meth c 3 0 0 (MQc E layC below args ms (some (.int r9)) t9) 28 [(0, .ref (ea E 0)), (1, .int a1), (2, .int a2)] [] s0 :=
  LX8_check_28 X hlk hr n a2 s0 _ h (fun r he => by cases he) (fun _ he => by cases he; exact hE)
set_option maxHeartbeats 4000000 in
set_option maxRecDepth 100000 in
theorem LX8_check_28_r {l : Launch} {E : EE} {p : Program} {e : Env} {ms : State} {m : MethodId} {args : Array Value} {below : List Frame} {meth : Method} {c : Code} {a1 : Int32} {r9 : Int32} {t9 : St} (X : Cx E layC p ms m args c cX8_check RX8 3) (hlk : meth.locks = false) (hr : meth.sig.returnType = (some .int)) (n : Nat) (a2 : Int32) (s0 : St) {r8 : Int32 × St} (h : fX8_check_28 a1 n a2 s0 = some (.inl r8)) (hR : ∀ r, (.inl r8 : (Int32 × St) ⊕ (St)) = .inl r → r = (r9, t9)) : AW E layC p l e (rmD 6) ms m args below meth c 3 0 0 (MQc E layC below args ms (some (.int r9)) t9) 28 [(0, .ref (ea E 0)), (1, .int a1), (2, .int a2)] [] s0 :=
  LX8_check_28 X hlk hr n a2 s0 _ h hR (fun _ he => by cases he)
set_option maxHeartbeats 4000000 in
set_option maxRecDepth 100000 in
theorem ctX8_check {l : Launch} {E : EE}  {s0 : St} {r9 : Int32} {t9 : St}  (h : fX8_check  s0 = some (r9, t9)) : Ct l E layC yX8_check cX8_check 3 (some .int) 6 [.ref (ea E 0)] s0 (some (.int r9)) t9 := by
  refine Ct.of (by decide) (Nat.le_of_ble_eq_true rfl) ?_
  intro p e ms m below meth c X hlk hr
  have X : Cx E layC p ms m [.ref (ea E 0)].toArray c cX8_check RX8 3 := X
  refine r_sub (L' := [(0, .ref (ea E 0))]) [0] rfl ?_
  unfold fX8_check at h
  refine r_aload_n X dX8_check_0 0 rfl rfl ?_
  refine r_getr X dX8_check_1 i_X8 v_X8 lC_0 0 rfl (Nat.le_of_ble_eq_true rfl) g_293 ?_
  refine r_getr X dX8_check_4 i_X7 v_X7 lC_1 2 rfl (Nat.le_of_ble_eq_true rfl) g_181 ?_
  refine r_geti X dX8_check_7 i_X4 v_X4 lC_14 1 rfl (Nat.le_of_ble_eq_true rfl) g_170 ?_
  refine r_istore_n (L' := [(0, .ref (ea E 0)), (1, .int (s0 14 1))]) X dX8_check_10 [1, 0] rfl rfl (Nat.le_of_ble_eq_true rfl) ?_
  refine r_aload_n X dX8_check_11 0 rfl rfl ?_
  refine r_getr X dX8_check_12 i_X8 v_X8 lC_0 0 rfl (Nat.le_of_ble_eq_true rfl) g_293 ?_
  refine r_getr X dX8_check_15 i_X7 v_X7 lC_1 2 rfl (Nat.le_of_ble_eq_true rfl) g_181 ?_
  refine r_iconst X dX8_check_18 (v := 0) (by decide) ?_
  obtain ⟨s1, es1, h⟩ := pt_ok h
  refine s_puti X dX8_check_19 i_X4 tyX4_ok nmX4 v_X4 lC_14 1 rfl (Nat.le_of_ble_eq_true rfl) g_170 rfl rfl ⟨rfl, rfl⟩ es1 ?_
  refine r_aload_n X dX8_check_22 0 rfl rfl ?_
  obtain ⟨s2, e3, h⟩ := bd1_ok h
  refine kX8_thinkAnew X (ctX8_thinkAnew e3) dX8_check_23 lC_0 g_559 (Nat.le_of_ble_eq_true rfl) (Nat.le_of_ble_eq_true rfl) ?_
  refine r_iconst X dX8_check_26 (v := 0) (by decide) ?_
  refine r_istore_n (L' := [(0, .ref (ea E 0)), (1, .int (s0 14 1)), (2, .int 0)]) X dX8_check_27 [1, 2, 0] rfl rfl (Nat.le_of_ble_eq_true rfl) ?_
  obtain ⟨o12, eo, ho⟩ := bS1_ok h
  rcases ho with ⟨u11, rfl, h⟩ | ⟨s10, rfl, h⟩
  · exact LX8_check_28_r X hlk hr FU _ _ eo (fun r hr1 => by cases hr1; exact Option.some.inj h)
  · refine LX8_check_28_x X hlk hr FU _ _ _ eo ?_
    refine r_iconst X dX8_check_77 (v := 0) (by decide) ?_
    exact s_iret X hlk hr dX8_check_78 h
/-! X8_count -/
theorem nX8_count : yX8_count.cls ≠ "java/lang/invoke/MethodHandle" ∧ yX8_count.cls ≠ "java/lang/invoke/VarHandle" ∧ (parseMethodDescriptor yX8_count.desc).map (fun d => d.parameters.length) = some 1 := by decide +kernel
theorem kX8_count {l : Launch} {E : EE} {p : Program} {e : Env} {ms : State} {m : MethodId} {args : Array Value} {below : List Frame} {meth : Method} {c : Code} {cc : ByteArray} {own : String} {nL pc idx d D : Nat} {Q : State → Prop} {L : List (Nat × Value)} {rest : List Value} {σ τ : St} {a1 : Int32} {r : Int32} {fl : List (Option Nat)} (X : Cx E layC p ms m args c cc own nL) (hM : Ct l E layC yX8_count cX8_count 2 (some .int) d [.ref (ea E 0), .int a1] σ (some (.int r)) τ) (hd : decode cc pc = .ok (.invokevirtual idx, 3)) (hlay : layC[0]? = some (.inl (7, fl))) (w1 : Cond.methodLink own idx yX8_count ∈ gw) (hR : d + 1 ≤ D) (hrs : (rest.map fun v => v.category).sum ≤ 8) (k : AW E layC p l e (rmD D) ms m args below meth c nL 0 0 Q (pc + 3) L (.int r :: rest) τ) : AW E layC p l e (rmD D) ms m args below meth c nL 0 0 Q pc L (.int a1 :: .ref (ea E 0) :: rest) σ :=
  s_callV X [.int a1] rest hM hd v_X8 hlay w1 g_749 g_750 g_67 g_751 nX8_count rfl rfl hrs (Nat.le_of_ble_eq_true rfl) hR k
def fX8_count (a1 : Int32) (s0 : St) : Option (Int32 × St) :=
    if a1 = 0 then
    some (s0 2 12, s0)
    else if a1 = 1 then
    some (s0 2 11, s0)
    else if a1 = 2 then
    some (s0 2 9, s0)
    else if a1 = 3 then
    some (s0 2 10, s0)
    else if a1 = 4 then
    bd2 (fX0_griefOfAll 2 s0) fun u8 s6 =>
    some (u8, s6)
    else if a1 = 5 then
    bd2 (fX0_knownOfAll 2 s0) fun u12 s10 =>
    some (u12, s10)
    else if a1 = 6 then
    bd2 (fX0_sweetOfAll 2 s0) fun u16 s14 =>
    some (u16, s14)
    else if a1 = 7 then
    some (s0 12 1, s0)
    else if a1 = 8 then
    some (s0 14 1, s0)
    else if a1 = 9 then
    some (s0 56 1, s0)
    else if a1 = 10 then
    some (s0 1 5, s0)
    else bd2 (fX8_error 1 s0) fun u23 s21 =>
    some (u23, s21)
set_option maxHeartbeats 4000000 in
set_option maxRecDepth 100000 in
theorem ctX8_count {l : Launch} {E : EE} {a1 : Int32} {s0 : St} {r9 : Int32} {t9 : St}  (h : fX8_count a1 s0 = some (r9, t9)) : Ct l E layC yX8_count cX8_count 2 (some .int) 1 [.ref (ea E 0), .int a1] s0 (some (.int r9)) t9 := by
  refine Ct.of (by decide) (Nat.le_of_ble_eq_true rfl) ?_
  intro p e ms m below meth c X hlk hr
  have X : Cx E layC p ms m [.ref (ea E 0), .int a1].toArray c cX8_count RX8 2 := X
  refine r_sub (L' := [(0, .ref (ea E 0)), (1, .int a1)]) [0, 1] rfl ?_
  unfold fX8_count at h
  refine r_iload_n X dX8_count_0 1 rfl rfl ?_
  by_cases c1 : a1 = 0
  · rw [if_pos c1] at h
    refine r_tabIn X 60 (0) (by rw [c1]; decide) dX8_count_1 (by decide) (by decide) rfl (by decide) ?_
    refine r_aload_n X dX8_count_60 0 rfl rfl ?_
    refine r_getr X dX8_count_61 i_X8 v_X8 lC_0 0 rfl (Nat.le_of_ble_eq_true rfl) g_293 ?_
    refine r_getr X dX8_count_64 i_X7 v_X7 lC_1 0 rfl (Nat.le_of_ble_eq_true rfl) g_177 ?_
    refine r_geti X dX8_count_67 i_X0 v_X0 lC_2 12 rfl (Nat.le_of_ble_eq_true rfl) g_124 ?_
    exact s_iret X hlk hr dX8_count_70 h
  rw [if_neg c1] at h
  by_cases c2 : a1 = 1
  · rw [if_pos c2] at h
    refine r_tabIn X 71 (1) (by rw [c2]; decide) dX8_count_1 (by decide) (by decide) rfl (by decide) ?_
    refine r_aload_n X dX8_count_71 0 rfl rfl ?_
    refine r_getr X dX8_count_72 i_X8 v_X8 lC_0 0 rfl (Nat.le_of_ble_eq_true rfl) g_293 ?_
    refine r_getr X dX8_count_75 i_X7 v_X7 lC_1 0 rfl (Nat.le_of_ble_eq_true rfl) g_177 ?_
    refine r_geti X dX8_count_78 i_X0 v_X0 lC_2 11 rfl (Nat.le_of_ble_eq_true rfl) g_122 ?_
    exact s_iret X hlk hr dX8_count_81 h
  rw [if_neg c2] at h
  by_cases c3 : a1 = 2
  · rw [if_pos c3] at h
    refine r_tabIn X 82 (2) (by rw [c3]; decide) dX8_count_1 (by decide) (by decide) rfl (by decide) ?_
    refine r_aload_n X dX8_count_82 0 rfl rfl ?_
    refine r_getr X dX8_count_83 i_X8 v_X8 lC_0 0 rfl (Nat.le_of_ble_eq_true rfl) g_293 ?_
    refine r_getr X dX8_count_86 i_X7 v_X7 lC_1 0 rfl (Nat.le_of_ble_eq_true rfl) g_177 ?_
    refine r_geti X dX8_count_89 i_X0 v_X0 lC_2 9 rfl (Nat.le_of_ble_eq_true rfl) g_118 ?_
    exact s_iret X hlk hr dX8_count_92 h
  rw [if_neg c3] at h
  by_cases c4 : a1 = 3
  · rw [if_pos c4] at h
    refine r_tabIn X 93 (3) (by rw [c4]; decide) dX8_count_1 (by decide) (by decide) rfl (by decide) ?_
    refine r_aload_n X dX8_count_93 0 rfl rfl ?_
    refine r_getr X dX8_count_94 i_X8 v_X8 lC_0 0 rfl (Nat.le_of_ble_eq_true rfl) g_293 ?_
    refine r_getr X dX8_count_97 i_X7 v_X7 lC_1 0 rfl (Nat.le_of_ble_eq_true rfl) g_177 ?_
    refine r_geti X dX8_count_100 i_X0 v_X0 lC_2 10 rfl (Nat.le_of_ble_eq_true rfl) g_120 ?_
    exact s_iret X hlk hr dX8_count_103 h
  rw [if_neg c4] at h
  by_cases c5 : a1 = 4
  · rw [if_pos c5] at h
    refine r_tabIn X 104 (4) (by rw [c5]; decide) dX8_count_1 (by decide) (by decide) rfl (by decide) ?_
    refine r_aload_n X dX8_count_104 0 rfl rfl ?_
    refine r_getr X dX8_count_105 i_X8 v_X8 lC_0 0 rfl (Nat.le_of_ble_eq_true rfl) g_293 ?_
    refine r_getr X dX8_count_108 i_X7 v_X7 lC_1 0 rfl (Nat.le_of_ble_eq_true rfl) g_177 ?_
    obtain ⟨u8, s6, e7, h⟩ := bd2_ok h
    refine kX0_griefOfAll X (ctX0_griefOfAll hH_2 e7) dX8_count_111 lC_2 g_752 (Nat.le_of_ble_eq_true rfl) (Nat.le_of_ble_eq_true rfl) ?_
    exact s_iret X hlk hr dX8_count_114 h
  rw [if_neg c5] at h
  by_cases c9 : a1 = 5
  · rw [if_pos c9] at h
    refine r_tabIn X 115 (5) (by rw [c9]; decide) dX8_count_1 (by decide) (by decide) rfl (by decide) ?_
    refine r_aload_n X dX8_count_115 0 rfl rfl ?_
    refine r_getr X dX8_count_116 i_X8 v_X8 lC_0 0 rfl (Nat.le_of_ble_eq_true rfl) g_293 ?_
    refine r_getr X dX8_count_119 i_X7 v_X7 lC_1 0 rfl (Nat.le_of_ble_eq_true rfl) g_177 ?_
    obtain ⟨u12, s10, e11, h⟩ := bd2_ok h
    refine kX0_knownOfAll X (ctX0_knownOfAll hH_2 e11) dX8_count_122 lC_2 g_588 (Nat.le_of_ble_eq_true rfl) (Nat.le_of_ble_eq_true rfl) ?_
    exact s_iret X hlk hr dX8_count_125 h
  rw [if_neg c9] at h
  by_cases c13 : a1 = 6
  · rw [if_pos c13] at h
    refine r_tabIn X 126 (6) (by rw [c13]; decide) dX8_count_1 (by decide) (by decide) rfl (by decide) ?_
    refine r_aload_n X dX8_count_126 0 rfl rfl ?_
    refine r_getr X dX8_count_127 i_X8 v_X8 lC_0 0 rfl (Nat.le_of_ble_eq_true rfl) g_293 ?_
    refine r_getr X dX8_count_130 i_X7 v_X7 lC_1 0 rfl (Nat.le_of_ble_eq_true rfl) g_177 ?_
    obtain ⟨u16, s14, e15, h⟩ := bd2_ok h
    refine kX0_sweetOfAll X (ctX0_sweetOfAll hH_2 e15) dX8_count_133 lC_2 g_756 (Nat.le_of_ble_eq_true rfl) (Nat.le_of_ble_eq_true rfl) ?_
    exact s_iret X hlk hr dX8_count_136 h
  rw [if_neg c13] at h
  by_cases c17 : a1 = 7
  · rw [if_pos c17] at h
    refine r_tabIn X 137 (7) (by rw [c17]; decide) dX8_count_1 (by decide) (by decide) rfl (by decide) ?_
    refine r_aload_n X dX8_count_137 0 rfl rfl ?_
    refine r_getr X dX8_count_138 i_X8 v_X8 lC_0 0 rfl (Nat.le_of_ble_eq_true rfl) g_293 ?_
    refine r_getr X dX8_count_141 i_X7 v_X7 lC_1 1 rfl (Nat.le_of_ble_eq_true rfl) g_179 ?_
    refine r_geti X dX8_count_144 i_X4 v_X4 lC_12 1 rfl (Nat.le_of_ble_eq_true rfl) g_170 ?_
    exact s_iret X hlk hr dX8_count_147 h
  rw [if_neg c17] at h
  by_cases c18 : a1 = 8
  · rw [if_pos c18] at h
    refine r_tabIn X 148 (8) (by rw [c18]; decide) dX8_count_1 (by decide) (by decide) rfl (by decide) ?_
    refine r_aload_n X dX8_count_148 0 rfl rfl ?_
    refine r_getr X dX8_count_149 i_X8 v_X8 lC_0 0 rfl (Nat.le_of_ble_eq_true rfl) g_293 ?_
    refine r_getr X dX8_count_152 i_X7 v_X7 lC_1 2 rfl (Nat.le_of_ble_eq_true rfl) g_181 ?_
    refine r_geti X dX8_count_155 i_X4 v_X4 lC_14 1 rfl (Nat.le_of_ble_eq_true rfl) g_170 ?_
    exact s_iret X hlk hr dX8_count_158 h
  rw [if_neg c18] at h
  by_cases c19 : a1 = 9
  · rw [if_pos c19] at h
    refine r_tabIn X 159 (9) (by rw [c19]; decide) dX8_count_1 (by decide) (by decide) rfl (by decide) ?_
    refine r_aload_n X dX8_count_159 0 rfl rfl ?_
    refine r_getr X dX8_count_160 i_X8 v_X8 lC_0 5 rfl (Nat.le_of_ble_eq_true rfl) g_298 ?_
    refine r_getr X dX8_count_163 i_X6 v_X6 lC_55 0 rfl (Nat.le_of_ble_eq_true rfl) g_260 ?_
    refine r_geti X dX8_count_166 i_X4 v_X4 lC_56 1 rfl (Nat.le_of_ble_eq_true rfl) g_170 ?_
    exact s_iret X hlk hr dX8_count_169 h
  rw [if_neg c19] at h
  by_cases c20 : a1 = 10
  · rw [if_pos c20] at h
    refine r_tabIn X 170 (10) (by rw [c20]; decide) dX8_count_1 (by decide) (by decide) rfl (by decide) ?_
    refine r_aload_n X dX8_count_170 0 rfl rfl ?_
    refine r_getr X dX8_count_171 i_X8 v_X8 lC_0 0 rfl (Nat.le_of_ble_eq_true rfl) g_293 ?_
    refine r_geti X dX8_count_174 i_X7 v_X7 lC_1 5 rfl (Nat.le_of_ble_eq_true rfl) g_187 ?_
    exact s_iret X hlk hr dX8_count_177 h
  rw [if_neg c20] at h
  have nc1 := lv_neT (k := 0) c1 (a := 0) (by decide)
  have nc2 := lv_neT (k := 1) c2 (a := 1) (by decide)
  have nc3 := lv_neT (k := 2) c3 (a := 2) (by decide)
  have nc4 := lv_neT (k := 3) c4 (a := 3) (by decide)
  have nc5 := lv_neT (k := 4) c5 (a := 4) (by decide)
  have nc9 := lv_neT (k := 5) c9 (a := 5) (by decide)
  have nc13 := lv_neT (k := 6) c13 (a := 6) (by decide)
  have nc17 := lv_neT (k := 7) c17 (a := 7) (by decide)
  have nc18 := lv_neT (k := 8) c18 (a := 8) (by decide)
  have nc19 := lv_neT (k := 9) c19 (a := 9) (by decide)
  have nc20 := lv_neT (k := 10) c20 (a := 10) (by decide)
  refine r_tabOut X 178 dX8_count_1 (by omega) (by decide) ?_
  refine r_aload_n X dX8_count_178 0 rfl rfl ?_
  refine r_iconst X dX8_count_179 (v := 1) (by decide) ?_
  obtain ⟨u23, s21, e22, h⟩ := bd2_ok h
  refine kX8_error X (ctX8_error e22) dX8_count_180 lC_0 g_337 (Nat.le_of_ble_eq_true rfl) (Nat.le_of_ble_eq_true rfl) ?_
  exact s_iret X hlk hr dX8_count_183 h
/-! X8_told -/
theorem nX8_told : yX8_told.cls ≠ "java/lang/invoke/MethodHandle" ∧ yX8_told.cls ≠ "java/lang/invoke/VarHandle" ∧ (parseMethodDescriptor yX8_told.desc).map (fun d => d.parameters.length) = some 1 := by decide +kernel
theorem kX8_told {l : Launch} {E : EE} {p : Program} {e : Env} {ms : State} {m : MethodId} {args : Array Value} {below : List Frame} {meth : Method} {c : Code} {cc : ByteArray} {own : String} {nL pc idx d D : Nat} {Q : State → Prop} {L : List (Nat × Value)} {rest : List Value} {σ τ : St} {a1 : Int32} {r : Int32} {fl : List (Option Nat)} (X : Cx E layC p ms m args c cc own nL) (hM : Ct l E layC yX8_told cX8_told 2 (some .int) d [.ref (ea E 0), .int a1] σ (some (.int r)) τ) (hd : decode cc pc = .ok (.invokevirtual idx, 3)) (hlay : layC[0]? = some (.inl (7, fl))) (w1 : Cond.methodLink own idx yX8_told ∈ gw) (hR : d + 1 ≤ D) (hrs : (rest.map fun v => v.category).sum ≤ 8) (k : AW E layC p l e (rmD D) ms m args below meth c nL 0 0 Q (pc + 3) L (.int r :: rest) τ) : AW E layC p l e (rmD D) ms m args below meth c nL 0 0 Q pc L (.int a1 :: .ref (ea E 0) :: rest) σ :=
  s_callV X [.int a1] rest hM hd v_X8 hlay w1 g_761 g_762 g_67 g_763 nX8_told rfl rfl hrs (Nat.le_of_ble_eq_true rfl) hR k
def fX8_told (a1 : Int32) (s0 : St) : Option (Int32 × St) :=
    bd2 (fX8_within a1 1 5 s0) fun u3 s1 =>
    if u3 = 0 then
    bd2 (fX8_error 1 s1) fun u6 s4 =>
    some (u6, s4)
    else
    bd1 (ald s1 67 6 a1) fun v8 =>
    some (v8, s1)
set_option maxHeartbeats 4000000 in
set_option maxRecDepth 100000 in
theorem ctX8_told {l : Launch} {E : EE} {a1 : Int32} {s0 : St} {r9 : Int32} {t9 : St}  (h : fX8_told a1 s0 = some (r9, t9)) : Ct l E layC yX8_told cX8_told 2 (some .int) 1 [.ref (ea E 0), .int a1] s0 (some (.int r9)) t9 := by
  refine Ct.of (by decide) (Nat.le_of_ble_eq_true rfl) ?_
  intro p e ms m below meth c X hlk hr
  have X : Cx E layC p ms m [.ref (ea E 0), .int a1].toArray c cX8_told RX8 2 := X
  refine r_sub (L' := [(0, .ref (ea E 0)), (1, .int a1)]) [0, 1] rfl ?_
  unfold fX8_told at h
  refine r_iload_n X dX8_told_0 1 rfl rfl ?_
  refine r_iconst X dX8_told_1 (v := 1) (by decide) ?_
  refine r_iconst X dX8_told_2 (v := 5) (by decide) ?_
  obtain ⟨u3, s1, e2, h⟩ := bd2_ok h
  refine kX8_within X (ctX8_within e2) dX8_told_3 g_334 (Nat.le_of_ble_eq_true rfl) (Nat.le_of_ble_eq_true rfl) ?_
  refine r_if_eq X 18 dX8_told_6 (by decide) (fun c9 => ?_) (fun c9 => ?_)
  · rw [if_pos c9] at h
    refine r_aload_n X dX8_told_18 0 rfl rfl ?_
    refine r_iconst X dX8_told_19 (v := 1) (by decide) ?_
    obtain ⟨u6, s4, e5, h⟩ := bd2_ok h
    refine kX8_error X (ctX8_error e5) dX8_told_20 lC_0 g_337 (Nat.le_of_ble_eq_true rfl) (Nat.le_of_ble_eq_true rfl) ?_
    exact s_iret X hlk hr dX8_told_23 h
  · rw [if_neg c9] at h
    refine r_aload_n X dX8_told_9 0 rfl rfl ?_
    refine r_getr X dX8_told_10 i_X8 v_X8 lC_0 7 rfl (Nat.le_of_ble_eq_true rfl) g_300 ?_
    refine r_iload_n X dX8_told_13 1 rfl rfl ?_
    obtain ⟨g7, v8, ev8, h⟩ := ld_ok h
    refine s_iald X dX8_told_14 lC_67 g7 ev8 ?_
    refine r_goto X 23 dX8_told_15 (by decide) ?_
    exact s_iret X hlk hr dX8_told_23 h
