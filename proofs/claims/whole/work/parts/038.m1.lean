/-! X9_named -/
theorem nX9_named : yX9_named.cls ≠ "java/lang/invoke/MethodHandle" ∧ yX9_named.cls ≠ "java/lang/invoke/VarHandle" ∧ (parseMethodDescriptor yX9_named.desc).map (fun d => d.parameters.length) = some 1 := by decide +kernel
theorem kX9_named {l : Launch} {E : EE} {p : Program} {e : Env} {ms : State} {m : MethodId} {args : Array Value} {below : List Frame} {meth : Method} {c : Code} {cc : ByteArray} {own : String} {nL pc idx d D : Nat} {Q : State → Prop} {L : List (Nat × Value)} {rest : List Value} {σ τ : St} {a1 : Int32} {r : Int32} {fl : List (Option Nat)} (X : Cx E layM p ms m args c cc own nL) (hM : Ct l E layM yX9_named cX9_named 5 (some .int) d [.ref (ea E 0), .int a1] σ (some (.int r)) τ) (hd : decode cc pc = .ok (.invokevirtual idx, 3)) (hlay : layM[0]? = some (.inl (8, fl))) (w1 : Cond.methodLink own idx yX9_named ∈ gw) (hR : d + 1 ≤ D) (hrs : (rest.map fun v => v.category).sum ≤ 8) (k : AW E layM p l e (rmD D) ms m args below meth c nL 0 0 Q (pc + 3) L (.int r :: rest) τ) : AW E layM p l e (rmD D) ms m args below meth c nL 0 0 Q pc L (.int a1 :: .ref (ea E 0) :: rest) σ :=
  s_callV X [.int a1] rest hM hd v_X9 hlay w1 g_989 g_43 g_77 g_990 nX9_named rfl rfl hrs (Nat.le_of_ble_eq_true rfl) hR k
def fX9_named (a1 : Int32) (s0 : St) : Option (Int32 × St) :=
    jn (fun (w1 : Int32) =>
    jn (fun (w2 : Int32) =>
    jn (fun (w3 : Int32) =>
    jn (fun (w4 : Int32) =>
    jn (fun (_ : Unit) =>
    bd1 (ptf s0 0 8 ((s0 0 8) + 1)) fun s5 =>
    if w2 = 0 then
    if w3 = 0 then
    some (s5 0 13, s5)
    else
    some (s5 0 12, s5)
    else
    some (s5 0 11, s5)) fun j67 =>
    if w2 = 0 then
    if w3 = 0 then
    if w4 = 0 then
    bd2 (fX9_fails  s0) fun u10 s8 =>
    some (u10, s8)
    else
    j67 ()
    else
    j67 ()
    else
    j67 ()) fun j47 =>
    if a1 = 103 then
    j47 1
    else
    j47 0) fun j35 =>
    if a1 = 115 then
    j35 1
    else
    j35 0) fun j23 =>
    if a1 = w1 then
    j23 1
    else
    j23 0) fun j15 =>
    if (s0 0 7) = 0 then
    j15 108
    else
    j15 101
set_option maxHeartbeats 4000000 in
set_option maxRecDepth 100000 in
theorem ctX9_named {l : Launch} {E : EE} {a1 : Int32} {s0 : St} {r9 : Int32} {t9 : St}  (h : fX9_named a1 s0 = some (r9, t9)) : Ct l E layM yX9_named cX9_named 5 (some .int) 1 [.ref (ea E 0), .int a1] s0 (some (.int r9)) t9 := by
  refine Ct.of (by decide) (Nat.le_of_ble_eq_true rfl) ?_
  intro p e ms m below meth c X hlk hr
  have X : Cx E layM p ms m [.ref (ea E 0), .int a1].toArray c cX9_named RX9 5 := X
  refine r_sub (L' := [(0, .ref (ea E 0)), (1, .int a1)]) [0, 1] rfl ?_
  unfold fX9_named at h
  refine r_iload_n X dX9_named_0 1 rfl rfl ?_
  refine r_aload_n X dX9_named_1 0 rfl rfl ?_
  refine r_geti X dX9_named_2 i_X9 v_X9 lM_0 7 rfl (Nat.le_of_ble_eq_true rfl) g_781 ?_
  obtain ⟨j15, ej15, h⟩ := jn1_ok h
  have hj15 : ∀ (w1 : Int32), j15 w1 = some (r9, t9) → AW E layM p l e (rmD 1) ms m [.ref (ea E 0), .int a1].toArray below meth c 5 0 0 (MQc E layM below [.ref (ea E 0), .int a1].toArray ms (some (.int r9)) t9) 15 [(0, .ref (ea E 0)), (1, .int a1)] [.int w1, .int a1] s0 := by
    intro w1 h
    rw [ej15] at h
    obtain ⟨j23, ej23, h⟩ := jn1_ok h
    have hj23 : ∀ (w2 : Int32), j23 w2 = some (r9, t9) → AW E layM p l e (rmD 1) ms m [.ref (ea E 0), .int a1].toArray below meth c 5 0 0 (MQc E layM below [.ref (ea E 0), .int a1].toArray ms (some (.int r9)) t9) 23 [(0, .ref (ea E 0)), (1, .int a1)] [.int w2] s0 := by
      intro w2 h
      rw [ej23] at h
      refine r_istore_n (L' := [(0, .ref (ea E 0)), (1, .int a1), (2, .int w2)]) X dX9_named_23 [1, 2, 0] rfl rfl (Nat.le_of_ble_eq_true rfl) ?_
      refine r_iload_n X dX9_named_24 1 rfl rfl ?_
      refine r_bipush X dX9_named_25 (v := 115) (by decide) ?_
      obtain ⟨j35, ej35, h⟩ := jn1_ok h
      have hj35 : ∀ (w3 : Int32), j35 w3 = some (r9, t9) → AW E layM p l e (rmD 1) ms m [.ref (ea E 0), .int a1].toArray below meth c 5 0 0 (MQc E layM below [.ref (ea E 0), .int a1].toArray ms (some (.int r9)) t9) 35 [(0, .ref (ea E 0)), (1, .int a1), (2, .int w2)] [.int w3] s0 := by
        intro w3 h
        rw [ej35] at h
        refine r_istore_n (L' := [(0, .ref (ea E 0)), (1, .int a1), (2, .int w2), (3, .int w3)]) X dX9_named_35 [1, 2, 3, 0] rfl rfl (Nat.le_of_ble_eq_true rfl) ?_
        refine r_iload_n X dX9_named_36 1 rfl rfl ?_
        refine r_bipush X dX9_named_37 (v := 103) (by decide) ?_
        obtain ⟨j47, ej47, h⟩ := jn1_ok h
        have hj47 : ∀ (w4 : Int32), j47 w4 = some (r9, t9) → AW E layM p l e (rmD 1) ms m [.ref (ea E 0), .int a1].toArray below meth c 5 0 0 (MQc E layM below [.ref (ea E 0), .int a1].toArray ms (some (.int r9)) t9) 47 [(0, .ref (ea E 0)), (2, .int w2), (3, .int w3)] [.int w4] s0 := by
          intro w4 h
          rw [ej47] at h
          refine r_istore (L' := [(0, .ref (ea E 0)), (2, .int w2), (3, .int w3), (4, .int w4)]) X dX9_named_47 [1, 2, 3, 0] rfl (Nat.le_of_ble_eq_true rfl) ?_
          refine r_iload_n X dX9_named_49 1 rfl rfl ?_
          obtain ⟨j67, ej67, h⟩ := jn1_ok h
          have hj67 : ∀ (u : Unit), j67 u = some (r9, t9) → AW E layM p l e (rmD 1) ms m [.ref (ea E 0), .int a1].toArray below meth c 5 0 0 (MQc E layM below [.ref (ea E 0), .int a1].toArray ms (some (.int r9)) t9) 67 [(0, .ref (ea E 0)), (2, .int w2), (3, .int w3)] [] s0 := by
            intro u h
            rw [ej67] at h
            refine r_aload_n X dX9_named_67 0 rfl rfl ?_
            refine r_dup X dX9_named_68 rfl ?_
            refine r_geti X dX9_named_69 i_X9 v_X9 lM_0 8 rfl (Nat.le_of_ble_eq_true rfl) g_782 ?_
            refine r_iconst X dX9_named_72 (v := 1) (by decide) ?_
            refine r_iadd X dX9_named_73 ?_
            obtain ⟨s5, es5, h⟩ := pt_ok h
            refine s_puti X dX9_named_74 i_X9 tyX9_ok nmX9 v_X9 lM_0 8 rfl (Nat.le_of_ble_eq_true rfl) g_782 rfl rfl ⟨rfl, rfl⟩ es5 ?_
            refine r_iload_n X dX9_named_77 1 rfl rfl ?_
            refine r_if_eq X 88 dX9_named_78 (by decide) (fun c7 => ?_) (fun c7 => ?_)
            · rw [if_pos c7] at h
              refine r_iload_n X dX9_named_88 2 rfl rfl ?_
              refine r_if_eq X 99 dX9_named_89 (by decide) (fun c6 => ?_) (fun c6 => ?_)
              · rw [if_pos c6] at h
                refine r_aload_n X dX9_named_99 0 rfl rfl ?_
                refine r_geti X dX9_named_100 i_X9 v_X9 lM_0 13 rfl (Nat.le_of_ble_eq_true rfl) g_787 ?_
                exact s_iret X hlk hr dX9_named_103 h
              · rw [if_neg c6] at h
                refine r_aload_n X dX9_named_92 0 rfl rfl ?_
                refine r_geti X dX9_named_93 i_X9 v_X9 lM_0 12 rfl (Nat.le_of_ble_eq_true rfl) g_786 ?_
                refine r_goto X 103 dX9_named_96 (by decide) ?_
                exact s_iret X hlk hr dX9_named_103 h
            · rw [if_neg c7] at h
              refine r_aload_n X dX9_named_81 0 rfl rfl ?_
              refine r_geti X dX9_named_82 i_X9 v_X9 lM_0 11 rfl (Nat.le_of_ble_eq_true rfl) g_785 ?_
              refine r_goto X 103 dX9_named_85 (by decide) ?_
              exact s_iret X hlk hr dX9_named_103 h
          refine r_if_ne X 67 dX9_named_50 (by decide) (fun c13 => ?_) (fun c13 => ?_)
          · rw [if_neg c13] at h
            refine r_sub (L' := [(0, .ref (ea E 0)), (2, .int w2), (3, .int w3)]) [0, 1, 2] rfl ?_
            exact hj67 _ h
          · rw [if_pos c13] at h
            refine r_iload_n X dX9_named_53 2 rfl rfl ?_
            refine r_if_ne X 67 dX9_named_54 (by decide) (fun c12 => ?_) (fun c12 => ?_)
            · rw [if_neg c12] at h
              refine r_sub (L' := [(0, .ref (ea E 0)), (2, .int w2), (3, .int w3)]) [0, 1, 2] rfl ?_
              exact hj67 _ h
            · rw [if_pos c12] at h
              refine r_iload X dX9_named_57 3 rfl ?_
              refine r_if_ne X 67 dX9_named_59 (by decide) (fun c11 => ?_) (fun c11 => ?_)
              · rw [if_neg c11] at h
                refine r_sub (L' := [(0, .ref (ea E 0)), (2, .int w2), (3, .int w3)]) [0, 1, 2] rfl ?_
                exact hj67 _ h
              · rw [if_pos c11] at h
                refine r_aload_n X dX9_named_62 0 rfl rfl ?_
                obtain ⟨u10, s8, e9, h⟩ := bd2_ok h
                refine kX9_fails X (ctX9_fails e9) dX9_named_63 lM_0 g_991 (Nat.le_of_ble_eq_true rfl) (Nat.le_of_ble_eq_true rfl) ?_
                exact s_iret X hlk hr dX9_named_66 h
        refine r_icmp_ne X 46 dX9_named_39 (by decide) (fun c14 => ?_) (fun c14 => ?_)
        · rw [if_neg c14] at h
          refine r_iconst X dX9_named_46 (v := 0) (by decide) ?_
          refine r_sub (L' := [(0, .ref (ea E 0)), (2, .int w2), (3, .int w3)]) [0, 2, 3] rfl ?_
          exact hj47 _ h
        · rw [if_pos c14] at h
          refine r_iconst X dX9_named_42 (v := 1) (by decide) ?_
          refine r_goto X 47 dX9_named_43 (by decide) ?_
          refine r_sub (L' := [(0, .ref (ea E 0)), (2, .int w2), (3, .int w3)]) [0, 2, 3] rfl ?_
          exact hj47 _ h
      refine r_icmp_ne X 34 dX9_named_27 (by decide) (fun c15 => ?_) (fun c15 => ?_)
      · rw [if_neg c15] at h
        refine r_iconst X dX9_named_34 (v := 0) (by decide) ?_
        exact hj35 _ h
      · rw [if_pos c15] at h
        refine r_iconst X dX9_named_30 (v := 1) (by decide) ?_
        refine r_goto X 35 dX9_named_31 (by decide) ?_
        exact hj35 _ h
    refine r_icmp_ne X 22 dX9_named_15 (by decide) (fun c16 => ?_) (fun c16 => ?_)
    · rw [if_neg c16] at h
      refine r_iconst X dX9_named_22 (v := 0) (by decide) ?_
      exact hj23 _ h
    · rw [if_pos c16] at h
      refine r_iconst X dX9_named_18 (v := 1) (by decide) ?_
      refine r_goto X 23 dX9_named_19 (by decide) ?_
      exact hj23 _ h
  refine r_if_ne X 13 dX9_named_5 (by decide) (fun c17 => ?_) (fun c17 => ?_)
  · rw [if_neg c17] at h
    refine r_bipush X dX9_named_13 (v := 101) (by decide) ?_
    exact hj15 _ h
  · rw [if_pos c17] at h
    refine r_bipush X dX9_named_8 (v := 108) (by decide) ?_
    refine r_goto X 15 dX9_named_10 (by decide) ?_
    exact hj15 _ h
/-! X9_both X9_compared X9_factor X9_product X9_sum X9_whole -/
theorem nX9_both : yX9_both.cls ≠ "java/lang/invoke/MethodHandle" ∧ yX9_both.cls ≠ "java/lang/invoke/VarHandle" ∧ (parseMethodDescriptor yX9_both.desc).map (fun d => d.parameters.length) = some 0 := by decide +kernel
theorem kX9_both {l : Launch} {E : EE} {p : Program} {e : Env} {ms : State} {m : MethodId} {args : Array Value} {below : List Frame} {meth : Method} {c : Code} {cc : ByteArray} {own : String} {nL pc idx d D : Nat} {Q : State → Prop} {L : List (Nat × Value)} {rest : List Value} {σ τ : St}  {r : Int32} {fl : List (Option Nat)} (X : Cx E layM p ms m args c cc own nL) (hM : Ct l E layM yX9_both cX9_both 3 (some .int) d [.ref (ea E 0)] σ (some (.int r)) τ) (hd : decode cc pc = .ok (.invokevirtual idx, 3)) (hlay : layM[0]? = some (.inl (8, fl))) (w1 : Cond.methodLink own idx yX9_both ∈ gw) (hR : d + 1 ≤ D) (hrs : (rest.map fun v => v.category).sum ≤ 8) (k : AW E layM p l e (rmD D) ms m args below meth c nL 0 0 Q (pc + 3) L (.int r :: rest) τ) : AW E layM p l e (rmD D) ms m args below meth c nL 0 0 Q pc L (.ref (ea E 0) :: rest) σ :=
  s_callV X [] rest hM hd v_X9 hlay w1 g_958 g_36 g_77 g_959 nX9_both rfl rfl hrs (Nat.le_of_ble_eq_true rfl) hR k
theorem nX9_compared : yX9_compared.cls ≠ "java/lang/invoke/MethodHandle" ∧ yX9_compared.cls ≠ "java/lang/invoke/VarHandle" ∧ (parseMethodDescriptor yX9_compared.desc).map (fun d => d.parameters.length) = some 0 := by decide +kernel
theorem kX9_compared {l : Launch} {E : EE} {p : Program} {e : Env} {ms : State} {m : MethodId} {args : Array Value} {below : List Frame} {meth : Method} {c : Code} {cc : ByteArray} {own : String} {nL pc idx d D : Nat} {Q : State → Prop} {L : List (Nat × Value)} {rest : List Value} {σ τ : St}  {r : Int32} {fl : List (Option Nat)} (X : Cx E layM p ms m args c cc own nL) (hM : Ct l E layM yX9_compared cX9_compared 5 (some .int) d [.ref (ea E 0)] σ (some (.int r)) τ) (hd : decode cc pc = .ok (.invokevirtual idx, 3)) (hlay : layM[0]? = some (.inl (8, fl))) (w1 : Cond.methodLink own idx yX9_compared ∈ gw) (hR : d + 1 ≤ D) (hrs : (rest.map fun v => v.category).sum ≤ 8) (k : AW E layM p l e (rmD D) ms m args below meth c nL 0 0 Q (pc + 3) L (.int r :: rest) τ) : AW E layM p l e (rmD D) ms m args below meth c nL 0 0 Q pc L (.ref (ea E 0) :: rest) σ :=
  s_callV X [] rest hM hd v_X9 hlay w1 g_962 g_37 g_77 g_963 nX9_compared rfl rfl hrs (Nat.le_of_ble_eq_true rfl) hR k
theorem nX9_factor : yX9_factor.cls ≠ "java/lang/invoke/MethodHandle" ∧ yX9_factor.cls ≠ "java/lang/invoke/VarHandle" ∧ (parseMethodDescriptor yX9_factor.desc).map (fun d => d.parameters.length) = some 0 := by decide +kernel
theorem kX9_factor {l : Launch} {E : EE} {p : Program} {e : Env} {ms : State} {m : MethodId} {args : Array Value} {below : List Frame} {meth : Method} {c : Code} {cc : ByteArray} {own : String} {nL pc idx d D : Nat} {Q : State → Prop} {L : List (Nat × Value)} {rest : List Value} {σ τ : St}  {r : Int32} {fl : List (Option Nat)} (X : Cx E layM p ms m args c cc own nL) (hM : Ct l E layM yX9_factor cX9_factor 3 (some .int) d [.ref (ea E 0)] σ (some (.int r)) τ) (hd : decode cc pc = .ok (.invokevirtual idx, 3)) (hlay : layM[0]? = some (.inl (8, fl))) (w1 : Cond.methodLink own idx yX9_factor ∈ gw) (hR : d + 1 ≤ D) (hrs : (rest.map fun v => v.category).sum ≤ 8) (k : AW E layM p l e (rmD D) ms m args below meth c nL 0 0 Q (pc + 3) L (.int r :: rest) τ) : AW E layM p l e (rmD D) ms m args below meth c nL 0 0 Q pc L (.ref (ea E 0) :: rest) σ :=
  s_callV X [] rest hM hd v_X9 hlay w1 g_974 g_40 g_77 g_975 nX9_factor rfl rfl hrs (Nat.le_of_ble_eq_true rfl) hR k
theorem nX9_product : yX9_product.cls ≠ "java/lang/invoke/MethodHandle" ∧ yX9_product.cls ≠ "java/lang/invoke/VarHandle" ∧ (parseMethodDescriptor yX9_product.desc).map (fun d => d.parameters.length) = some 0 := by decide +kernel
theorem kX9_product {l : Launch} {E : EE} {p : Program} {e : Env} {ms : State} {m : MethodId} {args : Array Value} {below : List Frame} {meth : Method} {c : Code} {cc : ByteArray} {own : String} {nL pc idx d D : Nat} {Q : State → Prop} {L : List (Nat × Value)} {rest : List Value} {σ τ : St}  {r : Int32} {fl : List (Option Nat)} (X : Cx E layM p ms m args c cc own nL) (hM : Ct l E layM yX9_product cX9_product 4 (some .int) d [.ref (ea E 0)] σ (some (.int r)) τ) (hd : decode cc pc = .ok (.invokevirtual idx, 3)) (hlay : layM[0]? = some (.inl (8, fl))) (w1 : Cond.methodLink own idx yX9_product ∈ gw) (hR : d + 1 ≤ D) (hrs : (rest.map fun v => v.category).sum ≤ 8) (k : AW E layM p l e (rmD D) ms m args below meth c nL 0 0 Q (pc + 3) L (.int r :: rest) τ) : AW E layM p l e (rmD D) ms m args below meth c nL 0 0 Q pc L (.ref (ea E 0) :: rest) σ :=
  s_callV X [] rest hM hd v_X9 hlay w1 g_970 g_39 g_77 g_971 nX9_product rfl rfl hrs (Nat.le_of_ble_eq_true rfl) hR k
theorem nX9_sum : yX9_sum.cls ≠ "java/lang/invoke/MethodHandle" ∧ yX9_sum.cls ≠ "java/lang/invoke/VarHandle" ∧ (parseMethodDescriptor yX9_sum.desc).map (fun d => d.parameters.length) = some 0 := by decide +kernel
theorem kX9_sum {l : Launch} {E : EE} {p : Program} {e : Env} {ms : State} {m : MethodId} {args : Array Value} {below : List Frame} {meth : Method} {c : Code} {cc : ByteArray} {own : String} {nL pc idx d D : Nat} {Q : State → Prop} {L : List (Nat × Value)} {rest : List Value} {σ τ : St}  {r : Int32} {fl : List (Option Nat)} (X : Cx E layM p ms m args c cc own nL) (hM : Ct l E layM yX9_sum cX9_sum 4 (some .int) d [.ref (ea E 0)] σ (some (.int r)) τ) (hd : decode cc pc = .ok (.invokevirtual idx, 3)) (hlay : layM[0]? = some (.inl (8, fl))) (w1 : Cond.methodLink own idx yX9_sum ∈ gw) (hR : d + 1 ≤ D) (hrs : (rest.map fun v => v.category).sum ≤ 8) (k : AW E layM p l e (rmD D) ms m args below meth c nL 0 0 Q (pc + 3) L (.int r :: rest) τ) : AW E layM p l e (rmD D) ms m args below meth c nL 0 0 Q pc L (.ref (ea E 0) :: rest) σ :=
  s_callV X [] rest hM hd v_X9 hlay w1 g_966 g_38 g_77 g_967 nX9_sum rfl rfl hrs (Nat.le_of_ble_eq_true rfl) hR k
theorem nX9_whole : yX9_whole.cls ≠ "java/lang/invoke/MethodHandle" ∧ yX9_whole.cls ≠ "java/lang/invoke/VarHandle" ∧ (parseMethodDescriptor yX9_whole.desc).map (fun d => d.parameters.length) = some 0 := by decide +kernel
theorem kX9_whole {l : Launch} {E : EE} {p : Program} {e : Env} {ms : State} {m : MethodId} {args : Array Value} {below : List Frame} {meth : Method} {c : Code} {cc : ByteArray} {own : String} {nL pc idx d D : Nat} {Q : State → Prop} {L : List (Nat × Value)} {rest : List Value} {σ τ : St}  {r : Int32} {fl : List (Option Nat)} (X : Cx E layM p ms m args c cc own nL) (hM : Ct l E layM yX9_whole cX9_whole 3 (some .int) d [.ref (ea E 0)] σ (some (.int r)) τ) (hd : decode cc pc = .ok (.invokevirtual idx, 3)) (hlay : layM[0]? = some (.inl (8, fl))) (w1 : Cond.methodLink own idx yX9_whole ∈ gw) (hR : d + 1 ≤ D) (hrs : (rest.map fun v => v.category).sum ≤ 8) (k : AW E layM p l e (rmD D) ms m args below meth c nL 0 0 Q (pc + 3) L (.int r :: rest) τ) : AW E layM p l e (rmD D) ms m args below meth c nL 0 0 Q pc L (.ref (ea E 0) :: rest) σ :=
  s_callV X [] rest hM hd v_X9 hlay w1 g_954 g_35 g_77 g_955 nX9_whole rfl rfl hrs (Nat.le_of_ble_eq_true rfl) hR k
def fX9_both_5 (rec : Nat → List Int32 → St → Option (Int32 × St)) : Nat → Int32 → St → Option (Int32 × St)
  | 0, _, _ => none
  | n + 1, a1, s0 =>
    if (s0 0 14) = 0 then
    some (a1, s0)
    else
    bd2 (fX9_byteAt (s0 0 8) s0) fun u6 s4 =>
    if u6 = 38 then
    bd1 (ptf s4 0 8 ((s4 0 8) + 1)) fun s7 =>
    bd2 (rec 1 [] s7) fun u10 s8 =>
    jn (fun (w11 : Int32) =>
    fX9_both_5 rec n w11 s8) fun j53 =>
    jn (fun (_ : Unit) =>
    j53 0) fun j52 =>
    if a1 = 0 then
    j52 ()
    else
    if u10 = 0 then
    j52 ()
    else
    j53 1
    else
    some (a1, s4)
def fX9_both (rec : Nat → List Int32 → St → Option (Int32 × St)) (s0 : St) : Option (Int32 × St) :=
    bd2 (rec 1 [] s0) fun u3 s1 =>
    bd2 (fX9_both_5 rec FU u3 s1) fun v17 s16 =>
    some (v17, s16)
set_option maxHeartbeats 4000000 in
set_option maxRecDepth 100000 in
theorem LX9_both_5 {l : Launch} {E : EE} {p : Program} {e : Env} {ms : State} {m : MethodId} {args : Array Value} {below : List Frame} {meth : Method} {c : Code} {d : Nat} {rec : Nat → List Int32 → St → Option (Int32 × St)}  {Q : State → Prop} (X : Cx E layM p ms m args c cX9_both RX9 3) (hd : 3 ≤ d) (hrec0 : ∀  (s : St) (r : Int32) (t : St), rec 0 [] s = some (r, t) → Ct l E layM yX9_both cX9_both 3 (some .int) d [.ref (ea E 0)] s (some (.int r)) t) (hrec1 : ∀  (s : St) (r : Int32) (t : St), rec 1 [] s = some (r, t) → Ct l E layM yX9_compared cX9_compared 5 (some .int) d [.ref (ea E 0)] s (some (.int r)) t) (hrec2 : ∀  (s : St) (r : Int32) (t : St), rec 2 [] s = some (r, t) → Ct l E layM yX9_factor cX9_factor 3 (some .int) d [.ref (ea E 0)] s (some (.int r)) t) (hrec3 : ∀  (s : St) (r : Int32) (t : St), rec 3 [] s = some (r, t) → Ct l E layM yX9_product cX9_product 4 (some .int) d [.ref (ea E 0)] s (some (.int r)) t) (hrec4 : ∀  (s : St) (r : Int32) (t : St), rec 4 [] s = some (r, t) → Ct l E layM yX9_sum cX9_sum 4 (some .int) d [.ref (ea E 0)] s (some (.int r)) t) (hrec5 : ∀  (s : St) (r : Int32) (t : St), rec 5 [] s = some (r, t) → Ct l E layM yX9_whole cX9_whole 3 (some .int) d [.ref (ea E 0)] s (some (.int r)) t) : ∀ (n : Nat) (a1 : Int32) (s0 : St) (q1 : Int32) (t8 : St), fX9_both_5 rec n a1 s0 = some (q1, t8) → AW E layM p l e (rmD (d + 1)) ms m args below meth c 3 0 0 Q 57 [(1, .int q1)] [] t8 → AW E layM p l e (rmD (d + 1)) ms m args below meth c 3 0 0 Q 5 [(0, .ref (ea E 0)), (1, .int a1)] [] s0 := by
  intro n
  induction n with
  | zero =>
    intro a1 s0 q1 t8 h hE
    cases h
  | succ n ih =>
    intro a1 s0 q1 t8 h hE
    rw [fX9_both_5] at h
    refine r_aload_n X dX9_both_5 0 rfl rfl ?_
    refine r_geti X dX9_both_6 i_X9 v_X9 lM_0 14 rfl (Nat.le_of_ble_eq_true rfl) g_788 ?_
    refine r_if_eq X 57 dX9_both_9 (by decide) (fun c15 => ?_) (fun c15 => ?_)
    · rw [if_pos c15] at h
      refine r_sub (L' := [(1, .int a1)]) [1] rfl ?_
      cases h
      exact hE
    · rw [if_neg c15] at h
      refine r_aload_n X dX9_both_12 0 rfl rfl ?_
      refine r_aload_n X dX9_both_13 0 rfl rfl ?_
      refine r_geti X dX9_both_14 i_X9 v_X9 lM_0 8 rfl (Nat.le_of_ble_eq_true rfl) g_782 ?_
      obtain ⟨u6, s4, e5, h⟩ := bd2_ok h
      refine kX9_byteAt X (ctX9_byteAt e5) dX9_both_17 lM_0 g_976 (by omega) (Nat.le_of_ble_eq_true rfl) ?_
      refine r_bipush X dX9_both_20 (v := 38) (by decide) ?_
      refine r_icmp_ne X 57 dX9_both_22 (by decide) (fun c14 => ?_) (fun c14 => ?_)
      · rw [if_neg c14] at h
        refine r_sub (L' := [(1, .int a1)]) [1] rfl ?_
        cases h
        exact hE
      · rw [if_pos c14] at h
        refine r_aload_n X dX9_both_25 0 rfl rfl ?_
        refine r_dup X dX9_both_26 rfl ?_
        refine r_geti X dX9_both_27 i_X9 v_X9 lM_0 8 rfl (Nat.le_of_ble_eq_true rfl) g_782 ?_
        refine r_iconst X dX9_both_30 (v := 1) (by decide) ?_
        refine r_iadd X dX9_both_31 ?_
        obtain ⟨s7, es7, h⟩ := pt_ok h
        refine s_puti X dX9_both_32 i_X9 tyX9_ok nmX9 v_X9 lM_0 8 rfl (Nat.le_of_ble_eq_true rfl) g_782 rfl rfl ⟨rfl, rfl⟩ es7 ?_
        refine r_aload_n X dX9_both_35 0 rfl rfl ?_
        obtain ⟨u10, s8, e9, h⟩ := bd2_ok h
        refine kX9_compared X (hrec1 _ _ _ e9) dX9_both_36 lM_0 g_960 (by omega) (Nat.le_of_ble_eq_true rfl) ?_
        refine r_istore_n (L' := [(0, .ref (ea E 0)), (1, .int a1), (2, .int u10)]) X dX9_both_39 [1, 2, 0] rfl rfl (Nat.le_of_ble_eq_true rfl) ?_
        refine r_iload_n X dX9_both_40 1 rfl rfl ?_
        obtain ⟨j53, ej53, h⟩ := jn1_ok h
        have hj53 : ∀ (w11 : Int32), j53 w11 = some (q1, t8) → AW E layM p l e (rmD (d + 1)) ms m args below meth c 3 0 0 Q 53 [(0, .ref (ea E 0))] [.int w11] s8 := by
          intro w11 h
          rw [ej53] at h
          refine r_istore_n (L' := [(0, .ref (ea E 0)), (1, .int w11)]) X dX9_both_53 [1, 0] rfl rfl (Nat.le_of_ble_eq_true rfl) ?_
          refine r_goto X 5 dX9_both_54 (by decide) ?_
          exact ih _ _ _ _ h hE
        obtain ⟨j52, ej52, h⟩ := jn1_ok h
        have hj52 : ∀ (u : Unit), j52 u = some (q1, t8) → AW E layM p l e (rmD (d + 1)) ms m args below meth c 3 0 0 Q 52 [(0, .ref (ea E 0))] [] s8 := by
          intro u h
          rw [ej52] at h
          refine r_iconst X dX9_both_52 (v := 0) (by decide) ?_
          exact hj53 _ h
        refine r_if_eq X 52 dX9_both_41 (by decide) (fun c13 => ?_) (fun c13 => ?_)
        · rw [if_pos c13] at h
          refine r_sub (L' := [(0, .ref (ea E 0))]) [0] rfl ?_
          exact hj52 _ h
        · rw [if_neg c13] at h
          refine r_iload_n X dX9_both_44 2 rfl rfl ?_
          refine r_if_eq X 52 dX9_both_45 (by decide) (fun c12 => ?_) (fun c12 => ?_)
          · rw [if_pos c12] at h
            refine r_sub (L' := [(0, .ref (ea E 0))]) [0] rfl ?_
            exact hj52 _ h
          · rw [if_neg c12] at h
            refine r_iconst X dX9_both_48 (v := 1) (by decide) ?_
            refine r_goto X 53 dX9_both_49 (by decide) ?_
            refine r_sub (L' := [(0, .ref (ea E 0))]) [0] rfl ?_
            exact hj53 _ h
set_option maxHeartbeats 4000000 in
set_option maxRecDepth 100000 in
theorem ctX9_both_s {l : Launch} {E : EE} {d : Nat} {rec : Nat → List Int32 → St → Option (Int32 × St)}  {s0 : St} {r9 : Int32} {t9 : St} (hd : 3 ≤ d) (hrec0 : ∀  (s : St) (r : Int32) (t : St), rec 0 [] s = some (r, t) → Ct l E layM yX9_both cX9_both 3 (some .int) d [.ref (ea E 0)] s (some (.int r)) t) (hrec1 : ∀  (s : St) (r : Int32) (t : St), rec 1 [] s = some (r, t) → Ct l E layM yX9_compared cX9_compared 5 (some .int) d [.ref (ea E 0)] s (some (.int r)) t) (hrec2 : ∀  (s : St) (r : Int32) (t : St), rec 2 [] s = some (r, t) → Ct l E layM yX9_factor cX9_factor 3 (some .int) d [.ref (ea E 0)] s (some (.int r)) t) (hrec3 : ∀  (s : St) (r : Int32) (t : St), rec 3 [] s = some (r, t) → Ct l E layM yX9_product cX9_product 4 (some .int) d [.ref (ea E 0)] s (some (.int r)) t) (hrec4 : ∀  (s : St) (r : Int32) (t : St), rec 4 [] s = some (r, t) → Ct l E layM yX9_sum cX9_sum 4 (some .int) d [.ref (ea E 0)] s (some (.int r)) t) (hrec5 : ∀  (s : St) (r : Int32) (t : St), rec 5 [] s = some (r, t) → Ct l E layM yX9_whole cX9_whole 3 (some .int) d [.ref (ea E 0)] s (some (.int r)) t) (h : fX9_both rec s0 = some (r9, t9)) : Ct l E layM yX9_both cX9_both 3 (some .int) (d + 1) [.ref (ea E 0)] s0 (some (.int r9)) t9 := by
  refine Ct.of (by decide) (Nat.le_of_ble_eq_true rfl) ?_
  intro p e ms m below meth c X hlk hr
  have X : Cx E layM p ms m [.ref (ea E 0)].toArray c cX9_both RX9 3 := X
  refine r_sub (L' := [(0, .ref (ea E 0))]) [0] rfl ?_
  unfold fX9_both at h
  refine r_aload_n X dX9_both_0 0 rfl rfl ?_
  obtain ⟨u3, s1, e2, h⟩ := bd2_ok h
  refine kX9_compared X (hrec1 _ _ _ e2) dX9_both_1 lM_0 g_960 (by omega) (Nat.le_of_ble_eq_true rfl) ?_
  refine r_istore_n (L' := [(0, .ref (ea E 0)), (1, .int u3)]) X dX9_both_4 [1, 0] rfl rfl (Nat.le_of_ble_eq_true rfl) ?_
  obtain ⟨v17, s16, eo, h⟩ := bd2_ok h
  refine LX9_both_5 X hd hrec0 hrec1 hrec2 hrec3 hrec4 hrec5 FU _ _ _ _ eo ?_
  refine r_iload_n X dX9_both_57 0 rfl rfl ?_
  exact s_iret X hlk hr dX9_both_58 h
def fX9_compared (rec : Nat → List Int32 → St → Option (Int32 × St)) (s0 : St) : Option (Int32 × St) :=
    bd2 (rec 4 [] s0) fun u3 s1 =>
    jn (fun (w4 : Int32) (s5 : St) =>
    jn (fun (_ : Unit) =>
    bd1 (ptf s5 0 8 ((s5 0 8) + 1)) fun s6 =>
    bd2 (rec 4 [] s6) fun u9 s7 =>
    jn (fun (w10 : Int32) =>
    if w10 = 0 then
    some (0, s7)
    else
    some (1, s7)) fun j108 =>
    if w4 = 60 then
    if u9 ≤ u3 then
    j108 0
    else
    j108 1
    else
    if w4 = 61 then
    if u3 = u9 then
    j108 1
    else
    j108 0
    else
    if u3 ≤ u9 then
    j108 0
    else
    j108 1) fun j45 =>
    if w4 = 60 then
    j45 ()
    else
    if w4 = 61 then
    j45 ()
    else
    if w4 = 62 then
    j45 ()
    else
    some (u3, s5)) fun j24 =>
    if (s1 0 14) = 0 then
    j24 (-1) s1
    else
    bd2 (fX9_byteAt (s1 0 8) s1) fun u22 s20 =>
    j24 u22 s20
set_option maxHeartbeats 4000000 in
set_option maxRecDepth 100000 in
theorem ctX9_compared_s {l : Launch} {E : EE} {d : Nat} {rec : Nat → List Int32 → St → Option (Int32 × St)}  {s0 : St} {r9 : Int32} {t9 : St} (hd : 3 ≤ d) (hrec0 : ∀  (s : St) (r : Int32) (t : St), rec 0 [] s = some (r, t) → Ct l E layM yX9_both cX9_both 3 (some .int) d [.ref (ea E 0)] s (some (.int r)) t) (hrec1 : ∀  (s : St) (r : Int32) (t : St), rec 1 [] s = some (r, t) → Ct l E layM yX9_compared cX9_compared 5 (some .int) d [.ref (ea E 0)] s (some (.int r)) t) (hrec2 : ∀  (s : St) (r : Int32) (t : St), rec 2 [] s = some (r, t) → Ct l E layM yX9_factor cX9_factor 3 (some .int) d [.ref (ea E 0)] s (some (.int r)) t) (hrec3 : ∀  (s : St) (r : Int32) (t : St), rec 3 [] s = some (r, t) → Ct l E layM yX9_product cX9_product 4 (some .int) d [.ref (ea E 0)] s (some (.int r)) t) (hrec4 : ∀  (s : St) (r : Int32) (t : St), rec 4 [] s = some (r, t) → Ct l E layM yX9_sum cX9_sum 4 (some .int) d [.ref (ea E 0)] s (some (.int r)) t) (hrec5 : ∀  (s : St) (r : Int32) (t : St), rec 5 [] s = some (r, t) → Ct l E layM yX9_whole cX9_whole 3 (some .int) d [.ref (ea E 0)] s (some (.int r)) t) (h : fX9_compared rec s0 = some (r9, t9)) : Ct l E layM yX9_compared cX9_compared 5 (some .int) (d + 1) [.ref (ea E 0)] s0 (some (.int r9)) t9 := by
  refine Ct.of (by decide) (Nat.le_of_ble_eq_true rfl) ?_
  intro p e ms m below meth c X hlk hr
  have X : Cx E layM p ms m [.ref (ea E 0)].toArray c cX9_compared RX9 5 := X
  refine r_sub (L' := [(0, .ref (ea E 0))]) [0] rfl ?_
  unfold fX9_compared at h
  refine r_aload_n X dX9_compared_0 0 rfl rfl ?_
  obtain ⟨u3, s1, e2, h⟩ := bd2_ok h
  refine kX9_sum X (hrec4 _ _ _ e2) dX9_compared_1 lM_0 g_964 (by omega) (Nat.le_of_ble_eq_true rfl) ?_
  refine r_istore_n (L' := [(0, .ref (ea E 0)), (1, .int u3)]) X dX9_compared_4 [1, 0] rfl rfl (Nat.le_of_ble_eq_true rfl) ?_
  refine r_aload_n X dX9_compared_5 0 rfl rfl ?_
  refine r_geti X dX9_compared_6 i_X9 v_X9 lM_0 14 rfl (Nat.le_of_ble_eq_true rfl) g_788 ?_
  obtain ⟨j24, ej24, h⟩ := jn2_ok h
  have hj24 : ∀ (w4 : Int32) (s5 : St), j24 w4 s5 = some (r9, t9) → AW E layM p l e (rmD (d + 1)) ms m [.ref (ea E 0)].toArray below meth c 5 0 0 (MQc E layM below [.ref (ea E 0)].toArray ms (some (.int r9)) t9) 24 [(0, .ref (ea E 0)), (1, .int u3)] [.int w4] s5 := by
    intro w4 s5 h
    rw [ej24] at h
    refine r_istore_n (L' := [(0, .ref (ea E 0)), (1, .int u3), (2, .int w4)]) X dX9_compared_24 [1, 2, 0] rfl rfl (Nat.le_of_ble_eq_true rfl) ?_
    refine r_iload_n X dX9_compared_25 2 rfl rfl ?_
    refine r_bipush X dX9_compared_26 (v := 60) (by decide) ?_
    obtain ⟨j45, ej45, h⟩ := jn1_ok h
    have hj45 : ∀ (u : Unit), j45 u = some (r9, t9) → AW E layM p l e (rmD (d + 1)) ms m [.ref (ea E 0)].toArray below meth c 5 0 0 (MQc E layM below [.ref (ea E 0)].toArray ms (some (.int r9)) t9) 45 [(0, .ref (ea E 0)), (1, .int u3), (2, .int w4)] [] s5 := by
      intro u h
      rw [ej45] at h
      refine r_aload_n X dX9_compared_45 0 rfl rfl ?_
      refine r_dup X dX9_compared_46 rfl ?_
      refine r_geti X dX9_compared_47 i_X9 v_X9 lM_0 8 rfl (Nat.le_of_ble_eq_true rfl) g_782 ?_
      refine r_iconst X dX9_compared_50 (v := 1) (by decide) ?_
      refine r_iadd X dX9_compared_51 ?_
      obtain ⟨s6, es6, h⟩ := pt_ok h
      refine s_puti X dX9_compared_52 i_X9 tyX9_ok nmX9 v_X9 lM_0 8 rfl (Nat.le_of_ble_eq_true rfl) g_782 rfl rfl ⟨rfl, rfl⟩ es6 ?_
      refine r_aload_n X dX9_compared_55 0 rfl rfl ?_
      obtain ⟨u9, s7, e8, h⟩ := bd2_ok h
      refine kX9_sum X (hrec4 _ _ _ e8) dX9_compared_56 lM_0 g_964 (by omega) (Nat.le_of_ble_eq_true rfl) ?_
      refine r_istore_n (L' := [(1, .int u3), (2, .int w4), (3, .int u9)]) X dX9_compared_59 [2, 3, 0] rfl rfl (Nat.le_of_ble_eq_true rfl) ?_
      refine r_iload_n X dX9_compared_60 1 rfl rfl ?_
      refine r_bipush X dX9_compared_61 (v := 60) (by decide) ?_
      obtain ⟨j108, ej108, h⟩ := jn1_ok h
      have hj108 : ∀ (w10 : Int32), j108 w10 = some (r9, t9) → AW E layM p l e (rmD (d + 1)) ms m [.ref (ea E 0)].toArray below meth c 5 0 0 (MQc E layM below [.ref (ea E 0)].toArray ms (some (.int r9)) t9) 108 [] [.int w10] s7 := by
        intro w10 h
        rw [ej108] at h
        refine r_istore (L' := [(4, .int w10)]) X dX9_compared_108 [0] rfl (Nat.le_of_ble_eq_true rfl) ?_
        refine r_iload X dX9_compared_110 0 rfl ?_
        refine r_if_eq X 119 dX9_compared_112 (by decide) (fun c11 => ?_) (fun c11 => ?_)
        · rw [if_pos c11] at h
          refine r_iconst X dX9_compared_119 (v := 0) (by decide) ?_
          exact s_iret X hlk hr dX9_compared_120 h
        · rw [if_neg c11] at h
          refine r_iconst X dX9_compared_115 (v := 1) (by decide) ?_
          refine r_goto X 120 dX9_compared_116 (by decide) ?_
          exact s_iret X hlk hr dX9_compared_120 h
      refine r_icmp_ne X 79 dX9_compared_63 (by decide) (fun c16 => ?_) (fun c16 => ?_)
      · rw [if_neg c16] at h
        refine r_iload_n X dX9_compared_79 1 rfl rfl ?_
        refine r_bipush X dX9_compared_80 (v := 61) (by decide) ?_
        refine r_icmp_ne X 98 dX9_compared_82 (by decide) (fun c14 => ?_) (fun c14 => ?_)
        · rw [if_neg c14] at h
          refine r_iload_n X dX9_compared_98 0 rfl rfl ?_
          refine r_iload_n X dX9_compared_99 2 rfl rfl ?_
          refine r_icmp_le X 107 dX9_compared_100 (by decide) (fun c12 => ?_) (fun c12 => ?_)
          · rw [if_pos c12] at h
            refine r_iconst X dX9_compared_107 (v := 0) (by decide) ?_
            refine r_sub (L' := []) [] rfl ?_
            exact hj108 _ h
          · rw [if_neg c12] at h
            refine r_iconst X dX9_compared_103 (v := 1) (by decide) ?_
            refine r_goto X 108 dX9_compared_104 (by decide) ?_
            refine r_sub (L' := []) [] rfl ?_
            exact hj108 _ h
        · rw [if_pos c14] at h
          refine r_iload_n X dX9_compared_85 0 rfl rfl ?_
          refine r_iload_n X dX9_compared_86 2 rfl rfl ?_
          refine r_icmp_ne X 94 dX9_compared_87 (by decide) (fun c13 => ?_) (fun c13 => ?_)
          · rw [if_neg c13] at h
            refine r_iconst X dX9_compared_94 (v := 0) (by decide) ?_
            refine r_goto X 108 dX9_compared_95 (by decide) ?_
            refine r_sub (L' := []) [] rfl ?_
            exact hj108 _ h
          · rw [if_pos c13] at h
            refine r_iconst X dX9_compared_90 (v := 1) (by decide) ?_
            refine r_goto X 108 dX9_compared_91 (by decide) ?_
            refine r_sub (L' := []) [] rfl ?_
            exact hj108 _ h
      · rw [if_pos c16] at h
        refine r_iload_n X dX9_compared_66 0 rfl rfl ?_
        refine r_iload_n X dX9_compared_67 2 rfl rfl ?_
        refine r_icmp_ge X 75 dX9_compared_68 (by decide) (fun c15 => ?_) (fun c15 => ?_)
        · rw [if_pos c15] at h
          refine r_iconst X dX9_compared_75 (v := 0) (by decide) ?_
          refine r_goto X 108 dX9_compared_76 (by decide) ?_
          refine r_sub (L' := []) [] rfl ?_
          exact hj108 _ h
        · rw [if_neg c15] at h
          refine r_iconst X dX9_compared_71 (v := 1) (by decide) ?_
          refine r_goto X 108 dX9_compared_72 (by decide) ?_
          refine r_sub (L' := []) [] rfl ?_
          exact hj108 _ h
    refine r_icmp_eq X 45 dX9_compared_28 (by decide) (fun c19 => ?_) (fun c19 => ?_)
    · rw [if_pos c19] at h
      exact hj45 _ h
    · rw [if_neg c19] at h
      refine r_iload_n X dX9_compared_31 2 rfl rfl ?_
      refine r_bipush X dX9_compared_32 (v := 61) (by decide) ?_
      refine r_icmp_eq X 45 dX9_compared_34 (by decide) (fun c18 => ?_) (fun c18 => ?_)
      · rw [if_pos c18] at h
        exact hj45 _ h
      · rw [if_neg c18] at h
        refine r_iload_n X dX9_compared_37 2 rfl rfl ?_
        refine r_bipush X dX9_compared_38 (v := 62) (by decide) ?_
        refine r_icmp_eq X 45 dX9_compared_40 (by decide) (fun c17 => ?_) (fun c17 => ?_)
        · rw [if_pos c17] at h
          exact hj45 _ h
        · rw [if_neg c17] at h
          refine r_iload_n X dX9_compared_43 1 rfl rfl ?_
          exact s_iret X hlk hr dX9_compared_44 h
  refine r_if_eq X 23 dX9_compared_9 (by decide) (fun c23 => ?_) (fun c23 => ?_)
  · rw [if_pos c23] at h
    refine r_iconst X dX9_compared_23 (v := (-1)) (by decide) ?_
    exact hj24 _ _ h
  · rw [if_neg c23] at h
    refine r_aload_n X dX9_compared_12 0 rfl rfl ?_
    refine r_aload_n X dX9_compared_13 0 rfl rfl ?_
    refine r_geti X dX9_compared_14 i_X9 v_X9 lM_0 8 rfl (Nat.le_of_ble_eq_true rfl) g_782 ?_
    obtain ⟨u22, s20, e21, h⟩ := bd2_ok h
    refine kX9_byteAt X (ctX9_byteAt e21) dX9_compared_17 lM_0 g_976 (by omega) (Nat.le_of_ble_eq_true rfl) ?_
    refine r_goto X 24 dX9_compared_20 (by decide) ?_
    exact hj24 _ _ h
def fX9_factor (rec : Nat → List Int32 → St → Option (Int32 × St)) (s0 : St) : Option (Int32 × St) :=
    bd2 (fX9_byteAt (s0 0 8) s0) fun u3 s1 =>
    bd2 (fX9_isDigit u3 s1) fun u6 s4 =>
    if u6 = 0 then
    jn (fun (_ : Unit) =>
    if (s4 0 10) = 5 then
    bd2 (fX9_fails  s4) fun u33 s31 =>
    some (u33, s31)
    else
    bd1 (ptf s4 0 10 ((s4 0 10) + 1)) fun s7 =>
    bd1 (ptf s7 0 8 ((s7 0 8) + 1)) fun s8 =>
    jn (fun (w9 : Int32) (s10 : St) =>
    bd1 (ptf s10 0 10 ((s10 0 10) - 1)) fun s11 =>
    if u3 = 33 then
    if w9 = 0 then
    some (1, s11)
    else
    some (0, s11)
    else
    jn (fun (s12 : St) =>
    bd2 (fX9_fails  s12) fun u15 s13 =>
    some (u15, s13)) fun j148 =>
    if (s11 0 14) = 0 then
    j148 s11
    else
    bd2 (fX9_byteAt (s11 0 8) s11) fun u18 s16 =>
    if u18 = 41 then
    bd1 (ptf s16 0 8 ((s16 0 8) + 1)) fun s19 =>
    some (w9, s19)
    else
    j148 s16) fun j89 =>
    if u3 = 33 then
    bd2 (rec 2 [] s8) fun u29 s27 =>
    j89 u29 s27
    else
    bd2 (rec 5 [] s8) fun u26 s24 =>
    j89 u26 s24) fun j39 =>
    if u3 = 33 then
    j39 ()
    else
    if u3 = 40 then
    j39 ()
    else
    bd2 (fX9_named u3 s4) fun u37 s35 =>
    some (u37, s35)
    else
    bd2 (fX9_number  s4) fun u42 s40 =>
    some (u42, s40)
set_option maxHeartbeats 4000000 in
set_option maxRecDepth 100000 in
theorem ctX9_factor_s {l : Launch} {E : EE} {d : Nat} {rec : Nat → List Int32 → St → Option (Int32 × St)}  {s0 : St} {r9 : Int32} {t9 : St} (hd : 3 ≤ d) (hrec0 : ∀  (s : St) (r : Int32) (t : St), rec 0 [] s = some (r, t) → Ct l E layM yX9_both cX9_both 3 (some .int) d [.ref (ea E 0)] s (some (.int r)) t) (hrec1 : ∀  (s : St) (r : Int32) (t : St), rec 1 [] s = some (r, t) → Ct l E layM yX9_compared cX9_compared 5 (some .int) d [.ref (ea E 0)] s (some (.int r)) t) (hrec2 : ∀  (s : St) (r : Int32) (t : St), rec 2 [] s = some (r, t) → Ct l E layM yX9_factor cX9_factor 3 (some .int) d [.ref (ea E 0)] s (some (.int r)) t) (hrec3 : ∀  (s : St) (r : Int32) (t : St), rec 3 [] s = some (r, t) → Ct l E layM yX9_product cX9_product 4 (some .int) d [.ref (ea E 0)] s (some (.int r)) t) (hrec4 : ∀  (s : St) (r : Int32) (t : St), rec 4 [] s = some (r, t) → Ct l E layM yX9_sum cX9_sum 4 (some .int) d [.ref (ea E 0)] s (some (.int r)) t) (hrec5 : ∀  (s : St) (r : Int32) (t : St), rec 5 [] s = some (r, t) → Ct l E layM yX9_whole cX9_whole 3 (some .int) d [.ref (ea E 0)] s (some (.int r)) t) (h : fX9_factor rec s0 = some (r9, t9)) : Ct l E layM yX9_factor cX9_factor 3 (some .int) (d + 1) [.ref (ea E 0)] s0 (some (.int r9)) t9 := by
  refine Ct.of (by decide) (Nat.le_of_ble_eq_true rfl) ?_
  intro p e ms m below meth c X hlk hr
  have X : Cx E layM p ms m [.ref (ea E 0)].toArray c cX9_factor RX9 3 := X
  refine r_sub (L' := [(0, .ref (ea E 0))]) [0] rfl ?_
  unfold fX9_factor at h
  refine r_aload_n X dX9_factor_0 0 rfl rfl ?_
  refine r_aload_n X dX9_factor_1 0 rfl rfl ?_
  refine r_geti X dX9_factor_2 i_X9 v_X9 lM_0 8 rfl (Nat.le_of_ble_eq_true rfl) g_782 ?_
  obtain ⟨u3, s1, e2, h⟩ := bd2_ok h
  refine kX9_byteAt X (ctX9_byteAt e2) dX9_factor_5 lM_0 g_976 (by omega) (Nat.le_of_ble_eq_true rfl) ?_
  refine r_istore_n (L' := [(0, .ref (ea E 0)), (1, .int u3)]) X dX9_factor_8 [1, 0] rfl rfl (Nat.le_of_ble_eq_true rfl) ?_
  refine r_iload_n X dX9_factor_9 1 rfl rfl ?_
  obtain ⟨u6, s4, e5, h⟩ := bd2_ok h
  refine kX9_isDigit X (ctX9_isDigit e5) dX9_factor_10 g_980 (by omega) (Nat.le_of_ble_eq_true rfl) ?_
  refine r_if_eq X 21 dX9_factor_13 (by decide) (fun c43 => ?_) (fun c43 => ?_)
  · rw [if_pos c43] at h
    refine r_iload_n X dX9_factor_21 1 rfl rfl ?_
    refine r_bipush X dX9_factor_22 (v := 33) (by decide) ?_
    obtain ⟨j39, ej39, h⟩ := jn1_ok h
    have hj39 : ∀ (u : Unit), j39 u = some (r9, t9) → AW E layM p l e (rmD (d + 1)) ms m [.ref (ea E 0)].toArray below meth c 3 0 0 (MQc E layM below [.ref (ea E 0)].toArray ms (some (.int r9)) t9) 39 [(0, .ref (ea E 0)), (1, .int u3)] [] s4 := by
      intro u h
      rw [ej39] at h
      refine r_aload_n X dX9_factor_39 0 rfl rfl ?_
      refine r_geti X dX9_factor_40 i_X9 v_X9 lM_0 10 rfl (Nat.le_of_ble_eq_true rfl) g_784 ?_
      refine r_iconst X dX9_factor_43 (v := 5) (by decide) ?_
      refine r_icmp_ne X 52 dX9_factor_44 (by decide) (fun c34 => ?_) (fun c34 => ?_)
      · rw [if_neg c34] at h
        refine r_aload_n X dX9_factor_52 0 rfl rfl ?_
        refine r_dup X dX9_factor_53 rfl ?_
        refine r_geti X dX9_factor_54 i_X9 v_X9 lM_0 10 rfl (Nat.le_of_ble_eq_true rfl) g_784 ?_
        refine r_iconst X dX9_factor_57 (v := 1) (by decide) ?_
        refine r_iadd X dX9_factor_58 ?_
        obtain ⟨s7, es7, h⟩ := pt_ok h
        refine s_puti X dX9_factor_59 i_X9 tyX9_ok nmX9 v_X9 lM_0 10 rfl (Nat.le_of_ble_eq_true rfl) g_784 rfl rfl ⟨rfl, rfl⟩ es7 ?_
        refine r_aload_n X dX9_factor_62 0 rfl rfl ?_
        refine r_dup X dX9_factor_63 rfl ?_
        refine r_geti X dX9_factor_64 i_X9 v_X9 lM_0 8 rfl (Nat.le_of_ble_eq_true rfl) g_782 ?_
        refine r_iconst X dX9_factor_67 (v := 1) (by decide) ?_
        refine r_iadd X dX9_factor_68 ?_
        obtain ⟨s8, es8, h⟩ := pt_ok h
        refine s_puti X dX9_factor_69 i_X9 tyX9_ok nmX9 v_X9 lM_0 8 rfl (Nat.le_of_ble_eq_true rfl) g_782 rfl rfl ⟨rfl, rfl⟩ es8 ?_
        refine r_iload_n X dX9_factor_72 1 rfl rfl ?_
        refine r_bipush X dX9_factor_73 (v := 33) (by decide) ?_
        obtain ⟨j89, ej89, h⟩ := jn2_ok h
        have hj89 : ∀ (w9 : Int32) (s10 : St), j89 w9 s10 = some (r9, t9) → AW E layM p l e (rmD (d + 1)) ms m [.ref (ea E 0)].toArray below meth c 3 0 0 (MQc E layM below [.ref (ea E 0)].toArray ms (some (.int r9)) t9) 89 [(0, .ref (ea E 0)), (1, .int u3)] [.int w9] s10 := by
          intro w9 s10 h
          rw [ej89] at h
          refine r_istore_n (L' := [(0, .ref (ea E 0)), (1, .int u3), (2, .int w9)]) X dX9_factor_89 [1, 2, 0] rfl rfl (Nat.le_of_ble_eq_true rfl) ?_
          refine r_aload_n X dX9_factor_90 0 rfl rfl ?_
          refine r_dup X dX9_factor_91 rfl ?_
          refine r_geti X dX9_factor_92 i_X9 v_X9 lM_0 10 rfl (Nat.le_of_ble_eq_true rfl) g_784 ?_
          refine r_iconst X dX9_factor_95 (v := 1) (by decide) ?_
          refine r_isub X dX9_factor_96 ?_
          obtain ⟨s11, es11, h⟩ := pt_ok h
          refine s_puti X dX9_factor_97 i_X9 tyX9_ok nmX9 v_X9 lM_0 10 rfl (Nat.le_of_ble_eq_true rfl) g_784 rfl rfl ⟨rfl, rfl⟩ es11 ?_
          refine r_iload_n X dX9_factor_100 1 rfl rfl ?_
          refine r_bipush X dX9_factor_101 (v := 33) (by decide) ?_
          refine r_icmp_ne X 116 dX9_factor_103 (by decide) (fun c23 => ?_) (fun c23 => ?_)
          · rw [if_neg c23] at h
            refine r_aload_n X dX9_factor_116 0 rfl rfl ?_
            refine r_geti X dX9_factor_117 i_X9 v_X9 lM_0 14 rfl (Nat.le_of_ble_eq_true rfl) g_788 ?_
            obtain ⟨j148, ej148, h⟩ := jn1_ok h
            have hj148 : ∀ (s12 : St), j148 s12 = some (r9, t9) → AW E layM p l e (rmD (d + 1)) ms m [.ref (ea E 0)].toArray below meth c 3 0 0 (MQc E layM below [.ref (ea E 0)].toArray ms (some (.int r9)) t9) 148 [(0, .ref (ea E 0))] [] s12 := by
              intro s12 h
              rw [ej148] at h
              refine r_aload_n X dX9_factor_148 0 rfl rfl ?_
              obtain ⟨u15, s13, e14, h⟩ := bd2_ok h
              refine kX9_fails X (ctX9_fails e14) dX9_factor_149 lM_0 g_991 (by omega) (Nat.le_of_ble_eq_true rfl) ?_
              exact s_iret X hlk hr dX9_factor_152 h
            refine r_if_eq X 148 dX9_factor_120 (by decide) (fun c21 => ?_) (fun c21 => ?_)
            · rw [if_pos c21] at h
              refine r_sub (L' := [(0, .ref (ea E 0))]) [0] rfl ?_
              exact hj148 _ h
            · rw [if_neg c21] at h
              refine r_aload_n X dX9_factor_123 0 rfl rfl ?_
              refine r_aload_n X dX9_factor_124 0 rfl rfl ?_
              refine r_geti X dX9_factor_125 i_X9 v_X9 lM_0 8 rfl (Nat.le_of_ble_eq_true rfl) g_782 ?_
              obtain ⟨u18, s16, e17, h⟩ := bd2_ok h
              refine kX9_byteAt X (ctX9_byteAt e17) dX9_factor_128 lM_0 g_976 (by omega) (Nat.le_of_ble_eq_true rfl) ?_
              refine r_bipush X dX9_factor_131 (v := 41) (by decide) ?_
              refine r_icmp_ne X 148 dX9_factor_133 (by decide) (fun c20 => ?_) (fun c20 => ?_)
              · rw [if_neg c20] at h
                refine r_sub (L' := [(0, .ref (ea E 0))]) [0] rfl ?_
                exact hj148 _ h
              · rw [if_pos c20] at h
                refine r_aload_n X dX9_factor_136 0 rfl rfl ?_
                refine r_dup X dX9_factor_137 rfl ?_
                refine r_geti X dX9_factor_138 i_X9 v_X9 lM_0 8 rfl (Nat.le_of_ble_eq_true rfl) g_782 ?_
                refine r_iconst X dX9_factor_141 (v := 1) (by decide) ?_
                refine r_iadd X dX9_factor_142 ?_
                obtain ⟨s19, es19, h⟩ := pt_ok h
                refine s_puti X dX9_factor_143 i_X9 tyX9_ok nmX9 v_X9 lM_0 8 rfl (Nat.le_of_ble_eq_true rfl) g_782 rfl rfl ⟨rfl, rfl⟩ es19 ?_
                refine r_iload_n X dX9_factor_146 2 rfl rfl ?_
                exact s_iret X hlk hr dX9_factor_147 h
          · rw [if_pos c23] at h
            refine r_iload_n X dX9_factor_106 2 rfl rfl ?_
            refine r_if_ne X 114 dX9_factor_107 (by decide) (fun c22 => ?_) (fun c22 => ?_)
            · rw [if_neg c22] at h
              refine r_iconst X dX9_factor_114 (v := 0) (by decide) ?_
              exact s_iret X hlk hr dX9_factor_115 h
            · rw [if_pos c22] at h
              refine r_iconst X dX9_factor_110 (v := 1) (by decide) ?_
              refine r_goto X 115 dX9_factor_111 (by decide) ?_
              exact s_iret X hlk hr dX9_factor_115 h
        refine r_icmp_ne X 85 dX9_factor_75 (by decide) (fun c30 => ?_) (fun c30 => ?_)
        · rw [if_neg c30] at h
          refine r_aload_n X dX9_factor_85 0 rfl rfl ?_
          obtain ⟨u26, s24, e25, h⟩ := bd2_ok h
          refine kX9_whole X (hrec5 _ _ _ e25) dX9_factor_86 lM_0 g_952 (by omega) (Nat.le_of_ble_eq_true rfl) ?_
          exact hj89 _ _ h
        · rw [if_pos c30] at h
          refine r_aload_n X dX9_factor_78 0 rfl rfl ?_
          obtain ⟨u29, s27, e28, h⟩ := bd2_ok h
          refine kX9_factor X (hrec2 _ _ _ e28) dX9_factor_79 lM_0 g_972 (by omega) (Nat.le_of_ble_eq_true rfl) ?_
          refine r_goto X 89 dX9_factor_82 (by decide) ?_
          exact hj89 _ _ h
      · rw [if_pos c34] at h
        refine r_aload_n X dX9_factor_47 0 rfl rfl ?_
        obtain ⟨u33, s31, e32, h⟩ := bd2_ok h
        refine kX9_fails X (ctX9_fails e32) dX9_factor_48 lM_0 g_991 (by omega) (Nat.le_of_ble_eq_true rfl) ?_
        exact s_iret X hlk hr dX9_factor_51 h
    refine r_icmp_eq X 39 dX9_factor_24 (by decide) (fun c39 => ?_) (fun c39 => ?_)
    · rw [if_pos c39] at h
      exact hj39 _ h
    · rw [if_neg c39] at h
      refine r_iload_n X dX9_factor_27 1 rfl rfl ?_
      refine r_bipush X dX9_factor_28 (v := 40) (by decide) ?_
      refine r_icmp_eq X 39 dX9_factor_30 (by decide) (fun c38 => ?_) (fun c38 => ?_)
      · rw [if_pos c38] at h
        exact hj39 _ h
      · rw [if_neg c38] at h
        refine r_aload_n X dX9_factor_33 0 rfl rfl ?_
        refine r_iload_n X dX9_factor_34 1 rfl rfl ?_
        obtain ⟨u37, s35, e36, h⟩ := bd2_ok h
        refine kX9_named X (ctX9_named e36) dX9_factor_35 lM_0 g_987 (by omega) (Nat.le_of_ble_eq_true rfl) ?_
        exact s_iret X hlk hr dX9_factor_38 h
  · rw [if_neg c43] at h
    refine r_aload_n X dX9_factor_16 0 rfl rfl ?_
    obtain ⟨u42, s40, e41, h⟩ := bd2_ok h
    refine kX9_number X (ctX9_number e41) dX9_factor_17 lM_0 g_983 (by omega) (Nat.le_of_ble_eq_true rfl) ?_
    exact s_iret X hlk hr dX9_factor_20 h
def fX9_product_5 (rec : Nat → List Int32 → St → Option (Int32 × St)) : Nat → Int32 → St → Option (Int32 × St)
  | 0, _, _ => none
  | n + 1, a1, s0 =>
    if (s0 0 14) = 0 then
    some (a1, s0)
    else
    bd2 (fX9_byteAt (s0 0 8) s0) fun u6 s4 =>
    jn (fun (s7 : St) =>
    bd2 (fX9_byteAt (s7 0 8) s7) fun u10 s8 =>
    bd1 (ptf s8 0 8 ((s8 0 8) + 1)) fun s11 =>
    bd2 (rec 2 [] s11) fun u14 s12 =>
    jn (fun (w15 : Int32) =>
    fX9_product_5 rec n w15 s12) fun j110 =>
    if u10 = 42 then
    j110 (a1 * u14)
    else
    if u14 = 0 then
    j110 0
    else
    if u10 = 47 then
    gz u14 <| j110 (a1 / u14)
    else
    gz u14 <| j110 (irm a1 u14)) fun j51 =>
    if u6 = 42 then
    j51 s4
    else
    bd2 (fX9_byteAt (s4 0 8) s4) fun u23 s21 =>
    if u23 = 47 then
    j51 s21
    else
    bd2 (fX9_byteAt (s21 0 8) s21) fun u26 s24 =>
    if u26 = 37 then
    j51 s24
    else
    some (a1, s24)
def fX9_product (rec : Nat → List Int32 → St → Option (Int32 × St)) (s0 : St) : Option (Int32 × St) :=
    bd2 (rec 2 [] s0) fun u3 s1 =>
    bd2 (fX9_product_5 rec FU u3 s1) fun v32 s31 =>
    some (v32, s31)
set_option maxHeartbeats 4000000 in
set_option maxRecDepth 100000 in
theorem LX9_product_5 {l : Launch} {E : EE} {p : Program} {e : Env} {ms : State} {m : MethodId} {args : Array Value} {below : List Frame} {meth : Method} {c : Code} {d : Nat} {rec : Nat → List Int32 → St → Option (Int32 × St)}  {Q : State → Prop} (X : Cx E layM p ms m args c cX9_product RX9 4) (hd : 3 ≤ d) (hrec0 : ∀  (s : St) (r : Int32) (t : St), rec 0 [] s = some (r, t) → Ct l E layM yX9_both cX9_both 3 (some .int) d [.ref (ea E 0)] s (some (.int r)) t) (hrec1 : ∀  (s : St) (r : Int32) (t : St), rec 1 [] s = some (r, t) → Ct l E layM yX9_compared cX9_compared 5 (some .int) d [.ref (ea E 0)] s (some (.int r)) t) (hrec2 : ∀  (s : St) (r : Int32) (t : St), rec 2 [] s = some (r, t) → Ct l E layM yX9_factor cX9_factor 3 (some .int) d [.ref (ea E 0)] s (some (.int r)) t) (hrec3 : ∀  (s : St) (r : Int32) (t : St), rec 3 [] s = some (r, t) → Ct l E layM yX9_product cX9_product 4 (some .int) d [.ref (ea E 0)] s (some (.int r)) t) (hrec4 : ∀  (s : St) (r : Int32) (t : St), rec 4 [] s = some (r, t) → Ct l E layM yX9_sum cX9_sum 4 (some .int) d [.ref (ea E 0)] s (some (.int r)) t) (hrec5 : ∀  (s : St) (r : Int32) (t : St), rec 5 [] s = some (r, t) → Ct l E layM yX9_whole cX9_whole 3 (some .int) d [.ref (ea E 0)] s (some (.int r)) t) : ∀ (n : Nat) (a1 : Int32) (s0 : St) (q1 : Int32) (t8 : St), fX9_product_5 rec n a1 s0 = some (q1, t8) → AW E layM p l e (rmD (d + 1)) ms m args below meth c 4 0 0 Q 114 [(1, .int q1)] [] t8 → AW E layM p l e (rmD (d + 1)) ms m args below meth c 4 0 0 Q 5 [(0, .ref (ea E 0)), (1, .int a1)] [] s0 := by
  intro n
  induction n with
  | zero =>
    intro a1 s0 q1 t8 h hE
    cases h
  | succ n ih =>
    intro a1 s0 q1 t8 h hE
    rw [fX9_product_5] at h
    refine r_aload_n X dX9_product_5 0 rfl rfl ?_
    refine r_geti X dX9_product_6 i_X9 v_X9 lM_0 14 rfl (Nat.le_of_ble_eq_true rfl) g_788 ?_
    refine r_if_eq X 114 dX9_product_9 (by decide) (fun c30 => ?_) (fun c30 => ?_)
    · rw [if_pos c30] at h
      refine r_sub (L' := [(1, .int a1)]) [1] rfl ?_
      cases h
      exact hE
    · rw [if_neg c30] at h
      refine r_aload_n X dX9_product_12 0 rfl rfl ?_
      refine r_aload_n X dX9_product_13 0 rfl rfl ?_
      refine r_geti X dX9_product_14 i_X9 v_X9 lM_0 8 rfl (Nat.le_of_ble_eq_true rfl) g_782 ?_
      obtain ⟨u6, s4, e5, h⟩ := bd2_ok h
      refine kX9_byteAt X (ctX9_byteAt e5) dX9_product_17 lM_0 g_976 (by omega) (Nat.le_of_ble_eq_true rfl) ?_
      refine r_bipush X dX9_product_20 (v := 42) (by decide) ?_
      obtain ⟨j51, ej51, h⟩ := jn1_ok h
      have hj51 : ∀ (s7 : St), j51 s7 = some (q1, t8) → AW E layM p l e (rmD (d + 1)) ms m args below meth c 4 0 0 Q 51 [(0, .ref (ea E 0)), (1, .int a1)] [] s7 := by
        intro s7 h
        rw [ej51] at h
        refine r_aload_n X dX9_product_51 0 rfl rfl ?_
        refine r_aload_n X dX9_product_52 0 rfl rfl ?_
        refine r_geti X dX9_product_53 i_X9 v_X9 lM_0 8 rfl (Nat.le_of_ble_eq_true rfl) g_782 ?_
        obtain ⟨u10, s8, e9, h⟩ := bd2_ok h
        refine kX9_byteAt X (ctX9_byteAt e9) dX9_product_56 lM_0 g_976 (by omega) (Nat.le_of_ble_eq_true rfl) ?_
        refine r_istore_n (L' := [(0, .ref (ea E 0)), (1, .int a1), (2, .int u10)]) X dX9_product_59 [1, 2, 0] rfl rfl (Nat.le_of_ble_eq_true rfl) ?_
        refine r_aload_n X dX9_product_60 0 rfl rfl ?_
        refine r_dup X dX9_product_61 rfl ?_
        refine r_geti X dX9_product_62 i_X9 v_X9 lM_0 8 rfl (Nat.le_of_ble_eq_true rfl) g_782 ?_
        refine r_iconst X dX9_product_65 (v := 1) (by decide) ?_
        refine r_iadd X dX9_product_66 ?_
        obtain ⟨s11, es11, h⟩ := pt_ok h
        refine s_puti X dX9_product_67 i_X9 tyX9_ok nmX9 v_X9 lM_0 8 rfl (Nat.le_of_ble_eq_true rfl) g_782 rfl rfl ⟨rfl, rfl⟩ es11 ?_
        refine r_aload_n X dX9_product_70 0 rfl rfl ?_
        obtain ⟨u14, s12, e13, h⟩ := bd2_ok h
        refine kX9_factor X (hrec2 _ _ _ e13) dX9_product_71 lM_0 g_972 (by omega) (Nat.le_of_ble_eq_true rfl) ?_
        refine r_istore_n (L' := [(0, .ref (ea E 0)), (1, .int a1), (2, .int u10), (3, .int u14)]) X dX9_product_74 [1, 2, 3, 0] rfl rfl (Nat.le_of_ble_eq_true rfl) ?_
        refine r_iload_n X dX9_product_75 2 rfl rfl ?_
        refine r_bipush X dX9_product_76 (v := 42) (by decide) ?_
        obtain ⟨j110, ej110, h⟩ := jn1_ok h
        have hj110 : ∀ (w15 : Int32), j110 w15 = some (q1, t8) → AW E layM p l e (rmD (d + 1)) ms m args below meth c 4 0 0 Q 110 [(0, .ref (ea E 0))] [.int w15] s12 := by
          intro w15 h
          rw [ej110] at h
          refine r_istore_n (L' := [(0, .ref (ea E 0)), (1, .int w15)]) X dX9_product_110 [1, 0] rfl rfl (Nat.le_of_ble_eq_true rfl) ?_
          refine r_goto X 5 dX9_product_111 (by decide) ?_
          exact ih _ _ _ _ h hE
        refine r_icmp_ne X 87 dX9_product_78 (by decide) (fun c20 => ?_) (fun c20 => ?_)
        · rw [if_neg c20] at h
          refine r_iload_n X dX9_product_87 3 rfl rfl ?_
          refine r_if_ne X 95 dX9_product_88 (by decide) (fun c19 => ?_) (fun c19 => ?_)
          · rw [if_neg c19] at h
            refine r_iload_n X dX9_product_95 2 rfl rfl ?_
            refine r_bipush X dX9_product_96 (v := 47) (by decide) ?_
            refine r_icmp_ne X 107 dX9_product_98 (by decide) (fun c18 => ?_) (fun c18 => ?_)
            · rw [if_neg c18] at h
              refine r_iload_n X dX9_product_107 1 rfl rfl ?_
              refine r_iload_n X dX9_product_108 3 rfl rfl ?_
              obtain ⟨g16, h⟩ := gz_ok h
              refine s_irem X dX9_product_109 g16 ?_
              refine r_sub (L' := [(0, .ref (ea E 0))]) [0] rfl ?_
              exact hj110 _ h
            · rw [if_pos c18] at h
              refine r_iload_n X dX9_product_101 1 rfl rfl ?_
              refine r_iload_n X dX9_product_102 3 rfl rfl ?_
              obtain ⟨g17, h⟩ := gz_ok h
              refine r_idiv X dX9_product_103 g17 ?_
              refine r_goto X 110 dX9_product_104 (by decide) ?_
              refine r_sub (L' := [(0, .ref (ea E 0))]) [0] rfl ?_
              exact hj110 _ h
          · rw [if_pos c19] at h
            refine r_iconst X dX9_product_91 (v := 0) (by decide) ?_
            refine r_goto X 110 dX9_product_92 (by decide) ?_
            refine r_sub (L' := [(0, .ref (ea E 0))]) [0] rfl ?_
            exact hj110 _ h
        · rw [if_pos c20] at h
          refine r_iload_n X dX9_product_81 1 rfl rfl ?_
          refine r_iload_n X dX9_product_82 3 rfl rfl ?_
          refine r_imul X dX9_product_83 ?_
          refine r_goto X 110 dX9_product_84 (by decide) ?_
          refine r_sub (L' := [(0, .ref (ea E 0))]) [0] rfl ?_
          exact hj110 _ h
      refine r_icmp_eq X 51 dX9_product_22 (by decide) (fun c29 => ?_) (fun c29 => ?_)
      · rw [if_pos c29] at h
        exact hj51 _ h
      · rw [if_neg c29] at h
        refine r_aload_n X dX9_product_25 0 rfl rfl ?_
        refine r_aload_n X dX9_product_26 0 rfl rfl ?_
        refine r_geti X dX9_product_27 i_X9 v_X9 lM_0 8 rfl (Nat.le_of_ble_eq_true rfl) g_782 ?_
        obtain ⟨u23, s21, e22, h⟩ := bd2_ok h
        refine kX9_byteAt X (ctX9_byteAt e22) dX9_product_30 lM_0 g_976 (by omega) (Nat.le_of_ble_eq_true rfl) ?_
        refine r_bipush X dX9_product_33 (v := 47) (by decide) ?_
        refine r_icmp_eq X 51 dX9_product_35 (by decide) (fun c28 => ?_) (fun c28 => ?_)
        · rw [if_pos c28] at h
          exact hj51 _ h
        · rw [if_neg c28] at h
          refine r_aload_n X dX9_product_38 0 rfl rfl ?_
          refine r_aload_n X dX9_product_39 0 rfl rfl ?_
          refine r_geti X dX9_product_40 i_X9 v_X9 lM_0 8 rfl (Nat.le_of_ble_eq_true rfl) g_782 ?_
          obtain ⟨u26, s24, e25, h⟩ := bd2_ok h
          refine kX9_byteAt X (ctX9_byteAt e25) dX9_product_43 lM_0 g_976 (by omega) (Nat.le_of_ble_eq_true rfl) ?_
          refine r_bipush X dX9_product_46 (v := 37) (by decide) ?_
          refine r_icmp_ne X 114 dX9_product_48 (by decide) (fun c27 => ?_) (fun c27 => ?_)
          · rw [if_neg c27] at h
            refine r_sub (L' := [(1, .int a1)]) [1] rfl ?_
            cases h
            exact hE
          · rw [if_pos c27] at h
            exact hj51 _ h
set_option maxHeartbeats 4000000 in
set_option maxRecDepth 100000 in
theorem ctX9_product_s {l : Launch} {E : EE} {d : Nat} {rec : Nat → List Int32 → St → Option (Int32 × St)}  {s0 : St} {r9 : Int32} {t9 : St} (hd : 3 ≤ d) (hrec0 : ∀  (s : St) (r : Int32) (t : St), rec 0 [] s = some (r, t) → Ct l E layM yX9_both cX9_both 3 (some .int) d [.ref (ea E 0)] s (some (.int r)) t) (hrec1 : ∀  (s : St) (r : Int32) (t : St), rec 1 [] s = some (r, t) → Ct l E layM yX9_compared cX9_compared 5 (some .int) d [.ref (ea E 0)] s (some (.int r)) t) (hrec2 : ∀  (s : St) (r : Int32) (t : St), rec 2 [] s = some (r, t) → Ct l E layM yX9_factor cX9_factor 3 (some .int) d [.ref (ea E 0)] s (some (.int r)) t) (hrec3 : ∀  (s : St) (r : Int32) (t : St), rec 3 [] s = some (r, t) → Ct l E layM yX9_product cX9_product 4 (some .int) d [.ref (ea E 0)] s (some (.int r)) t) (hrec4 : ∀  (s : St) (r : Int32) (t : St), rec 4 [] s = some (r, t) → Ct l E layM yX9_sum cX9_sum 4 (some .int) d [.ref (ea E 0)] s (some (.int r)) t) (hrec5 : ∀  (s : St) (r : Int32) (t : St), rec 5 [] s = some (r, t) → Ct l E layM yX9_whole cX9_whole 3 (some .int) d [.ref (ea E 0)] s (some (.int r)) t) (h : fX9_product rec s0 = some (r9, t9)) : Ct l E layM yX9_product cX9_product 4 (some .int) (d + 1) [.ref (ea E 0)] s0 (some (.int r9)) t9 := by
  refine Ct.of (by decide) (Nat.le_of_ble_eq_true rfl) ?_
  intro p e ms m below meth c X hlk hr
  have X : Cx E layM p ms m [.ref (ea E 0)].toArray c cX9_product RX9 4 := X
  refine r_sub (L' := [(0, .ref (ea E 0))]) [0] rfl ?_
  unfold fX9_product at h
  refine r_aload_n X dX9_product_0 0 rfl rfl ?_
  obtain ⟨u3, s1, e2, h⟩ := bd2_ok h
  refine kX9_factor X (hrec2 _ _ _ e2) dX9_product_1 lM_0 g_972 (by omega) (Nat.le_of_ble_eq_true rfl) ?_
  refine r_istore_n (L' := [(0, .ref (ea E 0)), (1, .int u3)]) X dX9_product_4 [1, 0] rfl rfl (Nat.le_of_ble_eq_true rfl) ?_
  obtain ⟨v32, s31, eo, h⟩ := bd2_ok h
  refine LX9_product_5 X hd hrec0 hrec1 hrec2 hrec3 hrec4 hrec5 FU _ _ _ _ eo ?_
  refine r_iload_n X dX9_product_114 0 rfl rfl ?_
  exact s_iret X hlk hr dX9_product_115 h
def fX9_sum_5 (rec : Nat → List Int32 → St → Option (Int32 × St)) : Nat → Int32 → St → Option (Int32 × St)
  | 0, _, _ => none
  | n + 1, a1, s0 =>
    if (s0 0 14) = 0 then
    some (a1, s0)
    else
    bd2 (fX9_byteAt (s0 0 8) s0) fun u6 s4 =>
    jn (fun (s7 : St) =>
    bd2 (fX9_byteAt (s7 0 8) s7) fun u10 s8 =>
    bd1 (ptf s8 0 8 ((s8 0 8) + 1)) fun s11 =>
    bd2 (rec 3 [] s11) fun u14 s12 =>
    jn (fun (w15 : Int32) =>
    fX9_sum_5 rec n w15 s12) fun j77 =>
    if u10 = 43 then
    j77 (a1 + u14)
    else
    j77 (a1 - u14)) fun j38 =>
    if u6 = 43 then
    j38 s4
    else
    bd2 (fX9_byteAt (s4 0 8) s4) fun u19 s17 =>
    if u19 = 45 then
    j38 s17
    else
    some (a1, s17)
def fX9_sum (rec : Nat → List Int32 → St → Option (Int32 × St)) (s0 : St) : Option (Int32 × St) :=
    bd2 (rec 3 [] s0) fun u3 s1 =>
    bd2 (fX9_sum_5 rec FU u3 s1) fun v24 s23 =>
    some (v24, s23)
set_option maxHeartbeats 4000000 in
set_option maxRecDepth 100000 in
theorem LX9_sum_5 {l : Launch} {E : EE} {p : Program} {e : Env} {ms : State} {m : MethodId} {args : Array Value} {below : List Frame} {meth : Method} {c : Code} {d : Nat} {rec : Nat → List Int32 → St → Option (Int32 × St)}  {Q : State → Prop} (X : Cx E layM p ms m args c cX9_sum RX9 4) (hd : 3 ≤ d) (hrec0 : ∀  (s : St) (r : Int32) (t : St), rec 0 [] s = some (r, t) → Ct l E layM yX9_both cX9_both 3 (some .int) d [.ref (ea E 0)] s (some (.int r)) t) (hrec1 : ∀  (s : St) (r : Int32) (t : St), rec 1 [] s = some (r, t) → Ct l E layM yX9_compared cX9_compared 5 (some .int) d [.ref (ea E 0)] s (some (.int r)) t) (hrec2 : ∀  (s : St) (r : Int32) (t : St), rec 2 [] s = some (r, t) → Ct l E layM yX9_factor cX9_factor 3 (some .int) d [.ref (ea E 0)] s (some (.int r)) t) (hrec3 : ∀  (s : St) (r : Int32) (t : St), rec 3 [] s = some (r, t) → Ct l E layM yX9_product cX9_product 4 (some .int) d [.ref (ea E 0)] s (some (.int r)) t) (hrec4 : ∀  (s : St) (r : Int32) (t : St), rec 4 [] s = some (r, t) → Ct l E layM yX9_sum cX9_sum 4 (some .int) d [.ref (ea E 0)] s (some (.int r)) t) (hrec5 : ∀  (s : St) (r : Int32) (t : St), rec 5 [] s = some (r, t) → Ct l E layM yX9_whole cX9_whole 3 (some .int) d [.ref (ea E 0)] s (some (.int r)) t) : ∀ (n : Nat) (a1 : Int32) (s0 : St) (q1 : Int32) (t8 : St), fX9_sum_5 rec n a1 s0 = some (q1, t8) → AW E layM p l e (rmD (d + 1)) ms m args below meth c 4 0 0 Q 81 [(1, .int q1)] [] t8 → AW E layM p l e (rmD (d + 1)) ms m args below meth c 4 0 0 Q 5 [(0, .ref (ea E 0)), (1, .int a1)] [] s0 := by
  intro n
  induction n with
  | zero =>
    intro a1 s0 q1 t8 h hE
    cases h
  | succ n ih =>
    intro a1 s0 q1 t8 h hE
    rw [fX9_sum_5] at h
    refine r_aload_n X dX9_sum_5 0 rfl rfl ?_
    refine r_geti X dX9_sum_6 i_X9 v_X9 lM_0 14 rfl (Nat.le_of_ble_eq_true rfl) g_788 ?_
    refine r_if_eq X 81 dX9_sum_9 (by decide) (fun c22 => ?_) (fun c22 => ?_)
    · rw [if_pos c22] at h
      refine r_sub (L' := [(1, .int a1)]) [1] rfl ?_
      cases h
      exact hE
    · rw [if_neg c22] at h
      refine r_aload_n X dX9_sum_12 0 rfl rfl ?_
      refine r_aload_n X dX9_sum_13 0 rfl rfl ?_
      refine r_geti X dX9_sum_14 i_X9 v_X9 lM_0 8 rfl (Nat.le_of_ble_eq_true rfl) g_782 ?_
      obtain ⟨u6, s4, e5, h⟩ := bd2_ok h
      refine kX9_byteAt X (ctX9_byteAt e5) dX9_sum_17 lM_0 g_976 (by omega) (Nat.le_of_ble_eq_true rfl) ?_
      refine r_bipush X dX9_sum_20 (v := 43) (by decide) ?_
      obtain ⟨j38, ej38, h⟩ := jn1_ok h
      have hj38 : ∀ (s7 : St), j38 s7 = some (q1, t8) → AW E layM p l e (rmD (d + 1)) ms m args below meth c 4 0 0 Q 38 [(0, .ref (ea E 0)), (1, .int a1)] [] s7 := by
        intro s7 h
        rw [ej38] at h
        refine r_aload_n X dX9_sum_38 0 rfl rfl ?_
        refine r_aload_n X dX9_sum_39 0 rfl rfl ?_
        refine r_geti X dX9_sum_40 i_X9 v_X9 lM_0 8 rfl (Nat.le_of_ble_eq_true rfl) g_782 ?_
        obtain ⟨u10, s8, e9, h⟩ := bd2_ok h
        refine kX9_byteAt X (ctX9_byteAt e9) dX9_sum_43 lM_0 g_976 (by omega) (Nat.le_of_ble_eq_true rfl) ?_
        refine r_istore_n (L' := [(0, .ref (ea E 0)), (1, .int a1), (2, .int u10)]) X dX9_sum_46 [1, 2, 0] rfl rfl (Nat.le_of_ble_eq_true rfl) ?_
        refine r_aload_n X dX9_sum_47 0 rfl rfl ?_
        refine r_dup X dX9_sum_48 rfl ?_
        refine r_geti X dX9_sum_49 i_X9 v_X9 lM_0 8 rfl (Nat.le_of_ble_eq_true rfl) g_782 ?_
        refine r_iconst X dX9_sum_52 (v := 1) (by decide) ?_
        refine r_iadd X dX9_sum_53 ?_
        obtain ⟨s11, es11, h⟩ := pt_ok h
        refine s_puti X dX9_sum_54 i_X9 tyX9_ok nmX9 v_X9 lM_0 8 rfl (Nat.le_of_ble_eq_true rfl) g_782 rfl rfl ⟨rfl, rfl⟩ es11 ?_
        refine r_aload_n X dX9_sum_57 0 rfl rfl ?_
        obtain ⟨u14, s12, e13, h⟩ := bd2_ok h
        refine kX9_product X (hrec3 _ _ _ e13) dX9_sum_58 lM_0 g_968 (by omega) (Nat.le_of_ble_eq_true rfl) ?_
        refine r_istore_n (L' := [(0, .ref (ea E 0)), (1, .int a1), (2, .int u10), (3, .int u14)]) X dX9_sum_61 [1, 2, 3, 0] rfl rfl (Nat.le_of_ble_eq_true rfl) ?_
        refine r_iload_n X dX9_sum_62 2 rfl rfl ?_
        refine r_bipush X dX9_sum_63 (v := 43) (by decide) ?_
        obtain ⟨j77, ej77, h⟩ := jn1_ok h
        have hj77 : ∀ (w15 : Int32), j77 w15 = some (q1, t8) → AW E layM p l e (rmD (d + 1)) ms m args below meth c 4 0 0 Q 77 [(0, .ref (ea E 0))] [.int w15] s12 := by
          intro w15 h
          rw [ej77] at h
          refine r_istore_n (L' := [(0, .ref (ea E 0)), (1, .int w15)]) X dX9_sum_77 [1, 0] rfl rfl (Nat.le_of_ble_eq_true rfl) ?_
          refine r_goto X 5 dX9_sum_78 (by decide) ?_
          exact ih _ _ _ _ h hE
        refine r_icmp_ne X 74 dX9_sum_65 (by decide) (fun c16 => ?_) (fun c16 => ?_)
        · rw [if_neg c16] at h
          refine r_iload_n X dX9_sum_74 1 rfl rfl ?_
          refine r_iload_n X dX9_sum_75 3 rfl rfl ?_
          refine r_isub X dX9_sum_76 ?_
          refine r_sub (L' := [(0, .ref (ea E 0))]) [0] rfl ?_
          exact hj77 _ h
        · rw [if_pos c16] at h
          refine r_iload_n X dX9_sum_68 1 rfl rfl ?_
          refine r_iload_n X dX9_sum_69 3 rfl rfl ?_
          refine r_iadd X dX9_sum_70 ?_
          refine r_goto X 77 dX9_sum_71 (by decide) ?_
          refine r_sub (L' := [(0, .ref (ea E 0))]) [0] rfl ?_
          exact hj77 _ h
      refine r_icmp_eq X 38 dX9_sum_22 (by decide) (fun c21 => ?_) (fun c21 => ?_)
      · rw [if_pos c21] at h
        exact hj38 _ h
      · rw [if_neg c21] at h
        refine r_aload_n X dX9_sum_25 0 rfl rfl ?_
        refine r_aload_n X dX9_sum_26 0 rfl rfl ?_
        refine r_geti X dX9_sum_27 i_X9 v_X9 lM_0 8 rfl (Nat.le_of_ble_eq_true rfl) g_782 ?_
        obtain ⟨u19, s17, e18, h⟩ := bd2_ok h
        refine kX9_byteAt X (ctX9_byteAt e18) dX9_sum_30 lM_0 g_976 (by omega) (Nat.le_of_ble_eq_true rfl) ?_
        refine r_bipush X dX9_sum_33 (v := 45) (by decide) ?_
        refine r_icmp_ne X 81 dX9_sum_35 (by decide) (fun c20 => ?_) (fun c20 => ?_)
        · rw [if_neg c20] at h
          refine r_sub (L' := [(1, .int a1)]) [1] rfl ?_
          cases h
          exact hE
        · rw [if_pos c20] at h
          exact hj38 _ h
set_option maxHeartbeats 4000000 in
set_option maxRecDepth 100000 in
theorem ctX9_sum_s {l : Launch} {E : EE} {d : Nat} {rec : Nat → List Int32 → St → Option (Int32 × St)}  {s0 : St} {r9 : Int32} {t9 : St} (hd : 3 ≤ d) (hrec0 : ∀  (s : St) (r : Int32) (t : St), rec 0 [] s = some (r, t) → Ct l E layM yX9_both cX9_both 3 (some .int) d [.ref (ea E 0)] s (some (.int r)) t) (hrec1 : ∀  (s : St) (r : Int32) (t : St), rec 1 [] s = some (r, t) → Ct l E layM yX9_compared cX9_compared 5 (some .int) d [.ref (ea E 0)] s (some (.int r)) t) (hrec2 : ∀  (s : St) (r : Int32) (t : St), rec 2 [] s = some (r, t) → Ct l E layM yX9_factor cX9_factor 3 (some .int) d [.ref (ea E 0)] s (some (.int r)) t) (hrec3 : ∀  (s : St) (r : Int32) (t : St), rec 3 [] s = some (r, t) → Ct l E layM yX9_product cX9_product 4 (some .int) d [.ref (ea E 0)] s (some (.int r)) t) (hrec4 : ∀  (s : St) (r : Int32) (t : St), rec 4 [] s = some (r, t) → Ct l E layM yX9_sum cX9_sum 4 (some .int) d [.ref (ea E 0)] s (some (.int r)) t) (hrec5 : ∀  (s : St) (r : Int32) (t : St), rec 5 [] s = some (r, t) → Ct l E layM yX9_whole cX9_whole 3 (some .int) d [.ref (ea E 0)] s (some (.int r)) t) (h : fX9_sum rec s0 = some (r9, t9)) : Ct l E layM yX9_sum cX9_sum 4 (some .int) (d + 1) [.ref (ea E 0)] s0 (some (.int r9)) t9 := by
  refine Ct.of (by decide) (Nat.le_of_ble_eq_true rfl) ?_
  intro p e ms m below meth c X hlk hr
  have X : Cx E layM p ms m [.ref (ea E 0)].toArray c cX9_sum RX9 4 := X
  refine r_sub (L' := [(0, .ref (ea E 0))]) [0] rfl ?_
  unfold fX9_sum at h
  refine r_aload_n X dX9_sum_0 0 rfl rfl ?_
  obtain ⟨u3, s1, e2, h⟩ := bd2_ok h
  refine kX9_product X (hrec3 _ _ _ e2) dX9_sum_1 lM_0 g_968 (by omega) (Nat.le_of_ble_eq_true rfl) ?_
  refine r_istore_n (L' := [(0, .ref (ea E 0)), (1, .int u3)]) X dX9_sum_4 [1, 0] rfl rfl (Nat.le_of_ble_eq_true rfl) ?_
  obtain ⟨v24, s23, eo, h⟩ := bd2_ok h
  refine LX9_sum_5 X hd hrec0 hrec1 hrec2 hrec3 hrec4 hrec5 FU _ _ _ _ eo ?_
  refine r_iload_n X dX9_sum_81 0 rfl rfl ?_
  exact s_iret X hlk hr dX9_sum_82 h
def fX9_whole_5 (rec : Nat → List Int32 → St → Option (Int32 × St)) : Nat → Int32 → St → Option (Int32 × St)
  | 0, _, _ => none
  | n + 1, a1, s0 =>
    if (s0 0 14) = 0 then
    some (a1, s0)
    else
    bd2 (fX9_byteAt (s0 0 8) s0) fun u6 s4 =>
    if u6 = 124 then
    bd1 (ptf s4 0 8 ((s4 0 8) + 1)) fun s7 =>
    bd2 (rec 0 [] s7) fun u10 s8 =>
    jn (fun (w11 : Int32) =>
    fX9_whole_5 rec n w11 s8) fun j53 =>
    jn (fun (_ : Unit) =>
    j53 1) fun j48 =>
    if a1 = 0 then
    if u10 = 0 then
    j53 0
    else
    j48 ()
    else
    j48 ()
    else
    some (a1, s4)
def fX9_whole (rec : Nat → List Int32 → St → Option (Int32 × St)) (s0 : St) : Option (Int32 × St) :=
    bd2 (rec 0 [] s0) fun u3 s1 =>
    bd2 (fX9_whole_5 rec FU u3 s1) fun v17 s16 =>
    some (v17, s16)
set_option maxHeartbeats 4000000 in
set_option maxRecDepth 100000 in
theorem LX9_whole_5 {l : Launch} {E : EE} {p : Program} {e : Env} {ms : State} {m : MethodId} {args : Array Value} {below : List Frame} {meth : Method} {c : Code} {d : Nat} {rec : Nat → List Int32 → St → Option (Int32 × St)}  {Q : State → Prop} (X : Cx E layM p ms m args c cX9_whole RX9 3) (hd : 3 ≤ d) (hrec0 : ∀  (s : St) (r : Int32) (t : St), rec 0 [] s = some (r, t) → Ct l E layM yX9_both cX9_both 3 (some .int) d [.ref (ea E 0)] s (some (.int r)) t) (hrec1 : ∀  (s : St) (r : Int32) (t : St), rec 1 [] s = some (r, t) → Ct l E layM yX9_compared cX9_compared 5 (some .int) d [.ref (ea E 0)] s (some (.int r)) t) (hrec2 : ∀  (s : St) (r : Int32) (t : St), rec 2 [] s = some (r, t) → Ct l E layM yX9_factor cX9_factor 3 (some .int) d [.ref (ea E 0)] s (some (.int r)) t) (hrec3 : ∀  (s : St) (r : Int32) (t : St), rec 3 [] s = some (r, t) → Ct l E layM yX9_product cX9_product 4 (some .int) d [.ref (ea E 0)] s (some (.int r)) t) (hrec4 : ∀  (s : St) (r : Int32) (t : St), rec 4 [] s = some (r, t) → Ct l E layM yX9_sum cX9_sum 4 (some .int) d [.ref (ea E 0)] s (some (.int r)) t) (hrec5 : ∀  (s : St) (r : Int32) (t : St), rec 5 [] s = some (r, t) → Ct l E layM yX9_whole cX9_whole 3 (some .int) d [.ref (ea E 0)] s (some (.int r)) t) : ∀ (n : Nat) (a1 : Int32) (s0 : St) (q1 : Int32) (t8 : St), fX9_whole_5 rec n a1 s0 = some (q1, t8) → AW E layM p l e (rmD (d + 1)) ms m args below meth c 3 0 0 Q 57 [(1, .int q1)] [] t8 → AW E layM p l e (rmD (d + 1)) ms m args below meth c 3 0 0 Q 5 [(0, .ref (ea E 0)), (1, .int a1)] [] s0 := by
  intro n
  induction n with
  | zero =>
    intro a1 s0 q1 t8 h hE
    cases h
  | succ n ih =>
    intro a1 s0 q1 t8 h hE
    rw [fX9_whole_5] at h
    refine r_aload_n X dX9_whole_5 0 rfl rfl ?_
    refine r_geti X dX9_whole_6 i_X9 v_X9 lM_0 14 rfl (Nat.le_of_ble_eq_true rfl) g_788 ?_
    refine r_if_eq X 57 dX9_whole_9 (by decide) (fun c15 => ?_) (fun c15 => ?_)
    · rw [if_pos c15] at h
      refine r_sub (L' := [(1, .int a1)]) [1] rfl ?_
      cases h
      exact hE
    · rw [if_neg c15] at h
      refine r_aload_n X dX9_whole_12 0 rfl rfl ?_
      refine r_aload_n X dX9_whole_13 0 rfl rfl ?_
      refine r_geti X dX9_whole_14 i_X9 v_X9 lM_0 8 rfl (Nat.le_of_ble_eq_true rfl) g_782 ?_
      obtain ⟨u6, s4, e5, h⟩ := bd2_ok h
      refine kX9_byteAt X (ctX9_byteAt e5) dX9_whole_17 lM_0 g_976 (by omega) (Nat.le_of_ble_eq_true rfl) ?_
      refine r_bipush X dX9_whole_20 (v := 124) (by decide) ?_
      refine r_icmp_ne X 57 dX9_whole_22 (by decide) (fun c14 => ?_) (fun c14 => ?_)
      · rw [if_neg c14] at h
        refine r_sub (L' := [(1, .int a1)]) [1] rfl ?_
        cases h
        exact hE
      · rw [if_pos c14] at h
        refine r_aload_n X dX9_whole_25 0 rfl rfl ?_
        refine r_dup X dX9_whole_26 rfl ?_
        refine r_geti X dX9_whole_27 i_X9 v_X9 lM_0 8 rfl (Nat.le_of_ble_eq_true rfl) g_782 ?_
        refine r_iconst X dX9_whole_30 (v := 1) (by decide) ?_
        refine r_iadd X dX9_whole_31 ?_
        obtain ⟨s7, es7, h⟩ := pt_ok h
        refine s_puti X dX9_whole_32 i_X9 tyX9_ok nmX9 v_X9 lM_0 8 rfl (Nat.le_of_ble_eq_true rfl) g_782 rfl rfl ⟨rfl, rfl⟩ es7 ?_
        refine r_aload_n X dX9_whole_35 0 rfl rfl ?_
        obtain ⟨u10, s8, e9, h⟩ := bd2_ok h
        refine kX9_both X (hrec0 _ _ _ e9) dX9_whole_36 lM_0 g_956 (by omega) (Nat.le_of_ble_eq_true rfl) ?_
        refine r_istore_n (L' := [(0, .ref (ea E 0)), (1, .int a1), (2, .int u10)]) X dX9_whole_39 [1, 2, 0] rfl rfl (Nat.le_of_ble_eq_true rfl) ?_
        refine r_iload_n X dX9_whole_40 1 rfl rfl ?_
        obtain ⟨j53, ej53, h⟩ := jn1_ok h
        have hj53 : ∀ (w11 : Int32), j53 w11 = some (q1, t8) → AW E layM p l e (rmD (d + 1)) ms m args below meth c 3 0 0 Q 53 [(0, .ref (ea E 0))] [.int w11] s8 := by
          intro w11 h
          rw [ej53] at h
          refine r_istore_n (L' := [(0, .ref (ea E 0)), (1, .int w11)]) X dX9_whole_53 [1, 0] rfl rfl (Nat.le_of_ble_eq_true rfl) ?_
          refine r_goto X 5 dX9_whole_54 (by decide) ?_
          exact ih _ _ _ _ h hE
        obtain ⟨j48, ej48, h⟩ := jn1_ok h
        have hj48 : ∀ (u : Unit), j48 u = some (q1, t8) → AW E layM p l e (rmD (d + 1)) ms m args below meth c 3 0 0 Q 48 [(0, .ref (ea E 0))] [] s8 := by
          intro u h
          rw [ej48] at h
          refine r_iconst X dX9_whole_48 (v := 1) (by decide) ?_
          refine r_goto X 53 dX9_whole_49 (by decide) ?_
          exact hj53 _ h
        refine r_if_ne X 48 dX9_whole_41 (by decide) (fun c13 => ?_) (fun c13 => ?_)
        · rw [if_neg c13] at h
          refine r_sub (L' := [(0, .ref (ea E 0))]) [0] rfl ?_
          exact hj48 _ h
        · rw [if_pos c13] at h
          refine r_iload_n X dX9_whole_44 2 rfl rfl ?_
          refine r_if_eq X 52 dX9_whole_45 (by decide) (fun c12 => ?_) (fun c12 => ?_)
          · rw [if_pos c12] at h
            refine r_iconst X dX9_whole_52 (v := 0) (by decide) ?_
            refine r_sub (L' := [(0, .ref (ea E 0))]) [0] rfl ?_
            exact hj53 _ h
          · rw [if_neg c12] at h
            refine r_sub (L' := [(0, .ref (ea E 0))]) [0] rfl ?_
            exact hj48 _ h
set_option maxHeartbeats 4000000 in
set_option maxRecDepth 100000 in
theorem ctX9_whole_s {l : Launch} {E : EE} {d : Nat} {rec : Nat → List Int32 → St → Option (Int32 × St)}  {s0 : St} {r9 : Int32} {t9 : St} (hd : 3 ≤ d) (hrec0 : ∀  (s : St) (r : Int32) (t : St), rec 0 [] s = some (r, t) → Ct l E layM yX9_both cX9_both 3 (some .int) d [.ref (ea E 0)] s (some (.int r)) t) (hrec1 : ∀  (s : St) (r : Int32) (t : St), rec 1 [] s = some (r, t) → Ct l E layM yX9_compared cX9_compared 5 (some .int) d [.ref (ea E 0)] s (some (.int r)) t) (hrec2 : ∀  (s : St) (r : Int32) (t : St), rec 2 [] s = some (r, t) → Ct l E layM yX9_factor cX9_factor 3 (some .int) d [.ref (ea E 0)] s (some (.int r)) t) (hrec3 : ∀  (s : St) (r : Int32) (t : St), rec 3 [] s = some (r, t) → Ct l E layM yX9_product cX9_product 4 (some .int) d [.ref (ea E 0)] s (some (.int r)) t) (hrec4 : ∀  (s : St) (r : Int32) (t : St), rec 4 [] s = some (r, t) → Ct l E layM yX9_sum cX9_sum 4 (some .int) d [.ref (ea E 0)] s (some (.int r)) t) (hrec5 : ∀  (s : St) (r : Int32) (t : St), rec 5 [] s = some (r, t) → Ct l E layM yX9_whole cX9_whole 3 (some .int) d [.ref (ea E 0)] s (some (.int r)) t) (h : fX9_whole rec s0 = some (r9, t9)) : Ct l E layM yX9_whole cX9_whole 3 (some .int) (d + 1) [.ref (ea E 0)] s0 (some (.int r9)) t9 := by
  refine Ct.of (by decide) (Nat.le_of_ble_eq_true rfl) ?_
  intro p e ms m below meth c X hlk hr
  have X : Cx E layM p ms m [.ref (ea E 0)].toArray c cX9_whole RX9 3 := X
  refine r_sub (L' := [(0, .ref (ea E 0))]) [0] rfl ?_
  unfold fX9_whole at h
  refine r_aload_n X dX9_whole_0 0 rfl rfl ?_
  obtain ⟨u3, s1, e2, h⟩ := bd2_ok h
  refine kX9_both X (hrec0 _ _ _ e2) dX9_whole_1 lM_0 g_956 (by omega) (Nat.le_of_ble_eq_true rfl) ?_
  refine r_istore_n (L' := [(0, .ref (ea E 0)), (1, .int u3)]) X dX9_whole_4 [1, 0] rfl rfl (Nat.le_of_ble_eq_true rfl) ?_
  obtain ⟨v17, s16, eo, h⟩ := bd2_ok h
  refine LX9_whole_5 X hd hrec0 hrec1 hrec2 hrec3 hrec4 hrec5 FU _ _ _ _ eo ?_
  refine r_iload_n X dX9_whole_57 0 rfl rfl ?_
  exact s_iret X hlk hr dX9_whole_58 h
def grp_X9_both : Nat → Nat → List Int32 → St → Option (Int32 × St)
  | 0, _, _, _ => none
  | n + 1, 0, [], s => fX9_both (grp_X9_both n)  s
  | n + 1, 1, [], s => fX9_compared (grp_X9_both n)  s
  | n + 1, 2, [], s => fX9_factor (grp_X9_both n)  s
  | n + 1, 3, [], s => fX9_product (grp_X9_both n)  s
  | n + 1, 4, [], s => fX9_sum (grp_X9_both n)  s
  | n + 1, 5, [], s => fX9_whole (grp_X9_both n)  s
  | _ + 1, _, _, _ => none
set_option maxHeartbeats 4000000 in
set_option maxRecDepth 100000 in
theorem grp_X9_both_ok (l : Launch) (E : EE) : ∀ n : Nat, (∀  (s : St) (r : Int32) (t : St), grp_X9_both n 0 [] s = some (r, t) → Ct l E layM yX9_both cX9_both 3 (some .int) (n + 3) [.ref (ea E 0)] s (some (.int r)) t) ∧ (∀  (s : St) (r : Int32) (t : St), grp_X9_both n 1 [] s = some (r, t) → Ct l E layM yX9_compared cX9_compared 5 (some .int) (n + 3) [.ref (ea E 0)] s (some (.int r)) t) ∧ (∀  (s : St) (r : Int32) (t : St), grp_X9_both n 2 [] s = some (r, t) → Ct l E layM yX9_factor cX9_factor 3 (some .int) (n + 3) [.ref (ea E 0)] s (some (.int r)) t) ∧ (∀  (s : St) (r : Int32) (t : St), grp_X9_both n 3 [] s = some (r, t) → Ct l E layM yX9_product cX9_product 4 (some .int) (n + 3) [.ref (ea E 0)] s (some (.int r)) t) ∧ (∀  (s : St) (r : Int32) (t : St), grp_X9_both n 4 [] s = some (r, t) → Ct l E layM yX9_sum cX9_sum 4 (some .int) (n + 3) [.ref (ea E 0)] s (some (.int r)) t) ∧ (∀  (s : St) (r : Int32) (t : St), grp_X9_both n 5 [] s = some (r, t) → Ct l E layM yX9_whole cX9_whole 3 (some .int) (n + 3) [.ref (ea E 0)] s (some (.int r)) t) := by
  intro n
  induction n with
  | zero =>
    refine ⟨(fun _ _ _ h => by cases h), (fun _ _ _ h => by cases h), (fun _ _ _ h => by cases h), (fun _ _ _ h => by cases h), (fun _ _ _ h => by cases h), (fun _ _ _ h => by cases h)⟩
  | succ n ih =>
    obtain ⟨h0, h1, h2, h3, h4, h5⟩ := ih
    refine ⟨?_, ?_, ?_, ?_, ?_, ?_⟩
    · intro  s r t h
      rw [show n + 1 + 3 = n + 3 + 1 by omega]
      exact ctX9_both_s (Nat.le_add_left _ _) h0 h1 h2 h3 h4 h5 h
    · intro  s r t h
      rw [show n + 1 + 3 = n + 3 + 1 by omega]
      exact ctX9_compared_s (Nat.le_add_left _ _) h0 h1 h2 h3 h4 h5 h
    · intro  s r t h
      rw [show n + 1 + 3 = n + 3 + 1 by omega]
      exact ctX9_factor_s (Nat.le_add_left _ _) h0 h1 h2 h3 h4 h5 h
    · intro  s r t h
      rw [show n + 1 + 3 = n + 3 + 1 by omega]
      exact ctX9_product_s (Nat.le_add_left _ _) h0 h1 h2 h3 h4 h5 h
    · intro  s r t h
      rw [show n + 1 + 3 = n + 3 + 1 by omega]
      exact ctX9_sum_s (Nat.le_add_left _ _) h0 h1 h2 h3 h4 h5 h
    · intro  s r t h
      rw [show n + 1 + 3 = n + 3 + 1 by omega]
      exact ctX9_whole_s (Nat.le_add_left _ _) h0 h1 h2 h3 h4 h5 h
theorem ctX9_both {l : Launch} {E : EE}  {s t : St} {r : Int32} (h : grp_X9_both RF 0 [] s = some (r, t)) : Ct l E layM yX9_both cX9_both 3 (some .int) 103 [.ref (ea E 0)] s (some (.int r)) t := (grp_X9_both_ok l E RF).1 _ _ _ h
theorem ctX9_compared {l : Launch} {E : EE}  {s t : St} {r : Int32} (h : grp_X9_both RF 1 [] s = some (r, t)) : Ct l E layM yX9_compared cX9_compared 5 (some .int) 103 [.ref (ea E 0)] s (some (.int r)) t := (grp_X9_both_ok l E RF).2.1 _ _ _ h
theorem ctX9_factor {l : Launch} {E : EE}  {s t : St} {r : Int32} (h : grp_X9_both RF 2 [] s = some (r, t)) : Ct l E layM yX9_factor cX9_factor 3 (some .int) 103 [.ref (ea E 0)] s (some (.int r)) t := (grp_X9_both_ok l E RF).2.2.1 _ _ _ h
theorem ctX9_product {l : Launch} {E : EE}  {s t : St} {r : Int32} (h : grp_X9_both RF 3 [] s = some (r, t)) : Ct l E layM yX9_product cX9_product 4 (some .int) 103 [.ref (ea E 0)] s (some (.int r)) t := (grp_X9_both_ok l E RF).2.2.2.1 _ _ _ h
theorem ctX9_sum {l : Launch} {E : EE}  {s t : St} {r : Int32} (h : grp_X9_both RF 4 [] s = some (r, t)) : Ct l E layM yX9_sum cX9_sum 4 (some .int) 103 [.ref (ea E 0)] s (some (.int r)) t := (grp_X9_both_ok l E RF).2.2.2.2.1 _ _ _ h
theorem ctX9_whole {l : Launch} {E : EE}  {s t : St} {r : Int32} (h : grp_X9_both RF 5 [] s = some (r, t)) : Ct l E layM yX9_whole cX9_whole 3 (some .int) 103 [.ref (ea E 0)] s (some (.int r)) t := (grp_X9_both_ok l E RF).2.2.2.2.2 _ _ _ h
/-! X9_walks -/
theorem nX9_walks : yX9_walks.cls ≠ "java/lang/invoke/MethodHandle" ∧ yX9_walks.cls ≠ "java/lang/invoke/VarHandle" ∧ (parseMethodDescriptor yX9_walks.desc).map (fun d => d.parameters.length) = some 4 := by decide +kernel
theorem kX9_walks {l : Launch} {E : EE} {p : Program} {e : Env} {ms : State} {m : MethodId} {args : Array Value} {below : List Frame} {meth : Method} {c : Code} {cc : ByteArray} {own : String} {nL pc idx d D : Nat} {Q : State → Prop} {L : List (Nat × Value)} {rest : List Value} {σ τ : St} {a1 : Int32} {a2 : Int32} {a3 : Int32} {a4 : Int32} {r : Int32} {fl : List (Option Nat)} (X : Cx E layM p ms m args c cc own nL) (hM : Ct l E layM yX9_walks cX9_walks 6 (some .int) d [.ref (ea E 0), .int a1, .int a2, .int a3, .int a4] σ (some (.int r)) τ) (hd : decode cc pc = .ok (.invokevirtual idx, 3)) (hlay : layM[0]? = some (.inl (8, fl))) (w1 : Cond.methodLink own idx yX9_walks ∈ gw) (hR : d + 1 ≤ D) (hrs : (rest.map fun v => v.category).sum ≤ 8) (k : AW E layM p l e (rmD D) ms m args below meth c nL 0 0 Q (pc + 3) L (.int r :: rest) τ) : AW E layM p l e (rmD D) ms m args below meth c nL 0 0 Q pc L (.int a4 :: .int a3 :: .int a2 :: .int a1 :: .ref (ea E 0) :: rest) σ :=
  s_callV X [.int a1, .int a2, .int a3, .int a4] rest hM hd v_X9 hlay w1 g_950 g_34 g_77 g_951 nX9_walks rfl rfl hrs (Nat.le_of_ble_eq_true rfl) hR k
def fX9_walks (a1 : Int32) (a2 : Int32) (a3 : Int32) (a4 : Int32) (s0 : St) : Option (Int32 × St) :=
    bd1 (ptf s0 0 7 a1) fun s1 =>
    bd1 (ptf s1 0 8 0) fun s2 =>
    bd1 (ald s2 1 257 (7 + a1)) fun v4 =>
    bd1 (ptf s2 0 9 v4) fun s5 =>
    bd1 (ptf s5 0 10 0) fun s6 =>
    bd1 (ptf s6 0 14 1) fun s7 =>
    bd1 (ptf s7 0 11 a2) fun s8 =>
    bd1 (ptf s8 0 12 a3) fun s9 =>
    bd1 (ptf s9 0 13 a4) fun s10 =>
    bd2 (grp_X9_both RF 5 [] s10) fun u13 s11 =>
    jn (fun (_ : Unit) =>
    bd1 (ptf s11 0 14 0) fun s14 =>
    some (u13, s14)) fun j78 =>
    if (s11 0 14) = 0 then
    j78 ()
    else
    if (s11 0 8) = (s11 0 9) then
    bd1 (ptf s11 0 14 1) fun s15 =>
    some (u13, s15)
    else
    j78 ()
set_option maxHeartbeats 4000000 in
set_option maxRecDepth 100000 in
theorem ctX9_walks {l : Launch} {E : EE} {a1 : Int32} {a2 : Int32} {a3 : Int32} {a4 : Int32} {s0 : St} {r9 : Int32} {t9 : St}  (h : fX9_walks a1 a2 a3 a4 s0 = some (r9, t9)) : Ct l E layM yX9_walks cX9_walks 6 (some .int) 104 [.ref (ea E 0), .int a1, .int a2, .int a3, .int a4] s0 (some (.int r9)) t9 := by
  refine Ct.of (by decide) (Nat.le_of_ble_eq_true rfl) ?_
  intro p e ms m below meth c X hlk hr
  have X : Cx E layM p ms m [.ref (ea E 0), .int a1, .int a2, .int a3, .int a4].toArray c cX9_walks RX9 6 := X
  refine r_sub (L' := [(0, .ref (ea E 0)), (1, .int a1), (2, .int a2), (3, .int a3), (4, .int a4)]) [0, 1, 2, 3, 4] rfl ?_
  unfold fX9_walks at h
  refine r_aload_n X dX9_walks_0 0 rfl rfl ?_
  refine r_iload_n X dX9_walks_1 1 rfl rfl ?_
  obtain ⟨s1, es1, h⟩ := pt_ok h
  refine s_puti X dX9_walks_2 i_X9 tyX9_ok nmX9 v_X9 lM_0 7 rfl (Nat.le_of_ble_eq_true rfl) g_781 rfl rfl ⟨rfl, rfl⟩ es1 ?_
  refine r_aload_n X dX9_walks_5 0 rfl rfl ?_
  refine r_iconst X dX9_walks_6 (v := 0) (by decide) ?_
  obtain ⟨s2, es2, h⟩ := pt_ok h
  refine s_puti X dX9_walks_7 i_X9 tyX9_ok nmX9 v_X9 lM_0 8 rfl (Nat.le_of_ble_eq_true rfl) g_782 rfl rfl ⟨rfl, rfl⟩ es2 ?_
  refine r_aload_n X dX9_walks_10 0 rfl rfl ?_
  refine r_aload_n X dX9_walks_11 0 rfl rfl ?_
  refine r_getr X dX9_walks_12 i_X9 v_X9 lM_0 0 rfl (Nat.le_of_ble_eq_true rfl) g_774 ?_
  refine r_bipush X dX9_walks_15 (v := 7) (by decide) ?_
  refine r_iload_n X dX9_walks_17 1 rfl rfl ?_
  refine r_iadd X dX9_walks_18 ?_
  obtain ⟨g3, v4, ev4, h⟩ := ld_ok h
  refine s_iald X dX9_walks_19 lM_1 g3 ev4 ?_
  obtain ⟨s5, es5, h⟩ := pt_ok h
  refine s_puti X dX9_walks_20 i_X9 tyX9_ok nmX9 v_X9 lM_0 9 rfl (Nat.le_of_ble_eq_true rfl) g_783 rfl rfl ⟨rfl, rfl⟩ es5 ?_
  refine r_aload_n X dX9_walks_23 0 rfl rfl ?_
  refine r_iconst X dX9_walks_24 (v := 0) (by decide) ?_
  obtain ⟨s6, es6, h⟩ := pt_ok h
  refine s_puti X dX9_walks_25 i_X9 tyX9_ok nmX9 v_X9 lM_0 10 rfl (Nat.le_of_ble_eq_true rfl) g_784 rfl rfl ⟨rfl, rfl⟩ es6 ?_
  refine r_aload_n X dX9_walks_28 0 rfl rfl ?_
  refine r_iconst X dX9_walks_29 (v := 1) (by decide) ?_
  obtain ⟨s7, es7, h⟩ := pt_ok h
  refine s_puti X dX9_walks_30 i_X9 tyX9_ok nmX9 v_X9 lM_0 14 rfl (Nat.le_of_ble_eq_true rfl) g_788 rfl rfl (by decide) es7 ?_
  refine r_aload_n X dX9_walks_33 0 rfl rfl ?_
  refine r_iload_n X dX9_walks_34 2 rfl rfl ?_
  obtain ⟨s8, es8, h⟩ := pt_ok h
  refine s_puti X dX9_walks_35 i_X9 tyX9_ok nmX9 v_X9 lM_0 11 rfl (Nat.le_of_ble_eq_true rfl) g_785 rfl rfl ⟨rfl, rfl⟩ es8 ?_
  refine r_aload_n X dX9_walks_38 0 rfl rfl ?_
  refine r_iload_n X dX9_walks_39 3 rfl rfl ?_
  obtain ⟨s9, es9, h⟩ := pt_ok h
  refine s_puti X dX9_walks_40 i_X9 tyX9_ok nmX9 v_X9 lM_0 12 rfl (Nat.le_of_ble_eq_true rfl) g_786 rfl rfl ⟨rfl, rfl⟩ es9 ?_
  refine r_aload_n X dX9_walks_43 0 rfl rfl ?_
  refine r_iload X dX9_walks_44 4 rfl ?_
  obtain ⟨s10, es10, h⟩ := pt_ok h
  refine s_puti X dX9_walks_46 i_X9 tyX9_ok nmX9 v_X9 lM_0 13 rfl (Nat.le_of_ble_eq_true rfl) g_787 rfl rfl ⟨rfl, rfl⟩ es10 ?_
  refine r_aload_n X dX9_walks_49 0 rfl rfl ?_
  obtain ⟨u13, s11, e12, h⟩ := bd2_ok h
  refine kX9_whole X (ctX9_whole e12) dX9_walks_50 lM_0 g_952 (Nat.le_of_ble_eq_true rfl) (Nat.le_of_ble_eq_true rfl) ?_
  refine r_istore (L' := [(0, .ref (ea E 0)), (5, .int u13)]) X dX9_walks_53 [1, 0] rfl (Nat.le_of_ble_eq_true rfl) ?_
  refine r_aload_n X dX9_walks_55 0 rfl rfl ?_
  refine r_aload_n X dX9_walks_56 0 rfl rfl ?_
  refine r_geti X dX9_walks_57 i_X9 v_X9 lM_0 14 rfl (Nat.le_of_ble_eq_true rfl) g_788 ?_
  obtain ⟨j78, ej78, h⟩ := jn1_ok h
  have hj78 : ∀ (u : Unit), j78 u = some (r9, t9) → AW E layM p l e (rmD 104) ms m [.ref (ea E 0), .int a1, .int a2, .int a3, .int a4].toArray below meth c 6 0 0 (MQc E layM below [.ref (ea E 0), .int a1, .int a2, .int a3, .int a4].toArray ms (some (.int r9)) t9) 78 [(5, .int u13)] [.ref (ea E 0)] s11 := by
    intro u h
    rw [ej78] at h
    refine r_iconst X dX9_walks_78 (v := 0) (by decide) ?_
    obtain ⟨s14, es14, h⟩ := pt_ok h
    refine s_puti X dX9_walks_79 i_X9 tyX9_ok nmX9 v_X9 lM_0 14 rfl (Nat.le_of_ble_eq_true rfl) g_788 rfl rfl (by decide) es14 ?_
    refine r_iload X dX9_walks_82 0 rfl ?_
    exact s_iret X hlk hr dX9_walks_84 h
  refine r_if_eq X 78 dX9_walks_60 (by decide) (fun c17 => ?_) (fun c17 => ?_)
  · rw [if_pos c17] at h
    refine r_sub (L' := [(5, .int u13)]) [1] rfl ?_
    exact hj78 _ h
  · rw [if_neg c17] at h
    refine r_aload_n X dX9_walks_63 0 rfl rfl ?_
    refine r_geti X dX9_walks_64 i_X9 v_X9 lM_0 8 rfl (Nat.le_of_ble_eq_true rfl) g_782 ?_
    refine r_aload_n X dX9_walks_67 0 rfl rfl ?_
    refine r_geti X dX9_walks_68 i_X9 v_X9 lM_0 9 rfl (Nat.le_of_ble_eq_true rfl) g_783 ?_
    refine r_icmp_ne X 78 dX9_walks_71 (by decide) (fun c16 => ?_) (fun c16 => ?_)
    · rw [if_neg c16] at h
      refine r_sub (L' := [(5, .int u13)]) [1] rfl ?_
      exact hj78 _ h
    · rw [if_pos c16] at h
      refine r_iconst X dX9_walks_74 (v := 1) (by decide) ?_
      refine r_goto X 79 dX9_walks_75 (by decide) ?_
      obtain ⟨s15, es15, h⟩ := pt_ok h
      refine s_puti X dX9_walks_79 i_X9 tyX9_ok nmX9 v_X9 lM_0 14 rfl (Nat.le_of_ble_eq_true rfl) g_788 rfl rfl (by decide) es15 ?_
      refine r_iload X dX9_walks_82 1 rfl ?_
      exact s_iret X hlk hr dX9_walks_84 h
/-! X9_worked -/
theorem nX9_worked : yX9_worked.cls ≠ "java/lang/invoke/MethodHandle" ∧ yX9_worked.cls ≠ "java/lang/invoke/VarHandle" ∧ (parseMethodDescriptor yX9_worked.desc).map (fun d => d.parameters.length) = some 4 := by decide +kernel
theorem kX9_worked {l : Launch} {E : EE} {p : Program} {e : Env} {ms : State} {m : MethodId} {args : Array Value} {below : List Frame} {meth : Method} {c : Code} {cc : ByteArray} {own : String} {nL pc idx d D : Nat} {Q : State → Prop} {L : List (Nat × Value)} {rest : List Value} {σ τ : St} {a1 : Int32} {a2 : Int32} {a3 : Int32} {a4 : Int32} {r : Int32} {fl : List (Option Nat)} (X : Cx E layM p ms m args c cc own nL) (hM : Ct l E layM yX9_worked cX9_worked 6 (some .int) d [.ref (ea E 0), .int a1, .int a2, .int a3, .int a4] σ (some (.int r)) τ) (hd : decode cc pc = .ok (.invokevirtual idx, 3)) (hlay : layM[0]? = some (.inl (8, fl))) (w1 : Cond.methodLink own idx yX9_worked ∈ gw) (hR : d + 1 ≤ D) (hrs : (rest.map fun v => v.category).sum ≤ 8) (k : AW E layM p l e (rmD D) ms m args below meth c nL 0 0 Q (pc + 3) L (.int r :: rest) τ) : AW E layM p l e (rmD D) ms m args below meth c nL 0 0 Q pc L (.int a4 :: .int a3 :: .int a2 :: .int a1 :: .ref (ea E 0) :: rest) σ :=
  s_callV X [.int a1, .int a2, .int a3, .int a4] rest hM hd v_X9 hlay w1 g_946 g_33 g_77 g_947 nX9_worked rfl rfl hrs (Nat.le_of_ble_eq_true rfl) hR k
def fX9_worked (a1 : Int32) (a2 : Int32) (a3 : Int32) (a4 : Int32) (s0 : St) : Option (Int32 × St) :=
    bd1 (ald s0 1 257 (7 + a1)) fun v2 =>
    jn (fun (w3 : Int32) (s4 : St) =>
    jn (fun (w5 : Int32) =>
    bd2 (fX9_held w3 0 w5 s4) fun u8 s6 =>
    some (u8, s6)) fun j40 =>
    if a1 = 0 then
    j40 4
    else
    j40 9) fun j25 =>
    if v2 < 0 then
    j25 a2 s0
    else
    bd2 (fX9_walks a1 a2 a3 a4 s0) fun u12 s10 =>
    j25 u12 s10
set_option maxHeartbeats 4000000 in
set_option maxRecDepth 100000 in
theorem ctX9_worked {l : Launch} {E : EE} {a1 : Int32} {a2 : Int32} {a3 : Int32} {a4 : Int32} {s0 : St} {r9 : Int32} {t9 : St}  (h : fX9_worked a1 a2 a3 a4 s0 = some (r9, t9)) : Ct l E layM yX9_worked cX9_worked 6 (some .int) 105 [.ref (ea E 0), .int a1, .int a2, .int a3, .int a4] s0 (some (.int r9)) t9 := by
  refine Ct.of (by decide) (Nat.le_of_ble_eq_true rfl) ?_
  intro p e ms m below meth c X hlk hr
  have X : Cx E layM p ms m [.ref (ea E 0), .int a1, .int a2, .int a3, .int a4].toArray c cX9_worked RX9 6 := X
  refine r_sub (L' := [(0, .ref (ea E 0)), (1, .int a1), (2, .int a2), (3, .int a3), (4, .int a4)]) [0, 1, 2, 3, 4] rfl ?_
  unfold fX9_worked at h
  refine r_aload_n X dX9_worked_0 0 rfl rfl ?_
  refine r_getr X dX9_worked_1 i_X9 v_X9 lM_0 0 rfl (Nat.le_of_ble_eq_true rfl) g_774 ?_
  refine r_bipush X dX9_worked_4 (v := 7) (by decide) ?_
  refine r_iload_n X dX9_worked_6 1 rfl rfl ?_
  refine r_iadd X dX9_worked_7 ?_
  obtain ⟨g1, v2, ev2, h⟩ := ld_ok h
  refine s_iald X dX9_worked_8 lM_1 g1 ev2 ?_
  obtain ⟨j25, ej25, h⟩ := jn2_ok h
  have hj25 : ∀ (w3 : Int32) (s4 : St), j25 w3 s4 = some (r9, t9) → AW E layM p l e (rmD 105) ms m [.ref (ea E 0), .int a1, .int a2, .int a3, .int a4].toArray below meth c 6 0 0 (MQc E layM below [.ref (ea E 0), .int a1, .int a2, .int a3, .int a4].toArray ms (some (.int r9)) t9) 25 [(1, .int a1)] [.int w3] s4 := by
    intro w3 s4 h
    rw [ej25] at h
    refine r_istore (L' := [(1, .int a1), (5, .int w3)]) X dX9_worked_25 [1, 0] rfl (Nat.le_of_ble_eq_true rfl) ?_
    refine r_iload X dX9_worked_27 1 rfl ?_
    refine r_iconst X dX9_worked_29 (v := 0) (by decide) ?_
    refine r_iload_n X dX9_worked_30 0 rfl rfl ?_
    obtain ⟨j40, ej40, h⟩ := jn1_ok h
    have hj40 : ∀ (w5 : Int32), j40 w5 = some (r9, t9) → AW E layM p l e (rmD 105) ms m [.ref (ea E 0), .int a1, .int a2, .int a3, .int a4].toArray below meth c 6 0 0 (MQc E layM below [.ref (ea E 0), .int a1, .int a2, .int a3, .int a4].toArray ms (some (.int r9)) t9) 40 [] [.int w5, .int 0, .int w3] s4 := by
      intro w5 h
      rw [ej40] at h
      obtain ⟨u8, s6, e7, h⟩ := bd2_ok h
      refine kX9_held X (ctX9_held e7) dX9_worked_40 g_995 (Nat.le_of_ble_eq_true rfl) (Nat.le_of_ble_eq_true rfl) ?_
      exact s_iret X hlk hr dX9_worked_43 h
    refine r_if_ne X 38 dX9_worked_31 (by decide) (fun c9 => ?_) (fun c9 => ?_)
    · rw [if_neg c9] at h
      refine r_bipush X dX9_worked_38 (v := 9) (by decide) ?_
      refine r_sub (L' := []) [] rfl ?_
      exact hj40 _ h
    · rw [if_pos c9] at h
      refine r_iconst X dX9_worked_34 (v := 4) (by decide) ?_
      refine r_goto X 40 dX9_worked_35 (by decide) ?_
      refine r_sub (L' := []) [] rfl ?_
      exact hj40 _ h
  refine r_if_lt X 24 dX9_worked_9 (by decide) (fun c13 => ?_) (fun c13 => ?_)
  · rw [if_pos c13] at h
    refine r_iload_n X dX9_worked_24 2 rfl rfl ?_
    refine r_sub (L' := [(1, .int a1)]) [1] rfl ?_
    exact hj25 _ _ h
  · rw [if_neg c13] at h
    refine r_aload_n X dX9_worked_12 0 rfl rfl ?_
    refine r_iload_n X dX9_worked_13 1 rfl rfl ?_
    refine r_iload_n X dX9_worked_14 2 rfl rfl ?_
    refine r_iload_n X dX9_worked_15 3 rfl rfl ?_
    refine r_iload X dX9_worked_16 4 rfl ?_
    obtain ⟨u12, s10, e11, h⟩ := bd2_ok h
    refine kX9_walks X (ctX9_walks e11) dX9_worked_18 lM_0 g_948 (Nat.le_of_ble_eq_true rfl) (Nat.le_of_ble_eq_true rfl) ?_
    refine r_goto X 25 dX9_worked_21 (by decide) ?_
    refine r_sub (L' := [(1, .int a1)]) [1] rfl ?_
    exact hj25 _ _ h
/-! X9_lawOf -/
theorem nX9_lawOf : yX9_lawOf.cls ≠ "java/lang/invoke/MethodHandle" ∧ yX9_lawOf.cls ≠ "java/lang/invoke/VarHandle" ∧ (parseMethodDescriptor yX9_lawOf.desc).map (fun d => d.parameters.length) = some 4 := by decide +kernel
theorem kX9_lawOf {l : Launch} {E : EE} {p : Program} {e : Env} {ms : State} {m : MethodId} {args : Array Value} {below : List Frame} {meth : Method} {c : Code} {cc : ByteArray} {own : String} {nL pc idx d D : Nat} {Q : State → Prop} {L : List (Nat × Value)} {rest : List Value} {σ τ : St} {a1 : Int32} {a2 : Int32} {a3 : Int32} {a4 : Int32} {r : Int32} {fl : List (Option Nat)} (X : Cx E layM p ms m args c cc own nL) (hM : Ct l E layM yX9_lawOf cX9_lawOf 6 (some .int) d [.ref (ea E 0), .int a1, .int a2, .int a3, .int a4] σ (some (.int r)) τ) (hd : decode cc pc = .ok (.invokevirtual idx, 3)) (hlay : layM[0]? = some (.inl (8, fl))) (w1 : Cond.methodLink own idx yX9_lawOf ∈ gw) (hR : d + 1 ≤ D) (hrs : (rest.map fun v => v.category).sum ≤ 8) (k : AW E layM p l e (rmD D) ms m args below meth c nL 0 0 Q (pc + 3) L (.int r :: rest) τ) : AW E layM p l e (rmD D) ms m args below meth c nL 0 0 Q pc L (.int a4 :: .int a3 :: .int a2 :: .int a1 :: .ref (ea E 0) :: rest) σ :=
  s_callV X [.int a1, .int a2, .int a3, .int a4] rest hM hd v_X9 hlay w1 g_942 g_32 g_77 g_943 nX9_lawOf rfl rfl hrs (Nat.le_of_ble_eq_true rfl) hR k
def fX9_lawOf (a1 : Int32) (a2 : Int32) (a3 : Int32) (a4 : Int32) (s0 : St) : Option (Int32 × St) :=
    bd2 (fX9_in a2 0 9 s0) fun u3 s1 =>
    jn (fun (s4 : St) =>
    bd2 (fX9_worked a1 a2 a3 a4 s4) fun u7 s5 =>
    some (u7, s5)) fun j31 =>
    if u3 = 0 then
    j31 s1
    else
    bd2 (fX9_in a3 0 9 s1) fun u10 s8 =>
    if u10 = 0 then
    j31 s8
    else
    bd2 (fX9_in a4 0 9 s8) fun u13 s11 =>
    if u13 = 0 then
    j31 s11
    else
    bd1 (ald s11 6 2000 ((((1000 * a1) + (100 * a2)) + (10 * a3)) + a4)) fun v15 =>
    jn (fun (s16 : St) =>
    bd1 (ald s16 6 2000 ((((1000 * a1) + (100 * a2)) + (10 * a3)) + a4)) fun v18 =>
    some (v18, s16)) fun j87 =>
    if 0 ≤ v15 then
    j87 s11
    else
    bd2 (fX9_worked a1 a2 a3 a4 s11) fun u21 s19 =>
    bd1 (ast s19 6 2000 ((((1000 * a1) + (100 * a2)) + (10 * a3)) + a4) u21) fun s23 =>
    j87 s23
set_option maxHeartbeats 4000000 in
set_option maxRecDepth 100000 in
theorem ctX9_lawOf {l : Launch} {E : EE} {a1 : Int32} {a2 : Int32} {a3 : Int32} {a4 : Int32} {s0 : St} {r9 : Int32} {t9 : St}  (h : fX9_lawOf a1 a2 a3 a4 s0 = some (r9, t9)) : Ct l E layM yX9_lawOf cX9_lawOf 6 (some .int) 106 [.ref (ea E 0), .int a1, .int a2, .int a3, .int a4] s0 (some (.int r9)) t9 := by
  refine Ct.of (by decide) (Nat.le_of_ble_eq_true rfl) ?_
  intro p e ms m below meth c X hlk hr
  have X : Cx E layM p ms m [.ref (ea E 0), .int a1, .int a2, .int a3, .int a4].toArray c cX9_lawOf RX9 6 := X
  refine r_sub (L' := [(0, .ref (ea E 0)), (1, .int a1), (2, .int a2), (3, .int a3), (4, .int a4)]) [0, 1, 2, 3, 4] rfl ?_
  unfold fX9_lawOf at h
  refine r_iload_n X dX9_lawOf_0 2 rfl rfl ?_
  refine r_iconst X dX9_lawOf_1 (v := 0) (by decide) ?_
  refine r_bipush X dX9_lawOf_2 (v := 9) (by decide) ?_
  obtain ⟨u3, s1, e2, h⟩ := bd2_ok h
  refine kX9_in X (ctX9_in e2) dX9_lawOf_4 g_866 (Nat.le_of_ble_eq_true rfl) (Nat.le_of_ble_eq_true rfl) ?_
  obtain ⟨j31, ej31, h⟩ := jn1_ok h
  have hj31 : ∀ (s4 : St), j31 s4 = some (r9, t9) → AW E layM p l e (rmD 106) ms m [.ref (ea E 0), .int a1, .int a2, .int a3, .int a4].toArray below meth c 6 0 0 (MQc E layM below [.ref (ea E 0), .int a1, .int a2, .int a3, .int a4].toArray ms (some (.int r9)) t9) 31 [(0, .ref (ea E 0)), (1, .int a1), (2, .int a2), (3, .int a3), (4, .int a4)] [] s4 := by
    intro s4 h
    rw [ej31] at h
    refine r_aload_n X dX9_lawOf_31 0 rfl rfl ?_
    refine r_iload_n X dX9_lawOf_32 1 rfl rfl ?_
    refine r_iload_n X dX9_lawOf_33 2 rfl rfl ?_
    refine r_iload_n X dX9_lawOf_34 3 rfl rfl ?_
    refine r_iload X dX9_lawOf_35 4 rfl ?_
    obtain ⟨u7, s5, e6, h⟩ := bd2_ok h
    refine kX9_worked X (ctX9_worked e6) dX9_lawOf_37 lM_0 g_944 (Nat.le_of_ble_eq_true rfl) (Nat.le_of_ble_eq_true rfl) ?_
    exact s_iret X hlk hr dX9_lawOf_40 h
  refine r_if_eq X 31 dX9_lawOf_7 (by decide) (fun c27 => ?_) (fun c27 => ?_)
  · rw [if_pos c27] at h
    exact hj31 _ h
  · rw [if_neg c27] at h
    refine r_iload_n X dX9_lawOf_10 3 rfl rfl ?_
    refine r_iconst X dX9_lawOf_11 (v := 0) (by decide) ?_
    refine r_bipush X dX9_lawOf_12 (v := 9) (by decide) ?_
    obtain ⟨u10, s8, e9, h⟩ := bd2_ok h
    refine kX9_in X (ctX9_in e9) dX9_lawOf_14 g_866 (Nat.le_of_ble_eq_true rfl) (Nat.le_of_ble_eq_true rfl) ?_
    refine r_if_eq X 31 dX9_lawOf_17 (by decide) (fun c26 => ?_) (fun c26 => ?_)
    · rw [if_pos c26] at h
      exact hj31 _ h
    · rw [if_neg c26] at h
      refine r_iload X dX9_lawOf_20 4 rfl ?_
      refine r_iconst X dX9_lawOf_22 (v := 0) (by decide) ?_
      refine r_bipush X dX9_lawOf_23 (v := 9) (by decide) ?_
      obtain ⟨u13, s11, e12, h⟩ := bd2_ok h
      refine kX9_in X (ctX9_in e12) dX9_lawOf_25 g_866 (Nat.le_of_ble_eq_true rfl) (Nat.le_of_ble_eq_true rfl) ?_
      refine r_if_ne X 41 dX9_lawOf_28 (by decide) (fun c25 => ?_) (fun c25 => ?_)
      · rw [if_neg c25] at h
        refine r_sipush X dX9_lawOf_41 (v := 1000) (by decide) ?_
        refine r_iload_n X dX9_lawOf_44 1 rfl rfl ?_
        refine r_imul X dX9_lawOf_45 ?_
        refine r_bipush X dX9_lawOf_46 (v := 100) (by decide) ?_
        refine r_iload_n X dX9_lawOf_48 2 rfl rfl ?_
        refine r_imul X dX9_lawOf_49 ?_
        refine r_iadd X dX9_lawOf_50 ?_
        refine r_bipush X dX9_lawOf_51 (v := 10) (by decide) ?_
        refine r_iload_n X dX9_lawOf_53 3 rfl rfl ?_
        refine r_imul X dX9_lawOf_54 ?_
        refine r_iadd X dX9_lawOf_55 ?_
        refine r_iload X dX9_lawOf_56 4 rfl ?_
        refine r_iadd X dX9_lawOf_58 ?_
        refine r_istore (L' := [(0, .ref (ea E 0)), (1, .int a1), (2, .int a2), (3, .int a3), (4, .int a4), (5, .int ((((1000 * a1) + (100 * a2)) + (10 * a3)) + a4))]) X dX9_lawOf_59 [1, 2, 3, 4, 5, 0] rfl (Nat.le_of_ble_eq_true rfl) ?_
        refine r_aload_n X dX9_lawOf_61 0 rfl rfl ?_
        refine r_getr X dX9_lawOf_62 i_X9 v_X9 lM_0 15 rfl (Nat.le_of_ble_eq_true rfl) g_789 ?_
        refine r_iload X dX9_lawOf_65 5 rfl ?_
        obtain ⟨g14, v15, ev15, h⟩ := ld_ok h
        refine s_iald X dX9_lawOf_67 lM_6 g14 ev15 ?_
        obtain ⟨j87, ej87, h⟩ := jn1_ok h
        have hj87 : ∀ (s16 : St), j87 s16 = some (r9, t9) → AW E layM p l e (rmD 106) ms m [.ref (ea E 0), .int a1, .int a2, .int a3, .int a4].toArray below meth c 6 0 0 (MQc E layM below [.ref (ea E 0), .int a1, .int a2, .int a3, .int a4].toArray ms (some (.int r9)) t9) 87 [(0, .ref (ea E 0)), (5, .int ((((1000 * a1) + (100 * a2)) + (10 * a3)) + a4))] [] s16 := by
          intro s16 h
          rw [ej87] at h
          refine r_aload_n X dX9_lawOf_87 0 rfl rfl ?_
          refine r_getr X dX9_lawOf_88 i_X9 v_X9 lM_0 15 rfl (Nat.le_of_ble_eq_true rfl) g_789 ?_
          refine r_iload X dX9_lawOf_91 1 rfl ?_
          obtain ⟨g17, v18, ev18, h⟩ := ld_ok h
          refine s_iald X dX9_lawOf_93 lM_6 g17 ev18 ?_
          exact s_iret X hlk hr dX9_lawOf_94 h
        refine r_if_ge X 87 dX9_lawOf_68 (by decide) (fun c24 => ?_) (fun c24 => ?_)
        · rw [if_pos c24] at h
          refine r_sub (L' := [(0, .ref (ea E 0)), (5, .int ((((1000 * a1) + (100 * a2)) + (10 * a3)) + a4))]) [0, 5] rfl ?_
          exact hj87 _ h
        · rw [if_neg c24] at h
          refine r_aload_n X dX9_lawOf_71 0 rfl rfl ?_
          refine r_getr X dX9_lawOf_72 i_X9 v_X9 lM_0 15 rfl (Nat.le_of_ble_eq_true rfl) g_789 ?_
          refine r_iload X dX9_lawOf_75 5 rfl ?_
          refine r_aload_n X dX9_lawOf_77 0 rfl rfl ?_
          refine r_iload_n X dX9_lawOf_78 1 rfl rfl ?_
          refine r_iload_n X dX9_lawOf_79 2 rfl rfl ?_
          refine r_iload_n X dX9_lawOf_80 3 rfl rfl ?_
          refine r_iload X dX9_lawOf_81 4 rfl ?_
          obtain ⟨u21, s19, e20, h⟩ := bd2_ok h
          refine kX9_worked X (ctX9_worked e20) dX9_lawOf_83 lM_0 g_944 (Nat.le_of_ble_eq_true rfl) (Nat.le_of_ble_eq_true rfl) ?_
          obtain ⟨g22, s23, es23, h⟩ := as_ok h
          refine s_iast X dX9_lawOf_86 lM_6 g22 es23 ?_
          refine r_sub (L' := [(0, .ref (ea E 0)), (5, .int ((((1000 * a1) + (100 * a2)) + (10 * a3)) + a4))]) [0, 5] rfl ?_
          exact hj87 _ h
      · rw [if_pos c25] at h
        exact hj31 _ h
/-! X9_left -/
theorem nX9_left : yX9_left.cls ≠ "java/lang/invoke/MethodHandle" ∧ yX9_left.cls ≠ "java/lang/invoke/VarHandle" ∧ (parseMethodDescriptor yX9_left.desc).map (fun d => d.parameters.length) = some 2 := by decide +kernel
theorem kX9_left {l : Launch} {E : EE} {p : Program} {e : Env} {ms : State} {m : MethodId} {args : Array Value} {below : List Frame} {meth : Method} {c : Code} {cc : ByteArray} {own : String} {nL pc idx d D : Nat} {Q : State → Prop} {L : List (Nat × Value)} {rest : List Value} {σ τ : St} {a1 : Int32} {a2 : Int32} {r : Int32} {fl : List (Option Nat)} (X : Cx E layM p ms m args c cc own nL) (hM : Ct l E layM yX9_left cX9_left 3 (some .int) d [.ref (ea E 0), .int a1, .int a2] σ (some (.int r)) τ) (hd : decode cc pc = .ok (.invokevirtual idx, 3)) (hlay : layM[0]? = some (.inl (8, fl))) (w1 : Cond.methodLink own idx yX9_left ∈ gw) (hR : d + 1 ≤ D) (hrs : (rest.map fun v => v.category).sum ≤ 8) (k : AW E layM p l e (rmD D) ms m args below meth c nL 0 0 Q (pc + 3) L (.int r :: rest) τ) : AW E layM p l e (rmD D) ms m args below meth c nL 0 0 Q pc L (.int a2 :: .int a1 :: .ref (ea E 0) :: rest) σ :=
  s_callV X [.int a1, .int a2] rest hM hd v_X9 hlay w1 g_926 g_28 g_77 g_927 nX9_left rfl rfl hrs (Nat.le_of_ble_eq_true rfl) hR k
def fX9_left (a1 : Int32) (a2 : Int32) (s0 : St) : Option (Int32 × St) :=
    bd2 (fX9_leaving a1 a2 s0) fun u3 s1 =>
    bd2 (fX9_sweet a2 s1) fun u6 s4 =>
    bd2 (fX9_its a1 2 s4) fun u9 s7 =>
    bd2 (fX9_lawOf 0 u3 u6 u9 s7) fun u12 s10 =>
    some (u12, s10)
set_option maxHeartbeats 4000000 in
set_option maxRecDepth 100000 in
theorem ctX9_left {l : Launch} {E : EE} {a1 : Int32} {a2 : Int32} {s0 : St} {r9 : Int32} {t9 : St}  (h : fX9_left a1 a2 s0 = some (r9, t9)) : Ct l E layM yX9_left cX9_left 3 (some .int) 107 [.ref (ea E 0), .int a1, .int a2] s0 (some (.int r9)) t9 := by
  refine Ct.of (by decide) (Nat.le_of_ble_eq_true rfl) ?_
  intro p e ms m below meth c X hlk hr
  have X : Cx E layM p ms m [.ref (ea E 0), .int a1, .int a2].toArray c cX9_left RX9 3 := X
  refine r_sub (L' := [(0, .ref (ea E 0)), (1, .int a1), (2, .int a2)]) [0, 1, 2] rfl ?_
  unfold fX9_left at h
  refine r_aload_n X dX9_left_0 0 rfl rfl ?_
  refine r_iconst X dX9_left_1 (v := 0) (by decide) ?_
  refine r_aload_n X dX9_left_2 0 rfl rfl ?_
  refine r_iload_n X dX9_left_3 1 rfl rfl ?_
  refine r_iload_n X dX9_left_4 2 rfl rfl ?_
  obtain ⟨u3, s1, e2, h⟩ := bd2_ok h
  refine kX9_leaving X (ctX9_leaving e2) dX9_left_5 lM_0 g_928 (Nat.le_of_ble_eq_true rfl) (Nat.le_of_ble_eq_true rfl) ?_
  refine r_aload_n X dX9_left_8 0 rfl rfl ?_
  refine r_iload_n X dX9_left_9 2 rfl rfl ?_
  obtain ⟨u6, s4, e5, h⟩ := bd2_ok h
  refine kX9_sweet X (ctX9_sweet e5) dX9_left_10 lM_0 g_936 (Nat.le_of_ble_eq_true rfl) (Nat.le_of_ble_eq_true rfl) ?_
  refine r_aload_n X dX9_left_13 0 rfl rfl ?_
  refine r_iload_n X dX9_left_14 1 rfl rfl ?_
  refine r_iconst X dX9_left_15 (v := 2) (by decide) ?_
  obtain ⟨u9, s7, e8, h⟩ := bd2_ok h
  refine kX9_its X (ctX9_its e8) dX9_left_16 lM_0 g_916 (Nat.le_of_ble_eq_true rfl) (Nat.le_of_ble_eq_true rfl) ?_
  obtain ⟨u12, s10, e11, h⟩ := bd2_ok h
  refine kX9_lawOf X (ctX9_lawOf e11) dX9_left_19 lM_0 g_940 (Nat.le_of_ble_eq_true rfl) (Nat.le_of_ble_eq_true rfl) ?_
  exact s_iret X hlk hr dX9_left_22 h
/-! X9_ofDiner -/
theorem nX9_ofDiner : yX9_ofDiner.cls ≠ "java/lang/invoke/MethodHandle" ∧ yX9_ofDiner.cls ≠ "java/lang/invoke/VarHandle" ∧ (parseMethodDescriptor yX9_ofDiner.desc).map (fun d => d.parameters.length) = some 2 := by decide +kernel
theorem kX9_ofDiner {l : Launch} {E : EE} {p : Program} {e : Env} {ms : State} {m : MethodId} {args : Array Value} {below : List Frame} {meth : Method} {c : Code} {cc : ByteArray} {own : String} {nL pc idx d D : Nat} {Q : State → Prop} {L : List (Nat × Value)} {rest : List Value} {σ τ : St} {a1 : Int32} {a2 : Int32} {r : Int32} {fl : List (Option Nat)} (X : Cx E layM p ms m args c cc own nL) (hM : Ct l E layM yX9_ofDiner cX9_ofDiner 3 (some .int) d [.ref (ea E 0), .int a1, .int a2] σ (some (.int r)) τ) (hd : decode cc pc = .ok (.invokevirtual idx, 3)) (hlay : layM[0]? = some (.inl (8, fl))) (w1 : Cond.methodLink own idx yX9_ofDiner ∈ gw) (hR : d + 1 ≤ D) (hrs : (rest.map fun v => v.category).sum ≤ 8) (k : AW E layM p l e (rmD D) ms m args below meth c nL 0 0 Q (pc + 3) L (.int r :: rest) τ) : AW E layM p l e (rmD D) ms m args below meth c nL 0 0 Q pc L (.int a2 :: .int a1 :: .ref (ea E 0) :: rest) σ :=
  s_callV X [.int a1, .int a2] rest hM hd v_X9 hlay w1 g_909 g_910 g_77 g_911 nX9_ofDiner rfl rfl hrs (Nat.le_of_ble_eq_true rfl) hR k
def fX9_ofDiner (a1 : Int32) (a2 : Int32) (s0 : St) : Option (Int32 × St) :=
    bd2 (fX9_isDiner a1 s0) fun u3 s1 =>
    jn (fun (s4 : St) =>
    bd2 (fX9_errs (-1000000001) s4) fun u7 s5 =>
    some (u7, s5)) fun j18 =>
    if u3 = 0 then
    j18 s1
    else
    bd2 (fX9_in a2 0 11 s1) fun u10 s8 =>
    if u10 = 0 then
    j18 s8
    else
    if 5 ≤ a2 then
    if a2 = 5 then
    bd2 (fX9_mending a1 s8) fun u16 s14 =>
    some (u16, s14)
    else
    bd2 (fX9_left a1 (a2 - 6) s8) fun u13 s11 =>
    some (u13, s11)
    else
    bd2 (fX9_its a1 a2 s8) fun u20 s18 =>
    some (u20, s18)
set_option maxHeartbeats 4000000 in
set_option maxRecDepth 100000 in
theorem ctX9_ofDiner {l : Launch} {E : EE} {a1 : Int32} {a2 : Int32} {s0 : St} {r9 : Int32} {t9 : St}  (h : fX9_ofDiner a1 a2 s0 = some (r9, t9)) : Ct l E layM yX9_ofDiner cX9_ofDiner 3 (some .int) 108 [.ref (ea E 0), .int a1, .int a2] s0 (some (.int r9)) t9 := by
  refine Ct.of (by decide) (Nat.le_of_ble_eq_true rfl) ?_
  intro p e ms m below meth c X hlk hr
  have X : Cx E layM p ms m [.ref (ea E 0), .int a1, .int a2].toArray c cX9_ofDiner RX9 3 := X
  refine r_sub (L' := [(0, .ref (ea E 0)), (1, .int a1), (2, .int a2)]) [0, 1, 2] rfl ?_
  unfold fX9_ofDiner at h
  refine r_aload_n X dX9_ofDiner_0 0 rfl rfl ?_
  refine r_iload_n X dX9_ofDiner_1 1 rfl rfl ?_
  obtain ⟨u3, s1, e2, h⟩ := bd2_ok h
  refine kX9_isDiner X (ctX9_isDiner e2) dX9_ofDiner_2 lM_0 g_912 (Nat.le_of_ble_eq_true rfl) (Nat.le_of_ble_eq_true rfl) ?_
  obtain ⟨j18, ej18, h⟩ := jn1_ok h
  have hj18 : ∀ (s4 : St), j18 s4 = some (r9, t9) → AW E layM p l e (rmD 108) ms m [.ref (ea E 0), .int a1, .int a2].toArray below meth c 3 0 0 (MQc E layM below [.ref (ea E 0), .int a1, .int a2].toArray ms (some (.int r9)) t9) 18 [(0, .ref (ea E 0))] [] s4 := by
    intro s4 h
    rw [ej18] at h
    refine r_aload_n X dX9_ofDiner_18 0 rfl rfl ?_
    refine r_ldc X dX9_ofDiner_19 g_873 ?_
    obtain ⟨u7, s5, e6, h⟩ := bd2_ok h
    refine kX9_errs X (ctX9_errs e6) dX9_ofDiner_21 lM_0 g_874 (Nat.le_of_ble_eq_true rfl) (Nat.le_of_ble_eq_true rfl) ?_
    exact s_iret X hlk hr dX9_ofDiner_24 h
  refine r_if_eq X 18 dX9_ofDiner_5 (by decide) (fun c23 => ?_) (fun c23 => ?_)
  · rw [if_pos c23] at h
    refine r_sub (L' := [(0, .ref (ea E 0))]) [0] rfl ?_
    exact hj18 _ h
  · rw [if_neg c23] at h
    refine r_iload_n X dX9_ofDiner_8 2 rfl rfl ?_
    refine r_iconst X dX9_ofDiner_9 (v := 0) (by decide) ?_
    refine r_bipush X dX9_ofDiner_10 (v := 11) (by decide) ?_
    obtain ⟨u10, s8, e9, h⟩ := bd2_ok h
    refine kX9_in X (ctX9_in e9) dX9_ofDiner_12 g_866 (Nat.le_of_ble_eq_true rfl) (Nat.le_of_ble_eq_true rfl) ?_
    refine r_if_ne X 25 dX9_ofDiner_15 (by decide) (fun c22 => ?_) (fun c22 => ?_)
    · rw [if_neg c22] at h
      refine r_iload_n X dX9_ofDiner_25 2 rfl rfl ?_
      refine r_iconst X dX9_ofDiner_26 (v := 5) (by decide) ?_
      refine r_icmp_ge X 39 dX9_ofDiner_27 (by decide) (fun c21 => ?_) (fun c21 => ?_)
      · rw [if_pos c21] at h
        refine r_iload_n X dX9_ofDiner_39 2 rfl rfl ?_
        refine r_iconst X dX9_ofDiner_40 (v := 5) (by decide) ?_
        refine r_icmp_ne X 52 dX9_ofDiner_41 (by decide) (fun c17 => ?_) (fun c17 => ?_)
        · rw [if_neg c17] at h
          refine r_aload_n X dX9_ofDiner_52 0 rfl rfl ?_
          refine r_iload_n X dX9_ofDiner_53 1 rfl rfl ?_
          refine r_iload_n X dX9_ofDiner_54 2 rfl rfl ?_
          refine r_bipush X dX9_ofDiner_55 (v := 6) (by decide) ?_
          refine r_isub X dX9_ofDiner_57 ?_
          obtain ⟨u13, s11, e12, h⟩ := bd2_ok h
          refine kX9_left X (ctX9_left e12) dX9_ofDiner_58 lM_0 g_924 (Nat.le_of_ble_eq_true rfl) (Nat.le_of_ble_eq_true rfl) ?_
          exact s_iret X hlk hr dX9_ofDiner_61 h
        · rw [if_pos c17] at h
          refine r_aload_n X dX9_ofDiner_44 0 rfl rfl ?_
          refine r_iload_n X dX9_ofDiner_45 1 rfl rfl ?_
          obtain ⟨u16, s14, e15, h⟩ := bd2_ok h
          refine kX9_mending X (ctX9_mending e15) dX9_ofDiner_46 lM_0 g_920 (Nat.le_of_ble_eq_true rfl) (Nat.le_of_ble_eq_true rfl) ?_
          refine r_goto X 61 dX9_ofDiner_49 (by decide) ?_
          exact s_iret X hlk hr dX9_ofDiner_61 h
      · rw [if_neg c21] at h
        refine r_aload_n X dX9_ofDiner_30 0 rfl rfl ?_
        refine r_iload_n X dX9_ofDiner_31 1 rfl rfl ?_
        refine r_iload_n X dX9_ofDiner_32 2 rfl rfl ?_
        obtain ⟨u20, s18, e19, h⟩ := bd2_ok h
        refine kX9_its X (ctX9_its e19) dX9_ofDiner_33 lM_0 g_916 (Nat.le_of_ble_eq_true rfl) (Nat.le_of_ble_eq_true rfl) ?_
        refine r_goto X 61 dX9_ofDiner_36 (by decide) ?_
        exact s_iret X hlk hr dX9_ofDiner_61 h
    · rw [if_pos c22] at h
      refine r_sub (L' := [(0, .ref (ea E 0))]) [0] rfl ?_
      exact hj18 _ h
