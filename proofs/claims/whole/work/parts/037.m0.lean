/-! X9_in -/
theorem nX9_in : yX9_in.cls ≠ "java/lang/invoke/MethodHandle" ∧ yX9_in.cls ≠ "java/lang/invoke/VarHandle" ∧ (parseMethodDescriptor yX9_in.desc).map (fun d => d.parameters.length) = some 3 := by decide +kernel
theorem kX9_in {l : Launch} {E : EE} {p : Program} {e : Env} {ms : State} {m : MethodId} {args : Array Value} {below : List Frame} {meth : Method} {c : Code} {cc : ByteArray} {own : String} {nL pc idx d D : Nat} {Q : State → Prop} {L : List (Nat × Value)} {rest : List Value} {σ τ : St} {a0 : Int32} {a1 : Int32} {a2 : Int32} {r : Int32} (X : Cx E layM p ms m args c cc own nL) (hM : Ct l E layM yX9_in cX9_in 3 (some .boolean) d [.int a0, .int a1, .int a2] σ (some (.int r)) τ) (hd : decode cc pc = .ok (.invokestatic idx, 3)) (w1 : Cond.methodLink own idx yX9_in ∈ gw) (hR : d + 1 ≤ D) (hrs : (rest.map fun v => v.category).sum ≤ 8) (k : AW E layM p l e (rmD D) ms m args below meth c nL 0 0 Q (pc + 3) L (.int r :: rest) τ) : AW E layM p l e (rmD D) ms m args below meth c nL 0 0 Q pc L (.int a2 :: .int a1 :: .int a0 :: rest) σ :=
  s_callS X [.int a0, .int a1, .int a2] rest hM hd w1 g_867 g_77 g_868 nX9_in rfl rfl hrs (Nat.le_of_ble_eq_true rfl) hR k
def fX9_in (a0 : Int32) (a1 : Int32) (a2 : Int32) (s0 : St) : Option (Int32 × St) :=
    jn (fun (_ : Unit) =>
    some (0, s0)) fun j14 =>
    if a0 < a1 then
    j14 ()
    else
    if a2 < a0 then
    j14 ()
    else
    some (1, s0)
set_option maxHeartbeats 4000000 in
set_option maxRecDepth 100000 in
theorem ctX9_in {l : Launch} {E : EE} {a0 : Int32} {a1 : Int32} {a2 : Int32} {s0 : St} {r9 : Int32} {t9 : St}  (h : fX9_in a0 a1 a2 s0 = some (r9, t9)) : Ct l E layM yX9_in cX9_in 3 (some .boolean) 0 [.int a0, .int a1, .int a2] s0 (some (.int r9)) t9 := by
  refine Ct.of (by decide) (Nat.le_of_ble_eq_true rfl) ?_
  intro p e ms m below meth c X hlk hr
  have X : Cx E layM p ms m [.int a0, .int a1, .int a2].toArray c cX9_in RX9 3 := X
  refine r_sub (L' := [(0, .int a0), (1, .int a1), (2, .int a2)]) [0, 1, 2] rfl ?_
  unfold fX9_in at h
  refine r_iload_n X dX9_in_0 0 rfl rfl ?_
  refine r_iload_n X dX9_in_1 1 rfl rfl ?_
  obtain ⟨j14, ej14, h⟩ := jn1_ok h
  have hj14 : ∀ (u : Unit), j14 u = some (r9, t9) → AW E layM p l e (rmD 0) ms m [.int a0, .int a1, .int a2].toArray below meth c 3 0 0 (MQc E layM below [.int a0, .int a1, .int a2].toArray ms (some (.int r9)) t9) 14 [] [] s0 := by
    intro u h
    rw [ej14] at h
    refine r_iconst X dX9_in_14 (v := 0) (by decide) ?_
    exact s_zret X hlk hr (by decide) dX9_in_15 h
  refine r_icmp_lt X 14 dX9_in_2 (by decide) (fun c2 => ?_) (fun c2 => ?_)
  · rw [if_pos c2] at h
    refine r_sub (L' := []) [] rfl ?_
    exact hj14 _ h
  · rw [if_neg c2] at h
    refine r_iload_n X dX9_in_5 0 rfl rfl ?_
    refine r_iload_n X dX9_in_6 2 rfl rfl ?_
    refine r_icmp_gt X 14 dX9_in_7 (by decide) (fun c1 => ?_) (fun c1 => ?_)
    · rw [if_pos c1] at h
      refine r_sub (L' := []) [] rfl ?_
      exact hj14 _ h
    · rw [if_neg c1] at h
      refine r_iconst X dX9_in_10 (v := 1) (by decide) ?_
      refine r_goto X 15 dX9_in_11 (by decide) ?_
      exact s_zret X hlk hr (by decide) dX9_in_15 h
/-! X9_errs -/
theorem nX9_errs : yX9_errs.cls ≠ "java/lang/invoke/MethodHandle" ∧ yX9_errs.cls ≠ "java/lang/invoke/VarHandle" ∧ (parseMethodDescriptor yX9_errs.desc).map (fun d => d.parameters.length) = some 1 := by decide +kernel
theorem kX9_errs {l : Launch} {E : EE} {p : Program} {e : Env} {ms : State} {m : MethodId} {args : Array Value} {below : List Frame} {meth : Method} {c : Code} {cc : ByteArray} {own : String} {nL pc idx d D : Nat} {Q : State → Prop} {L : List (Nat × Value)} {rest : List Value} {σ τ : St} {a1 : Int32} {r : Int32} {fl : List (Option Nat)} (X : Cx E layM p ms m args c cc own nL) (hM : Ct l E layM yX9_errs cX9_errs 2 (some .int) d [.ref (ea E 0), .int a1] σ (some (.int r)) τ) (hd : decode cc pc = .ok (.invokevirtual idx, 3)) (hlay : layM[0]? = some (.inl (8, fl))) (w1 : Cond.methodLink own idx yX9_errs ∈ gw) (hR : d + 1 ≤ D) (hrs : (rest.map fun v => v.category).sum ≤ 8) (k : AW E layM p l e (rmD D) ms m args below meth c nL 0 0 Q (pc + 3) L (.int r :: rest) τ) : AW E layM p l e (rmD D) ms m args below meth c nL 0 0 Q pc L (.int a1 :: .ref (ea E 0) :: rest) σ :=
  s_callV X [.int a1] rest hM hd v_X9 hlay w1 g_876 g_22 g_77 g_877 nX9_errs rfl rfl hrs (Nat.le_of_ble_eq_true rfl) hR k
def fX9_errs (a1 : Int32) (s0 : St) : Option (Int32 × St) :=
    bd1 (ald s0 5 6 ((-1000000000) - a1)) fun v2 =>
    bd1 (ast s0 5 6 ((-1000000000) - a1) (v2 + 1)) fun s4 =>
    some (a1, s4)
set_option maxHeartbeats 4000000 in
set_option maxRecDepth 100000 in
theorem ctX9_errs {l : Launch} {E : EE} {a1 : Int32} {s0 : St} {r9 : Int32} {t9 : St}  (h : fX9_errs a1 s0 = some (r9, t9)) : Ct l E layM yX9_errs cX9_errs 2 (some .int) 0 [.ref (ea E 0), .int a1] s0 (some (.int r9)) t9 := by
  refine Ct.of (by decide) (Nat.le_of_ble_eq_true rfl) ?_
  intro p e ms m below meth c X hlk hr
  have X : Cx E layM p ms m [.ref (ea E 0), .int a1].toArray c cX9_errs RX9 2 := X
  refine r_sub (L' := [(0, .ref (ea E 0)), (1, .int a1)]) [0, 1] rfl ?_
  unfold fX9_errs at h
  refine r_aload_n X dX9_errs_0 0 rfl rfl ?_
  refine r_getr X dX9_errs_1 i_X9 v_X9 lM_0 6 rfl (Nat.le_of_ble_eq_true rfl) g_780 ?_
  refine r_ldc X dX9_errs_4 g_878 ?_
  refine r_iload_n X dX9_errs_6 1 rfl rfl ?_
  refine r_isub X dX9_errs_7 ?_
  refine r_dup2 X dX9_errs_8 rfl rfl ?_
  obtain ⟨g1, v2, ev2, h⟩ := ld_ok h
  refine s_iald X dX9_errs_9 lM_5 g1 ev2 ?_
  refine r_iconst X dX9_errs_10 (v := 1) (by decide) ?_
  refine r_iadd X dX9_errs_11 ?_
  obtain ⟨g3, s4, es4, h⟩ := as_ok h
  refine s_iast X dX9_errs_12 lM_5 g3 es4 ?_
  refine r_iload_n X dX9_errs_13 1 rfl rfl ?_
  exact s_iret X hlk hr dX9_errs_14 h
/-! X9_held -/
theorem nX9_held : yX9_held.cls ≠ "java/lang/invoke/MethodHandle" ∧ yX9_held.cls ≠ "java/lang/invoke/VarHandle" ∧ (parseMethodDescriptor yX9_held.desc).map (fun d => d.parameters.length) = some 3 := by decide +kernel
theorem kX9_held {l : Launch} {E : EE} {p : Program} {e : Env} {ms : State} {m : MethodId} {args : Array Value} {below : List Frame} {meth : Method} {c : Code} {cc : ByteArray} {own : String} {nL pc idx d D : Nat} {Q : State → Prop} {L : List (Nat × Value)} {rest : List Value} {σ τ : St} {a0 : Int32} {a1 : Int32} {a2 : Int32} {r : Int32} (X : Cx E layM p ms m args c cc own nL) (hM : Ct l E layM yX9_held cX9_held 3 (some .int) d [.int a0, .int a1, .int a2] σ (some (.int r)) τ) (hd : decode cc pc = .ok (.invokestatic idx, 3)) (w1 : Cond.methodLink own idx yX9_held ∈ gw) (hR : d + 1 ≤ D) (hrs : (rest.map fun v => v.category).sum ≤ 8) (k : AW E layM p l e (rmD D) ms m args below meth c nL 0 0 Q (pc + 3) L (.int r :: rest) τ) : AW E layM p l e (rmD D) ms m args below meth c nL 0 0 Q pc L (.int a2 :: .int a1 :: .int a0 :: rest) σ :=
  s_callS X [.int a0, .int a1, .int a2] rest hM hd w1 g_996 g_77 g_997 nX9_held rfl rfl hrs (Nat.le_of_ble_eq_true rfl) hR k
def fX9_held (a0 : Int32) (a1 : Int32) (a2 : Int32) (s0 : St) : Option (Int32 × St) :=
    if a1 ≤ a0 then
    if a0 ≤ a2 then
    some (a0, s0)
    else
    some (a2, s0)
    else
    some (a1, s0)
set_option maxHeartbeats 4000000 in
set_option maxRecDepth 100000 in
theorem ctX9_held {l : Launch} {E : EE} {a0 : Int32} {a1 : Int32} {a2 : Int32} {s0 : St} {r9 : Int32} {t9 : St}  (h : fX9_held a0 a1 a2 s0 = some (r9, t9)) : Ct l E layM yX9_held cX9_held 3 (some .int) 0 [.int a0, .int a1, .int a2] s0 (some (.int r9)) t9 := by
  refine Ct.of (by decide) (Nat.le_of_ble_eq_true rfl) ?_
  intro p e ms m below meth c X hlk hr
  have X : Cx E layM p ms m [.int a0, .int a1, .int a2].toArray c cX9_held RX9 3 := X
  refine r_sub (L' := [(0, .int a0), (1, .int a1), (2, .int a2)]) [0, 1, 2] rfl ?_
  unfold fX9_held at h
  refine r_iload_n X dX9_held_0 0 rfl rfl ?_
  refine r_iload_n X dX9_held_1 1 rfl rfl ?_
  refine r_icmp_ge X 9 dX9_held_2 (by decide) (fun c2 => ?_) (fun c2 => ?_)
  · rw [if_pos c2] at h
    refine r_iload_n X dX9_held_9 0 rfl rfl ?_
    refine r_iload_n X dX9_held_10 2 rfl rfl ?_
    refine r_icmp_le X 18 dX9_held_11 (by decide) (fun c1 => ?_) (fun c1 => ?_)
    · rw [if_pos c1] at h
      refine r_iload_n X dX9_held_18 0 rfl rfl ?_
      exact s_iret X hlk hr dX9_held_19 h
    · rw [if_neg c1] at h
      refine r_iload_n X dX9_held_14 2 rfl rfl ?_
      refine r_goto X 19 dX9_held_15 (by decide) ?_
      exact s_iret X hlk hr dX9_held_19 h
  · rw [if_neg c2] at h
    refine r_iload_n X dX9_held_5 1 rfl rfl ?_
    refine r_goto X 19 dX9_held_6 (by decide) ?_
    exact s_iret X hlk hr dX9_held_19 h
/-! X9_moveAll -/
theorem nX9_moveAll : yX9_moveAll.cls ≠ "java/lang/invoke/MethodHandle" ∧ yX9_moveAll.cls ≠ "java/lang/invoke/VarHandle" ∧ (parseMethodDescriptor yX9_moveAll.desc).map (fun d => d.parameters.length) = some 2 := by decide +kernel
theorem kX9_moveAll {l : Launch} {E : EE} {p : Program} {e : Env} {ms : State} {m : MethodId} {args : Array Value} {below : List Frame} {meth : Method} {c : Code} {cc : ByteArray} {own : String} {nL pc idx d D : Nat} {Q : State → Prop} {L : List (Nat × Value)} {rest : List Value} {σ τ : St} {k1 : Nat} {k2 : Nat}  {fl : List (Option Nat)} (X : Cx E layM p ms m args c cc own nL) (hM : Ct l E layM yX9_moveAll cX9_moveAll 4 none d [.ref (ea E 0), .ref (ea E k1), .ref (ea E k2)] σ none τ) (hd : decode cc pc = .ok (.invokevirtual idx, 3)) (hlay : layM[0]? = some (.inl (8, fl))) (w1 : Cond.methodLink own idx yX9_moveAll ∈ gw) (hR : d + 1 ≤ D) (hrs : (rest.map fun v => v.category).sum ≤ 8) (k : AW E layM p l e (rmD D) ms m args below meth c nL 0 0 Q (pc + 3) L rest τ) : AW E layM p l e (rmD D) ms m args below meth c nL 0 0 Q pc L (.ref (ea E k2) :: .ref (ea E k1) :: .ref (ea E 0) :: rest) σ :=
  s_callV X [.ref (ea E k1), .ref (ea E k2)] rest hM hd v_X9 hlay w1 g_1029 g_45 g_77 g_1030 nX9_moveAll rfl rfl hrs (Nat.le_of_ble_eq_true rfl) hR k
def fX9_moveAll_2 (k1 n1 : Nat) (k2 n2 : Nat) : Nat → Int32 → St → Option (St)
  | 0, _, _ => none
  | n + 1, a3, s0 =>
    if 257 ≤ a3 then
    some s0
    else
    bd1 (ald s0 k1 n1 a3) fun v2 =>
    bd1 (ast s0 k2 n2 a3 v2) fun s4 =>
    fX9_moveAll_2 k1 n1 k2 n2 n (a3 + 1) s4
def fX9_moveAll (k1 n1 : Nat) (k2 n2 : Nat) (s0 : St) : Option (St) :=
    bd1 (fX9_moveAll_2 k1 n1 k2 n2 FU 0 s0) fun s6 =>
    some s6
set_option maxHeartbeats 4000000 in
set_option maxRecDepth 100000 in
theorem LX9_moveAll_2 {l : Launch} {E : EE} {p : Program} {e : Env} {ms : State} {m : MethodId} {args : Array Value} {below : List Frame} {meth : Method} {c : Code} {k1 n1 : Nat} {k2 n2 : Nat} {Q : State → Prop} (X : Cx E layM p ms m args c cX9_moveAll RX9 4) (hk1 : layM[k1]? = some (.inr (0, n1))) (hk2 : layM[k2]? = some (.inr (0, n2))) : ∀ (n : Nat) (a3 : Int32) (s0 : St)  (t8 : St), fX9_moveAll_2 k1 n1 k2 n2 n a3 s0 = some t8 → AW E layM p l e (rmD 0) ms m args below meth c 4 0 0 Q 21 [] [] t8 → AW E layM p l e (rmD 0) ms m args below meth c 4 0 0 Q 2 [(1, .ref (ea E k1)), (2, .ref (ea E k2)), (3, .int a3)] [] s0 := by
  intro n
  induction n with
  | zero =>
    intro a3 s0 t8 h hE
    cases h
  | succ n ih =>
    intro a3 s0 t8 h hE
    rw [fX9_moveAll_2] at h
    refine r_iload_n X dX9_moveAll_2 2 rfl rfl ?_
    refine r_sipush X dX9_moveAll_3 (v := 257) (by decide) ?_
    refine r_icmp_ge X 21 dX9_moveAll_6 (by decide) (fun c5 => ?_) (fun c5 => ?_)
    · rw [if_pos c5] at h
      refine r_sub (L' := []) [] rfl ?_
      cases h
      exact hE
    · rw [if_neg c5] at h
      refine r_aload_n X dX9_moveAll_9 1 rfl rfl ?_
      refine r_iload_n X dX9_moveAll_10 2 rfl rfl ?_
      refine r_aload_n X dX9_moveAll_11 0 rfl rfl ?_
      refine r_iload_n X dX9_moveAll_12 2 rfl rfl ?_
      obtain ⟨g1, v2, ev2, h⟩ := ld_ok h
      refine s_iald X dX9_moveAll_13 hk1 g1 ev2 ?_
      obtain ⟨g3, s4, es4, h⟩ := as_ok h
      refine s_iast X dX9_moveAll_14 hk2 g3 es4 ?_
      refine r_iinc (L' := [(1, .ref (ea E k1)), (2, .ref (ea E k2)), (3, .int (a3 + 1))]) (v := a3 + 1) X dX9_moveAll_15 2 rfl rfl [1, 2, 0] rfl (Nat.le_of_ble_eq_true rfl) ?_
      refine r_goto X 2 dX9_moveAll_18 (by decide) ?_
      exact ih _ _ _ h hE
set_option maxHeartbeats 4000000 in
set_option maxRecDepth 100000 in
theorem ctX9_moveAll {l : Launch} {E : EE} {k1 n1 : Nat} {k2 n2 : Nat} {s0 : St} {t9 : St} (hk1 : layM[k1]? = some (.inr (0, n1))) (hk2 : layM[k2]? = some (.inr (0, n2))) (h : fX9_moveAll k1 n1 k2 n2 s0 = some t9) : Ct l E layM yX9_moveAll cX9_moveAll 4 none 0 [.ref (ea E 0), .ref (ea E k1), .ref (ea E k2)] s0 none t9 := by
  refine Ct.of (by decide) (Nat.le_of_ble_eq_true rfl) ?_
  intro p e ms m below meth c X hlk hr
  have X : Cx E layM p ms m [.ref (ea E 0), .ref (ea E k1), .ref (ea E k2)].toArray c cX9_moveAll RX9 4 := X
  refine r_sub (L' := [(1, .ref (ea E k1)), (2, .ref (ea E k2))]) [1, 2] rfl ?_
  unfold fX9_moveAll at h
  refine r_iconst X dX9_moveAll_0 (v := 0) (by decide) ?_
  refine r_istore_n (L' := [(1, .ref (ea E k1)), (2, .ref (ea E k2)), (3, .int 0)]) X dX9_moveAll_1 [1, 2, 0] rfl rfl (Nat.le_of_ble_eq_true rfl) ?_
  obtain ⟨s6, eo, h⟩ := bd1_ok h
  refine LX9_moveAll_2 X hk1 hk2 FU _ _ _ eo ?_
  exact s_vret X hlk hr dX9_moveAll_21 h
/-! X9_its -/
theorem nX9_its : yX9_its.cls ≠ "java/lang/invoke/MethodHandle" ∧ yX9_its.cls ≠ "java/lang/invoke/VarHandle" ∧ (parseMethodDescriptor yX9_its.desc).map (fun d => d.parameters.length) = some 2 := by decide +kernel
theorem kX9_its {l : Launch} {E : EE} {p : Program} {e : Env} {ms : State} {m : MethodId} {args : Array Value} {below : List Frame} {meth : Method} {c : Code} {cc : ByteArray} {own : String} {nL pc idx d D : Nat} {Q : State → Prop} {L : List (Nat × Value)} {rest : List Value} {σ τ : St} {a1 : Int32} {a2 : Int32} {r : Int32} {fl : List (Option Nat)} (X : Cx E layM p ms m args c cc own nL) (hM : Ct l E layM yX9_its cX9_its 3 (some .int) d [.ref (ea E 0), .int a1, .int a2] σ (some (.int r)) τ) (hd : decode cc pc = .ok (.invokevirtual idx, 3)) (hlay : layM[0]? = some (.inl (8, fl))) (w1 : Cond.methodLink own idx yX9_its ∈ gw) (hR : d + 1 ≤ D) (hrs : (rest.map fun v => v.category).sum ≤ 8) (k : AW E layM p l e (rmD D) ms m args below meth c nL 0 0 Q (pc + 3) L (.int r :: rest) τ) : AW E layM p l e (rmD D) ms m args below meth c nL 0 0 Q pc L (.int a2 :: .int a1 :: .ref (ea E 0) :: rest) σ :=
  s_callV X [.int a1, .int a2] rest hM hd v_X9 hlay w1 g_918 g_26 g_77 g_919 nX9_its rfl rfl hrs (Nat.le_of_ble_eq_true rfl) hR k
def fX9_its (a1 : Int32) (a2 : Int32) (s0 : St) : Option (Int32 × St) :=
    bd1 (ald s0 1 257 ((47 + (5 * a1)) + a2)) fun v2 =>
    some (v2, s0)
set_option maxHeartbeats 4000000 in
set_option maxRecDepth 100000 in
theorem ctX9_its {l : Launch} {E : EE} {a1 : Int32} {a2 : Int32} {s0 : St} {r9 : Int32} {t9 : St}  (h : fX9_its a1 a2 s0 = some (r9, t9)) : Ct l E layM yX9_its cX9_its 3 (some .int) 0 [.ref (ea E 0), .int a1, .int a2] s0 (some (.int r9)) t9 := by
  refine Ct.of (by decide) (Nat.le_of_ble_eq_true rfl) ?_
  intro p e ms m below meth c X hlk hr
  have X : Cx E layM p ms m [.ref (ea E 0), .int a1, .int a2].toArray c cX9_its RX9 3 := X
  refine r_sub (L' := [(0, .ref (ea E 0)), (1, .int a1), (2, .int a2)]) [0, 1, 2] rfl ?_
  unfold fX9_its at h
  refine r_aload_n X dX9_its_0 0 rfl rfl ?_
  refine r_getr X dX9_its_1 i_X9 v_X9 lM_0 0 rfl (Nat.le_of_ble_eq_true rfl) g_774 ?_
  refine r_bipush X dX9_its_4 (v := 47) (by decide) ?_
  refine r_iconst X dX9_its_6 (v := 5) (by decide) ?_
  refine r_iload_n X dX9_its_7 1 rfl rfl ?_
  refine r_imul X dX9_its_8 ?_
  refine r_iadd X dX9_its_9 ?_
  refine r_iload_n X dX9_its_10 2 rfl rfl ?_
  refine r_iadd X dX9_its_11 ?_
  obtain ⟨g1, v2, ev2, h⟩ := ld_ok h
  refine s_iald X dX9_its_12 lM_1 g1 ev2 ?_
  exact s_iret X hlk hr dX9_its_13 h
/-! X9_puts -/
theorem nX9_puts : yX9_puts.cls ≠ "java/lang/invoke/MethodHandle" ∧ yX9_puts.cls ≠ "java/lang/invoke/VarHandle" ∧ (parseMethodDescriptor yX9_puts.desc).map (fun d => d.parameters.length) = some 3 := by decide +kernel
theorem kX9_puts {l : Launch} {E : EE} {p : Program} {e : Env} {ms : State} {m : MethodId} {args : Array Value} {below : List Frame} {meth : Method} {c : Code} {cc : ByteArray} {own : String} {nL pc idx d D : Nat} {Q : State → Prop} {L : List (Nat × Value)} {rest : List Value} {σ τ : St} {a1 : Int32} {a2 : Int32} {a3 : Int32}  {fl : List (Option Nat)} (X : Cx E layM p ms m args c cc own nL) (hM : Ct l E layM yX9_puts cX9_puts 4 none d [.ref (ea E 0), .int a1, .int a2, .int a3] σ none τ) (hd : decode cc pc = .ok (.invokevirtual idx, 3)) (hlay : layM[0]? = some (.inl (8, fl))) (w1 : Cond.methodLink own idx yX9_puts ∈ gw) (hR : d + 1 ≤ D) (hrs : (rest.map fun v => v.category).sum ≤ 8) (k : AW E layM p l e (rmD D) ms m args below meth c nL 0 0 Q (pc + 3) L rest τ) : AW E layM p l e (rmD D) ms m args below meth c nL 0 0 Q pc L (.int a3 :: .int a2 :: .int a1 :: .ref (ea E 0) :: rest) σ :=
  s_callV X [.int a1, .int a2, .int a3] rest hM hd v_X9 hlay w1 g_906 g_24 g_77 g_907 nX9_puts rfl rfl hrs (Nat.le_of_ble_eq_true rfl) hR k
def fX9_puts (a1 : Int32) (a2 : Int32) (a3 : Int32) (s0 : St) : Option (St) :=
    bd1 (ast s0 1 257 ((47 + (5 * a1)) + a2) a3) fun s2 =>
    some s2
set_option maxHeartbeats 4000000 in
set_option maxRecDepth 100000 in
theorem ctX9_puts {l : Launch} {E : EE} {a1 : Int32} {a2 : Int32} {a3 : Int32} {s0 : St} {t9 : St}  (h : fX9_puts a1 a2 a3 s0 = some t9) : Ct l E layM yX9_puts cX9_puts 4 none 0 [.ref (ea E 0), .int a1, .int a2, .int a3] s0 none t9 := by
  refine Ct.of (by decide) (Nat.le_of_ble_eq_true rfl) ?_
  intro p e ms m below meth c X hlk hr
  have X : Cx E layM p ms m [.ref (ea E 0), .int a1, .int a2, .int a3].toArray c cX9_puts RX9 4 := X
  refine r_sub (L' := [(0, .ref (ea E 0)), (1, .int a1), (2, .int a2), (3, .int a3)]) [0, 1, 2, 3] rfl ?_
  unfold fX9_puts at h
  refine r_aload_n X dX9_puts_0 0 rfl rfl ?_
  refine r_getr X dX9_puts_1 i_X9 v_X9 lM_0 0 rfl (Nat.le_of_ble_eq_true rfl) g_774 ?_
  refine r_bipush X dX9_puts_4 (v := 47) (by decide) ?_
  refine r_iconst X dX9_puts_6 (v := 5) (by decide) ?_
  refine r_iload_n X dX9_puts_7 1 rfl rfl ?_
  refine r_imul X dX9_puts_8 ?_
  refine r_iadd X dX9_puts_9 ?_
  refine r_iload_n X dX9_puts_10 2 rfl rfl ?_
  refine r_iadd X dX9_puts_11 ?_
  refine r_iload_n X dX9_puts_12 3 rfl rfl ?_
  obtain ⟨g1, s2, es2, h⟩ := as_ok h
  refine s_iast X dX9_puts_13 lM_1 g1 es2 ?_
  exact s_vret X hlk hr dX9_puts_14 h
/-! X9_isDiner -/
theorem nX9_isDiner : yX9_isDiner.cls ≠ "java/lang/invoke/MethodHandle" ∧ yX9_isDiner.cls ≠ "java/lang/invoke/VarHandle" ∧ (parseMethodDescriptor yX9_isDiner.desc).map (fun d => d.parameters.length) = some 1 := by decide +kernel
theorem kX9_isDiner {l : Launch} {E : EE} {p : Program} {e : Env} {ms : State} {m : MethodId} {args : Array Value} {below : List Frame} {meth : Method} {c : Code} {cc : ByteArray} {own : String} {nL pc idx d D : Nat} {Q : State → Prop} {L : List (Nat × Value)} {rest : List Value} {σ τ : St} {a1 : Int32} {r : Int32} {fl : List (Option Nat)} (X : Cx E layM p ms m args c cc own nL) (hM : Ct l E layM yX9_isDiner cX9_isDiner 2 (some .boolean) d [.ref (ea E 0), .int a1] σ (some (.int r)) τ) (hd : decode cc pc = .ok (.invokevirtual idx, 3)) (hlay : layM[0]? = some (.inl (8, fl))) (w1 : Cond.methodLink own idx yX9_isDiner ∈ gw) (hR : d + 1 ≤ D) (hrs : (rest.map fun v => v.category).sum ≤ 8) (k : AW E layM p l e (rmD D) ms m args below meth c nL 0 0 Q (pc + 3) L (.int r :: rest) τ) : AW E layM p l e (rmD D) ms m args below meth c nL 0 0 Q pc L (.int a1 :: .ref (ea E 0) :: rest) σ :=
  s_callV X [.int a1] rest hM hd v_X9 hlay w1 g_914 g_25 g_77 g_915 nX9_isDiner rfl rfl hrs (Nat.le_of_ble_eq_true rfl) hR k
def fX9_isDiner (a1 : Int32) (s0 : St) : Option (Int32 × St) :=
    bd1 (ald s0 1 257 2) fun v2 =>
    bd2 (fX9_in a1 0 (v2 - 1) s0) fun u5 s3 =>
    gb u5 <| some (u5, s3)
set_option maxHeartbeats 4000000 in
set_option maxRecDepth 100000 in
theorem ctX9_isDiner {l : Launch} {E : EE} {a1 : Int32} {s0 : St} {r9 : Int32} {t9 : St}  (h : fX9_isDiner a1 s0 = some (r9, t9)) : Ct l E layM yX9_isDiner cX9_isDiner 2 (some .boolean) 1 [.ref (ea E 0), .int a1] s0 (some (.int r9)) t9 := by
  refine Ct.of (by decide) (Nat.le_of_ble_eq_true rfl) ?_
  intro p e ms m below meth c X hlk hr
  have X : Cx E layM p ms m [.ref (ea E 0), .int a1].toArray c cX9_isDiner RX9 2 := X
  refine r_sub (L' := [(0, .ref (ea E 0)), (1, .int a1)]) [0, 1] rfl ?_
  unfold fX9_isDiner at h
  refine r_iload_n X dX9_isDiner_0 1 rfl rfl ?_
  refine r_iconst X dX9_isDiner_1 (v := 0) (by decide) ?_
  refine r_aload_n X dX9_isDiner_2 0 rfl rfl ?_
  refine r_getr X dX9_isDiner_3 i_X9 v_X9 lM_0 0 rfl (Nat.le_of_ble_eq_true rfl) g_774 ?_
  refine r_iconst X dX9_isDiner_6 (v := 2) (by decide) ?_
  obtain ⟨g1, v2, ev2, h⟩ := ld_ok h
  refine s_iald X dX9_isDiner_7 lM_1 g1 ev2 ?_
  refine r_iconst X dX9_isDiner_8 (v := 1) (by decide) ?_
  refine r_isub X dX9_isDiner_9 ?_
  obtain ⟨u5, s3, e4, h⟩ := bd2_ok h
  refine kX9_in X (ctX9_in e4) dX9_isDiner_10 g_866 (Nat.le_of_ble_eq_true rfl) (Nat.le_of_ble_eq_true rfl) ?_
  obtain ⟨g6, h⟩ := gb_ok h
  exact s_zret X hlk hr g6.1 dX9_isDiner_13 h
/-! X9_isCourse -/
theorem nX9_isCourse : yX9_isCourse.cls ≠ "java/lang/invoke/MethodHandle" ∧ yX9_isCourse.cls ≠ "java/lang/invoke/VarHandle" ∧ (parseMethodDescriptor yX9_isCourse.desc).map (fun d => d.parameters.length) = some 1 := by decide +kernel
theorem kX9_isCourse {l : Launch} {E : EE} {p : Program} {e : Env} {ms : State} {m : MethodId} {args : Array Value} {below : List Frame} {meth : Method} {c : Code} {cc : ByteArray} {own : String} {nL pc idx d D : Nat} {Q : State → Prop} {L : List (Nat × Value)} {rest : List Value} {σ τ : St} {a0 : Int32} {r : Int32} (X : Cx E layM p ms m args c cc own nL) (hM : Ct l E layM yX9_isCourse cX9_isCourse 1 (some .boolean) d [.int a0] σ (some (.int r)) τ) (hd : decode cc pc = .ok (.invokestatic idx, 3)) (w1 : Cond.methodLink own idx yX9_isCourse ∈ gw) (hR : d + 1 ≤ D) (hrs : (rest.map fun v => v.category).sum ≤ 8) (k : AW E layM p l e (rmD D) ms m args below meth c nL 0 0 Q (pc + 3) L (.int r :: rest) τ) : AW E layM p l e (rmD D) ms m args below meth c nL 0 0 Q pc L (.int a0 :: rest) σ :=
  s_callS X [.int a0] rest hM hd w1 g_892 g_77 g_893 nX9_isCourse rfl rfl hrs (Nat.le_of_ble_eq_true rfl) hR k
def fX9_isCourse (a0 : Int32) (s0 : St) : Option (Int32 × St) :=
    bd2 (fX9_in a0 0 5 s0) fun u3 s1 =>
    gb u3 <| some (u3, s1)
set_option maxHeartbeats 4000000 in
set_option maxRecDepth 100000 in
theorem ctX9_isCourse {l : Launch} {E : EE} {a0 : Int32} {s0 : St} {r9 : Int32} {t9 : St}  (h : fX9_isCourse a0 s0 = some (r9, t9)) : Ct l E layM yX9_isCourse cX9_isCourse 1 (some .boolean) 1 [.int a0] s0 (some (.int r9)) t9 := by
  refine Ct.of (by decide) (Nat.le_of_ble_eq_true rfl) ?_
  intro p e ms m below meth c X hlk hr
  have X : Cx E layM p ms m [.int a0].toArray c cX9_isCourse RX9 1 := X
  refine r_sub (L' := [(0, .int a0)]) [0] rfl ?_
  unfold fX9_isCourse at h
  refine r_iload_n X dX9_isCourse_0 0 rfl rfl ?_
  refine r_iconst X dX9_isCourse_1 (v := 0) (by decide) ?_
  refine r_iconst X dX9_isCourse_2 (v := 5) (by decide) ?_
  obtain ⟨u3, s1, e2, h⟩ := bd2_ok h
  refine kX9_in X (ctX9_in e2) dX9_isCourse_3 g_866 (Nat.le_of_ble_eq_true rfl) (Nat.le_of_ble_eq_true rfl) ?_
  obtain ⟨g4, h⟩ := gb_ok h
  exact s_zret X hlk hr g4.1 dX9_isCourse_6 h
/-! X9_isDish -/
theorem nX9_isDish : yX9_isDish.cls ≠ "java/lang/invoke/MethodHandle" ∧ yX9_isDish.cls ≠ "java/lang/invoke/VarHandle" ∧ (parseMethodDescriptor yX9_isDish.desc).map (fun d => d.parameters.length) = some 1 := by decide +kernel
theorem kX9_isDish {l : Launch} {E : EE} {p : Program} {e : Env} {ms : State} {m : MethodId} {args : Array Value} {below : List Frame} {meth : Method} {c : Code} {cc : ByteArray} {own : String} {nL pc idx d D : Nat} {Q : State → Prop} {L : List (Nat × Value)} {rest : List Value} {σ τ : St} {a0 : Int32} {r : Int32} (X : Cx E layM p ms m args c cc own nL) (hM : Ct l E layM yX9_isDish cX9_isDish 1 (some .boolean) d [.int a0] σ (some (.int r)) τ) (hd : decode cc pc = .ok (.invokestatic idx, 3)) (w1 : Cond.methodLink own idx yX9_isDish ∈ gw) (hR : d + 1 ≤ D) (hrs : (rest.map fun v => v.category).sum ≤ 8) (k : AW E layM p l e (rmD D) ms m args below meth c nL 0 0 Q (pc + 3) L (.int r :: rest) τ) : AW E layM p l e (rmD D) ms m args below meth c nL 0 0 Q pc L (.int a0 :: rest) σ :=
  s_callS X [.int a0] rest hM hd w1 g_864 g_77 g_865 nX9_isDish rfl rfl hrs (Nat.le_of_ble_eq_true rfl) hR k
def fX9_isDish (a0 : Int32) (s0 : St) : Option (Int32 × St) :=
    bd2 (fX9_in a0 0 15 s0) fun u3 s1 =>
    gb u3 <| some (u3, s1)
set_option maxHeartbeats 4000000 in
set_option maxRecDepth 100000 in
theorem ctX9_isDish {l : Launch} {E : EE} {a0 : Int32} {s0 : St} {r9 : Int32} {t9 : St}  (h : fX9_isDish a0 s0 = some (r9, t9)) : Ct l E layM yX9_isDish cX9_isDish 1 (some .boolean) 1 [.int a0] s0 (some (.int r9)) t9 := by
  refine Ct.of (by decide) (Nat.le_of_ble_eq_true rfl) ?_
  intro p e ms m below meth c X hlk hr
  have X : Cx E layM p ms m [.int a0].toArray c cX9_isDish RX9 1 := X
  refine r_sub (L' := [(0, .int a0)]) [0] rfl ?_
  unfold fX9_isDish at h
  refine r_iload_n X dX9_isDish_0 0 rfl rfl ?_
  refine r_iconst X dX9_isDish_1 (v := 0) (by decide) ?_
  refine r_bipush X dX9_isDish_2 (v := 15) (by decide) ?_
  obtain ⟨u3, s1, e2, h⟩ := bd2_ok h
  refine kX9_in X (ctX9_in e2) dX9_isDish_4 g_866 (Nat.le_of_ble_eq_true rfl) (Nat.le_of_ble_eq_true rfl) ?_
  obtain ⟨g4, h⟩ := gb_ok h
  exact s_zret X hlk hr g4.1 dX9_isDish_7 h
/-! X9_becomes -/
theorem nX9_becomes : yX9_becomes.cls ≠ "java/lang/invoke/MethodHandle" ∧ yX9_becomes.cls ≠ "java/lang/invoke/VarHandle" ∧ (parseMethodDescriptor yX9_becomes.desc).map (fun d => d.parameters.length) = some 2 := by decide +kernel
theorem kX9_becomes {l : Launch} {E : EE} {p : Program} {e : Env} {ms : State} {m : MethodId} {args : Array Value} {below : List Frame} {meth : Method} {c : Code} {cc : ByteArray} {own : String} {nL pc idx d D : Nat} {Q : State → Prop} {L : List (Nat × Value)} {rest : List Value} {σ τ : St} {a1 : Int32} {a2 : Int32} {r : Int32} {fl : List (Option Nat)} (X : Cx E layM p ms m args c cc own nL) (hM : Ct l E layM yX9_becomes cX9_becomes 4 (some .int) d [.ref (ea E 0), .int a1, .int a2] σ (some (.int r)) τ) (hd : decode cc pc = .ok (.invokevirtual idx, 3)) (hlay : layM[0]? = some (.inl (8, fl))) (w1 : Cond.methodLink own idx yX9_becomes ∈ gw) (hR : d + 1 ≤ D) (hrs : (rest.map fun v => v.category).sum ≤ 8) (k : AW E layM p l e (rmD D) ms m args below meth c nL 0 0 Q (pc + 3) L (.int r :: rest) τ) : AW E layM p l e (rmD D) ms m args below meth c nL 0 0 Q pc L (.int a2 :: .int a1 :: .ref (ea E 0) :: rest) σ :=
  s_callV X [.int a1, .int a2] rest hM hd v_X9 hlay w1 g_871 g_21 g_77 g_872 nX9_becomes rfl rfl hrs (Nat.le_of_ble_eq_true rfl) hR k
def fX9_becomes (a1 : Int32) (a2 : Int32) (s0 : St) : Option (Int32 × St) :=
    bd1 (ald s0 1 257 a1) fun v2 =>
    bd1 (ast s0 1 257 a1 a2) fun s4 =>
    some (v2, s4)
set_option maxHeartbeats 4000000 in
set_option maxRecDepth 100000 in
theorem ctX9_becomes {l : Launch} {E : EE} {a1 : Int32} {a2 : Int32} {s0 : St} {r9 : Int32} {t9 : St}  (h : fX9_becomes a1 a2 s0 = some (r9, t9)) : Ct l E layM yX9_becomes cX9_becomes 4 (some .int) 0 [.ref (ea E 0), .int a1, .int a2] s0 (some (.int r9)) t9 := by
  refine Ct.of (by decide) (Nat.le_of_ble_eq_true rfl) ?_
  intro p e ms m below meth c X hlk hr
  have X : Cx E layM p ms m [.ref (ea E 0), .int a1, .int a2].toArray c cX9_becomes RX9 4 := X
  refine r_sub (L' := [(0, .ref (ea E 0)), (1, .int a1), (2, .int a2)]) [0, 1, 2] rfl ?_
  unfold fX9_becomes at h
  refine r_aload_n X dX9_becomes_0 0 rfl rfl ?_
  refine r_getr X dX9_becomes_1 i_X9 v_X9 lM_0 0 rfl (Nat.le_of_ble_eq_true rfl) g_774 ?_
  refine r_iload_n X dX9_becomes_4 1 rfl rfl ?_
  obtain ⟨g1, v2, ev2, h⟩ := ld_ok h
  refine s_iald X dX9_becomes_5 lM_1 g1 ev2 ?_
  refine r_istore_n (L' := [(0, .ref (ea E 0)), (1, .int a1), (2, .int a2), (3, .int v2)]) X dX9_becomes_6 [1, 2, 3, 0] rfl rfl (Nat.le_of_ble_eq_true rfl) ?_
  refine r_aload_n X dX9_becomes_7 0 rfl rfl ?_
  refine r_getr X dX9_becomes_8 i_X9 v_X9 lM_0 0 rfl (Nat.le_of_ble_eq_true rfl) g_774 ?_
  refine r_iload_n X dX9_becomes_11 1 rfl rfl ?_
  refine r_iload_n X dX9_becomes_12 2 rfl rfl ?_
  obtain ⟨g3, s4, es4, h⟩ := as_ok h
  refine s_iast X dX9_becomes_13 lM_1 g3 es4 ?_
  refine r_iload_n X dX9_becomes_14 3 rfl rfl ?_
  exact s_iret X hlk hr dX9_becomes_15 h
/-! X9_dish -/
theorem nX9_dish : yX9_dish.cls ≠ "java/lang/invoke/MethodHandle" ∧ yX9_dish.cls ≠ "java/lang/invoke/VarHandle" ∧ (parseMethodDescriptor yX9_dish.desc).map (fun d => d.parameters.length) = some 3 := by decide +kernel
theorem kX9_dish {l : Launch} {E : EE} {p : Program} {e : Env} {ms : State} {m : MethodId} {args : Array Value} {below : List Frame} {meth : Method} {c : Code} {cc : ByteArray} {own : String} {nL pc idx d D : Nat} {Q : State → Prop} {L : List (Nat × Value)} {rest : List Value} {σ τ : St} {a1 : Int32} {a2 : Int32} {a3 : Int32} {r : Int32} {fl : List (Option Nat)} (X : Cx E layM p ms m args c cc own nL) (hM : Ct l E layM yX9_dish cX9_dish 4 (some .int) d [.ref (ea E 0), .int a1, .int a2, .int a3] σ (some (.int r)) τ) (hd : decode cc pc = .ok (.invokevirtual idx, 3)) (hlay : layM[0]? = some (.inl (8, fl))) (w1 : Cond.methodLink own idx yX9_dish ∈ gw) (hR : d + 1 ≤ D) (hrs : (rest.map fun v => v.category).sum ≤ 8) (k : AW E layM p l e (rmD D) ms m args below meth c nL 0 0 Q (pc + 3) L (.int r :: rest) τ) : AW E layM p l e (rmD D) ms m args below meth c nL 0 0 Q pc L (.int a3 :: .int a2 :: .int a1 :: .ref (ea E 0) :: rest) σ :=
  s_callV X [.int a1, .int a2, .int a3] rest hM hd v_X9 hlay w1 g_860 g_861 g_77 g_862 nX9_dish rfl rfl hrs (Nat.le_of_ble_eq_true rfl) hR k
def fX9_dish (a1 : Int32) (a2 : Int32) (a3 : Int32) (s0 : St) : Option (Int32 × St) :=
    bd2 (fX9_isDish a1 s0) fun u3 s1 =>
    jn (fun (s4 : St) =>
    bd2 (fX9_errs (-1000000001) s4) fun u7 s5 =>
    some (u7, s5)) fun j42 =>
    if u3 = 0 then
    j42 s1
    else
    bd2 (fX9_in a2 0 1 s1) fun u10 s8 =>
    if u10 = 0 then
    j42 s8
    else
    bd2 (fX9_in a3 0 9 s8) fun u13 s11 =>
    if u13 = 0 then
    j42 s11
    else
    bd2 (fX9_becomes ((9 + (2 * a1)) + a2) a3 s11) fun u16 s14 =>
    some (u16, s14)
set_option maxHeartbeats 4000000 in
set_option maxRecDepth 100000 in
theorem ctX9_dish {l : Launch} {E : EE} {a1 : Int32} {a2 : Int32} {a3 : Int32} {s0 : St} {r9 : Int32} {t9 : St}  (h : fX9_dish a1 a2 a3 s0 = some (r9, t9)) : Ct l E layM yX9_dish cX9_dish 4 (some .int) 2 [.ref (ea E 0), .int a1, .int a2, .int a3] s0 (some (.int r9)) t9 := by
  refine Ct.of (by decide) (Nat.le_of_ble_eq_true rfl) ?_
  intro p e ms m below meth c X hlk hr
  have X : Cx E layM p ms m [.ref (ea E 0), .int a1, .int a2, .int a3].toArray c cX9_dish RX9 4 := X
  refine r_sub (L' := [(0, .ref (ea E 0)), (1, .int a1), (2, .int a2), (3, .int a3)]) [0, 1, 2, 3] rfl ?_
  unfold fX9_dish at h
  refine r_iload_n X dX9_dish_0 1 rfl rfl ?_
  obtain ⟨u3, s1, e2, h⟩ := bd2_ok h
  refine kX9_isDish X (ctX9_isDish e2) dX9_dish_1 g_863 (Nat.le_of_ble_eq_true rfl) (Nat.le_of_ble_eq_true rfl) ?_
  obtain ⟨j42, ej42, h⟩ := jn1_ok h
  have hj42 : ∀ (s4 : St), j42 s4 = some (r9, t9) → AW E layM p l e (rmD 2) ms m [.ref (ea E 0), .int a1, .int a2, .int a3].toArray below meth c 4 0 0 (MQc E layM below [.ref (ea E 0), .int a1, .int a2, .int a3].toArray ms (some (.int r9)) t9) 42 [(0, .ref (ea E 0))] [] s4 := by
    intro s4 h
    rw [ej42] at h
    refine r_aload_n X dX9_dish_42 0 rfl rfl ?_
    refine r_ldc X dX9_dish_43 g_873 ?_
    obtain ⟨u7, s5, e6, h⟩ := bd2_ok h
    refine kX9_errs X (ctX9_errs e6) dX9_dish_45 lM_0 g_874 (Nat.le_of_ble_eq_true rfl) (Nat.le_of_ble_eq_true rfl) ?_
    exact s_iret X hlk hr dX9_dish_48 h
  refine r_if_eq X 42 dX9_dish_4 (by decide) (fun c19 => ?_) (fun c19 => ?_)
  · rw [if_pos c19] at h
    refine r_sub (L' := [(0, .ref (ea E 0))]) [0] rfl ?_
    exact hj42 _ h
  · rw [if_neg c19] at h
    refine r_iload_n X dX9_dish_7 2 rfl rfl ?_
    refine r_iconst X dX9_dish_8 (v := 0) (by decide) ?_
    refine r_iconst X dX9_dish_9 (v := 1) (by decide) ?_
    obtain ⟨u10, s8, e9, h⟩ := bd2_ok h
    refine kX9_in X (ctX9_in e9) dX9_dish_10 g_866 (Nat.le_of_ble_eq_true rfl) (Nat.le_of_ble_eq_true rfl) ?_
    refine r_if_eq X 42 dX9_dish_13 (by decide) (fun c18 => ?_) (fun c18 => ?_)
    · rw [if_pos c18] at h
      refine r_sub (L' := [(0, .ref (ea E 0))]) [0] rfl ?_
      exact hj42 _ h
    · rw [if_neg c18] at h
      refine r_iload_n X dX9_dish_16 3 rfl rfl ?_
      refine r_iconst X dX9_dish_17 (v := 0) (by decide) ?_
      refine r_bipush X dX9_dish_18 (v := 9) (by decide) ?_
      obtain ⟨u13, s11, e12, h⟩ := bd2_ok h
      refine kX9_in X (ctX9_in e12) dX9_dish_20 g_866 (Nat.le_of_ble_eq_true rfl) (Nat.le_of_ble_eq_true rfl) ?_
      refine r_if_eq X 42 dX9_dish_23 (by decide) (fun c17 => ?_) (fun c17 => ?_)
      · rw [if_pos c17] at h
        refine r_sub (L' := [(0, .ref (ea E 0))]) [0] rfl ?_
        exact hj42 _ h
      · rw [if_neg c17] at h
        refine r_aload_n X dX9_dish_26 0 rfl rfl ?_
        refine r_bipush X dX9_dish_27 (v := 9) (by decide) ?_
        refine r_iconst X dX9_dish_29 (v := 2) (by decide) ?_
        refine r_iload_n X dX9_dish_30 1 rfl rfl ?_
        refine r_imul X dX9_dish_31 ?_
        refine r_iadd X dX9_dish_32 ?_
        refine r_iload_n X dX9_dish_33 2 rfl rfl ?_
        refine r_iadd X dX9_dish_34 ?_
        refine r_iload_n X dX9_dish_35 3 rfl rfl ?_
        obtain ⟨u16, s14, e15, h⟩ := bd2_ok h
        refine kX9_becomes X (ctX9_becomes e15) dX9_dish_36 lM_0 g_869 (Nat.le_of_ble_eq_true rfl) (Nat.le_of_ble_eq_true rfl) ?_
        refine r_goto X 48 dX9_dish_39 (by decide) ?_
        exact s_iret X hlk hr dX9_dish_48 h
/-! X9_coursesOf -/
theorem nX9_coursesOf : yX9_coursesOf.cls ≠ "java/lang/invoke/MethodHandle" ∧ yX9_coursesOf.cls ≠ "java/lang/invoke/VarHandle" ∧ (parseMethodDescriptor yX9_coursesOf.desc).map (fun d => d.parameters.length) = some 1 := by decide +kernel
theorem kX9_coursesOf {l : Launch} {E : EE} {p : Program} {e : Env} {ms : State} {m : MethodId} {args : Array Value} {below : List Frame} {meth : Method} {c : Code} {cc : ByteArray} {own : String} {nL pc idx d D : Nat} {Q : State → Prop} {L : List (Nat × Value)} {rest : List Value} {σ τ : St} {a1 : Int32} {r : Int32} {fl : List (Option Nat)} (X : Cx E layM p ms m args c cc own nL) (hM : Ct l E layM yX9_coursesOf cX9_coursesOf 4 (some .int) d [.ref (ea E 0), .int a1] σ (some (.int r)) τ) (hd : decode cc pc = .ok (.invokevirtual idx, 3)) (hlay : layM[0]? = some (.inl (8, fl))) (w1 : Cond.methodLink own idx yX9_coursesOf ∈ gw) (hR : d + 1 ≤ D) (hrs : (rest.map fun v => v.category).sum ≤ 8) (k : AW E layM p l e (rmD D) ms m args below meth c nL 0 0 Q (pc + 3) L (.int r :: rest) τ) : AW E layM p l e (rmD D) ms m args below meth c nL 0 0 Q pc L (.int a1 :: .ref (ea E 0) :: rest) σ :=
  s_callV X [.int a1] rest hM hd v_X9 hlay w1 g_885 g_23 g_77 g_886 nX9_coursesOf rfl rfl hrs (Nat.le_of_ble_eq_true rfl) hR k
def fX9_coursesOf_4 (a1 : Int32) : Nat → Int32 → Int32 → St → Option (Int32 × St)
  | 0, _, _, _ => none
  | n + 1, a2, a3, s0 =>
    if 6 ≤ a3 then
    some (a2, s0)
    else
    bd1 (ald s0 1 257 (41 + a3)) fun v2 =>
    jn (fun (w3 : Int32) =>
    fX9_coursesOf_4 a1 n (a2 ||| w3) (a3 + 1) s0) fun j31 =>
    if v2 = a1 then
    j31 (shl 1 a3)
    else
    j31 0
def fX9_coursesOf (a1 : Int32) (s0 : St) : Option (Int32 × St) :=
    bd2 (fX9_coursesOf_4 a1 FU 0 0 s0) fun v7 s6 =>
    some (v7, s6)
set_option maxHeartbeats 4000000 in
set_option maxRecDepth 100000 in
theorem LX9_coursesOf_4 {l : Launch} {E : EE} {p : Program} {e : Env} {ms : State} {m : MethodId} {args : Array Value} {below : List Frame} {meth : Method} {c : Code} {a1 : Int32} {Q : State → Prop} (X : Cx E layM p ms m args c cX9_coursesOf RX9 4) : ∀ (n : Nat) (a2 : Int32) (a3 : Int32) (s0 : St) (q2 : Int32) (t8 : St), fX9_coursesOf_4 a1 n a2 a3 s0 = some (q2, t8) → AW E layM p l e (rmD 0) ms m args below meth c 4 0 0 Q 39 [(2, .int q2)] [] t8 → AW E layM p l e (rmD 0) ms m args below meth c 4 0 0 Q 4 [(0, .ref (ea E 0)), (1, .int a1), (2, .int a2), (3, .int a3)] [] s0 := by
  intro n
  induction n with
  | zero =>
    intro a2 a3 s0 q2 t8 h hE
    cases h
  | succ n ih =>
    intro a2 a3 s0 q2 t8 h hE
    rw [fX9_coursesOf_4] at h
    refine r_iload_n X dX9_coursesOf_4 3 rfl rfl ?_
    refine r_bipush X dX9_coursesOf_5 (v := 6) (by decide) ?_
    refine r_icmp_ge X 39 dX9_coursesOf_7 (by decide) (fun c5 => ?_) (fun c5 => ?_)
    · rw [if_pos c5] at h
      refine r_sub (L' := [(2, .int a2)]) [2] rfl ?_
      cases h
      exact hE
    · rw [if_neg c5] at h
      refine r_iload_n X dX9_coursesOf_10 2 rfl rfl ?_
      refine r_aload_n X dX9_coursesOf_11 0 rfl rfl ?_
      refine r_getr X dX9_coursesOf_12 i_X9 v_X9 lM_0 0 rfl (Nat.le_of_ble_eq_true rfl) g_774 ?_
      refine r_bipush X dX9_coursesOf_15 (v := 41) (by decide) ?_
      refine r_iload_n X dX9_coursesOf_17 3 rfl rfl ?_
      refine r_iadd X dX9_coursesOf_18 ?_
      obtain ⟨g1, v2, ev2, h⟩ := ld_ok h
      refine s_iald X dX9_coursesOf_19 lM_1 g1 ev2 ?_
      refine r_iload_n X dX9_coursesOf_20 1 rfl rfl ?_
      obtain ⟨j31, ej31, h⟩ := jn1_ok h
      have hj31 : ∀ (w3 : Int32), j31 w3 = some (q2, t8) → AW E layM p l e (rmD 0) ms m args below meth c 4 0 0 Q 31 [(0, .ref (ea E 0)), (1, .int a1), (3, .int a3)] [.int w3, .int a2] s0 := by
        intro w3 h
        rw [ej31] at h
        refine r_ior X dX9_coursesOf_31 ?_
        refine r_istore_n (L' := [(0, .ref (ea E 0)), (1, .int a1), (2, .int (a2 ||| w3)), (3, .int a3)]) X dX9_coursesOf_32 [1, 2, 0, 3] rfl rfl (Nat.le_of_ble_eq_true rfl) ?_
        refine r_iinc (L' := [(0, .ref (ea E 0)), (1, .int a1), (2, .int (a2 ||| w3)), (3, .int (a3 + 1))]) (v := a3 + 1) X dX9_coursesOf_33 3 rfl rfl [1, 2, 3, 0] rfl (Nat.le_of_ble_eq_true rfl) ?_
        refine r_goto X 4 dX9_coursesOf_36 (by decide) ?_
        exact ih _ _ _ _ _ h hE
      refine r_icmp_ne X 30 dX9_coursesOf_21 (by decide) (fun c4 => ?_) (fun c4 => ?_)
      · rw [if_neg c4] at h
        refine r_iconst X dX9_coursesOf_30 (v := 0) (by decide) ?_
        refine r_sub (L' := [(0, .ref (ea E 0)), (1, .int a1), (3, .int a3)]) [0, 1, 3] rfl ?_
        exact hj31 _ h
      · rw [if_pos c4] at h
        refine r_iconst X dX9_coursesOf_24 (v := 1) (by decide) ?_
        refine r_iload_n X dX9_coursesOf_25 3 rfl rfl ?_
        refine s_ishl X dX9_coursesOf_26 ?_
        refine r_goto X 31 dX9_coursesOf_27 (by decide) ?_
        refine r_sub (L' := [(0, .ref (ea E 0)), (1, .int a1), (3, .int a3)]) [0, 1, 3] rfl ?_
        exact hj31 _ h
set_option maxHeartbeats 4000000 in
set_option maxRecDepth 100000 in
theorem ctX9_coursesOf {l : Launch} {E : EE} {a1 : Int32} {s0 : St} {r9 : Int32} {t9 : St}  (h : fX9_coursesOf a1 s0 = some (r9, t9)) : Ct l E layM yX9_coursesOf cX9_coursesOf 4 (some .int) 0 [.ref (ea E 0), .int a1] s0 (some (.int r9)) t9 := by
  refine Ct.of (by decide) (Nat.le_of_ble_eq_true rfl) ?_
  intro p e ms m below meth c X hlk hr
  have X : Cx E layM p ms m [.ref (ea E 0), .int a1].toArray c cX9_coursesOf RX9 4 := X
  refine r_sub (L' := [(0, .ref (ea E 0)), (1, .int a1)]) [0, 1] rfl ?_
  unfold fX9_coursesOf at h
  refine r_iconst X dX9_coursesOf_0 (v := 0) (by decide) ?_
  refine r_istore_n (L' := [(0, .ref (ea E 0)), (1, .int a1), (2, .int 0)]) X dX9_coursesOf_1 [1, 2, 0] rfl rfl (Nat.le_of_ble_eq_true rfl) ?_
  refine r_iconst X dX9_coursesOf_2 (v := 0) (by decide) ?_
  refine r_istore_n (L' := [(0, .ref (ea E 0)), (1, .int a1), (2, .int 0), (3, .int 0)]) X dX9_coursesOf_3 [1, 2, 3, 0] rfl rfl (Nat.le_of_ble_eq_true rfl) ?_
  obtain ⟨v7, s6, eo, h⟩ := bd2_ok h
  refine LX9_coursesOf_4 X FU _ _ _ _ _ eo ?_
  refine r_iload_n X dX9_coursesOf_39 0 rfl rfl ?_
  exact s_iret X hlk hr dX9_coursesOf_40 h
/-! X9_ofDish -/
theorem nX9_ofDish : yX9_ofDish.cls ≠ "java/lang/invoke/MethodHandle" ∧ yX9_ofDish.cls ≠ "java/lang/invoke/VarHandle" ∧ (parseMethodDescriptor yX9_ofDish.desc).map (fun d => d.parameters.length) = some 2 := by decide +kernel
theorem kX9_ofDish {l : Launch} {E : EE} {p : Program} {e : Env} {ms : State} {m : MethodId} {args : Array Value} {below : List Frame} {meth : Method} {c : Code} {cc : ByteArray} {own : String} {nL pc idx d D : Nat} {Q : State → Prop} {L : List (Nat × Value)} {rest : List Value} {σ τ : St} {a1 : Int32} {a2 : Int32} {r : Int32} {fl : List (Option Nat)} (X : Cx E layM p ms m args c cc own nL) (hM : Ct l E layM yX9_ofDish cX9_ofDish 3 (some .int) d [.ref (ea E 0), .int a1, .int a2] σ (some (.int r)) τ) (hd : decode cc pc = .ok (.invokevirtual idx, 3)) (hlay : layM[0]? = some (.inl (8, fl))) (w1 : Cond.methodLink own idx yX9_ofDish ∈ gw) (hR : d + 1 ≤ D) (hrs : (rest.map fun v => v.category).sum ≤ 8) (k : AW E layM p l e (rmD D) ms m args below meth c nL 0 0 Q (pc + 3) L (.int r :: rest) τ) : AW E layM p l e (rmD D) ms m args below meth c nL 0 0 Q pc L (.int a2 :: .int a1 :: .ref (ea E 0) :: rest) σ :=
  s_callV X [.int a1, .int a2] rest hM hd v_X9 hlay w1 g_880 g_881 g_77 g_882 nX9_ofDish rfl rfl hrs (Nat.le_of_ble_eq_true rfl) hR k
def fX9_ofDish (a1 : Int32) (a2 : Int32) (s0 : St) : Option (Int32 × St) :=
    bd2 (fX9_isDish a1 s0) fun u3 s1 =>
    jn (fun (s4 : St) =>
    bd2 (fX9_errs (-1000000001) s4) fun u7 s5 =>
    some (u7, s5)) fun j16 =>
    if u3 = 0 then
    j16 s1
    else
    bd2 (fX9_in a2 0 2 s1) fun u10 s8 =>
    if u10 = 0 then
    j16 s8
    else
    if 2 ≤ a2 then
    bd2 (fX9_coursesOf a1 s8) fun u13 s11 =>
    some (u13, s11)
    else
    bd1 (ald s8 1 257 ((9 + (2 * a1)) + a2)) fun v15 =>
    some (v15, s8)
set_option maxHeartbeats 4000000 in
set_option maxRecDepth 100000 in
theorem ctX9_ofDish {l : Launch} {E : EE} {a1 : Int32} {a2 : Int32} {s0 : St} {r9 : Int32} {t9 : St}  (h : fX9_ofDish a1 a2 s0 = some (r9, t9)) : Ct l E layM yX9_ofDish cX9_ofDish 3 (some .int) 2 [.ref (ea E 0), .int a1, .int a2] s0 (some (.int r9)) t9 := by
  refine Ct.of (by decide) (Nat.le_of_ble_eq_true rfl) ?_
  intro p e ms m below meth c X hlk hr
  have X : Cx E layM p ms m [.ref (ea E 0), .int a1, .int a2].toArray c cX9_ofDish RX9 3 := X
  refine r_sub (L' := [(0, .ref (ea E 0)), (1, .int a1), (2, .int a2)]) [0, 1, 2] rfl ?_
  unfold fX9_ofDish at h
  refine r_iload_n X dX9_ofDish_0 1 rfl rfl ?_
  obtain ⟨u3, s1, e2, h⟩ := bd2_ok h
  refine kX9_isDish X (ctX9_isDish e2) dX9_ofDish_1 g_863 (Nat.le_of_ble_eq_true rfl) (Nat.le_of_ble_eq_true rfl) ?_
  obtain ⟨j16, ej16, h⟩ := jn1_ok h
  have hj16 : ∀ (s4 : St), j16 s4 = some (r9, t9) → AW E layM p l e (rmD 2) ms m [.ref (ea E 0), .int a1, .int a2].toArray below meth c 3 0 0 (MQc E layM below [.ref (ea E 0), .int a1, .int a2].toArray ms (some (.int r9)) t9) 16 [(0, .ref (ea E 0))] [] s4 := by
    intro s4 h
    rw [ej16] at h
    refine r_aload_n X dX9_ofDish_16 0 rfl rfl ?_
    refine r_ldc X dX9_ofDish_17 g_873 ?_
    obtain ⟨u7, s5, e6, h⟩ := bd2_ok h
    refine kX9_errs X (ctX9_errs e6) dX9_ofDish_19 lM_0 g_874 (Nat.le_of_ble_eq_true rfl) (Nat.le_of_ble_eq_true rfl) ?_
    exact s_iret X hlk hr dX9_ofDish_22 h
  refine r_if_eq X 16 dX9_ofDish_4 (by decide) (fun c18 => ?_) (fun c18 => ?_)
  · rw [if_pos c18] at h
    refine r_sub (L' := [(0, .ref (ea E 0))]) [0] rfl ?_
    exact hj16 _ h
  · rw [if_neg c18] at h
    refine r_iload_n X dX9_ofDish_7 2 rfl rfl ?_
    refine r_iconst X dX9_ofDish_8 (v := 0) (by decide) ?_
    refine r_iconst X dX9_ofDish_9 (v := 2) (by decide) ?_
    obtain ⟨u10, s8, e9, h⟩ := bd2_ok h
    refine kX9_in X (ctX9_in e9) dX9_ofDish_10 g_866 (Nat.le_of_ble_eq_true rfl) (Nat.le_of_ble_eq_true rfl) ?_
    refine r_if_ne X 23 dX9_ofDish_13 (by decide) (fun c17 => ?_) (fun c17 => ?_)
    · rw [if_neg c17] at h
      refine r_iload_n X dX9_ofDish_23 2 rfl rfl ?_
      refine r_iconst X dX9_ofDish_24 (v := 2) (by decide) ?_
      refine r_icmp_ge X 44 dX9_ofDish_25 (by decide) (fun c16 => ?_) (fun c16 => ?_)
      · rw [if_pos c16] at h
        refine r_aload_n X dX9_ofDish_44 0 rfl rfl ?_
        refine r_iload_n X dX9_ofDish_45 1 rfl rfl ?_
        obtain ⟨u13, s11, e12, h⟩ := bd2_ok h
        refine kX9_coursesOf X (ctX9_coursesOf e12) dX9_ofDish_46 lM_0 g_883 (Nat.le_of_ble_eq_true rfl) (Nat.le_of_ble_eq_true rfl) ?_
        exact s_iret X hlk hr dX9_ofDish_49 h
      · rw [if_neg c16] at h
        refine r_aload_n X dX9_ofDish_28 0 rfl rfl ?_
        refine r_getr X dX9_ofDish_29 i_X9 v_X9 lM_0 0 rfl (Nat.le_of_ble_eq_true rfl) g_774 ?_
        refine r_bipush X dX9_ofDish_32 (v := 9) (by decide) ?_
        refine r_iconst X dX9_ofDish_34 (v := 2) (by decide) ?_
        refine r_iload_n X dX9_ofDish_35 1 rfl rfl ?_
        refine r_imul X dX9_ofDish_36 ?_
        refine r_iadd X dX9_ofDish_37 ?_
        refine r_iload_n X dX9_ofDish_38 2 rfl rfl ?_
        refine r_iadd X dX9_ofDish_39 ?_
        obtain ⟨g14, v15, ev15, h⟩ := ld_ok h
        refine s_iald X dX9_ofDish_40 lM_1 g14 ev15 ?_
        refine r_goto X 49 dX9_ofDish_41 (by decide) ?_
        exact s_iret X hlk hr dX9_ofDish_49 h
    · rw [if_pos c17] at h
      refine r_sub (L' := [(0, .ref (ea E 0))]) [0] rfl ?_
      exact hj16 _ h
/-! X9_menu -/
theorem nX9_menu : yX9_menu.cls ≠ "java/lang/invoke/MethodHandle" ∧ yX9_menu.cls ≠ "java/lang/invoke/VarHandle" ∧ (parseMethodDescriptor yX9_menu.desc).map (fun d => d.parameters.length) = some 2 := by decide +kernel
theorem kX9_menu {l : Launch} {E : EE} {p : Program} {e : Env} {ms : State} {m : MethodId} {args : Array Value} {below : List Frame} {meth : Method} {c : Code} {cc : ByteArray} {own : String} {nL pc idx d D : Nat} {Q : State → Prop} {L : List (Nat × Value)} {rest : List Value} {σ τ : St} {a1 : Int32} {a2 : Int32} {r : Int32} {fl : List (Option Nat)} (X : Cx E layM p ms m args c cc own nL) (hM : Ct l E layM yX9_menu cX9_menu 3 (some .int) d [.ref (ea E 0), .int a1, .int a2] σ (some (.int r)) τ) (hd : decode cc pc = .ok (.invokevirtual idx, 3)) (hlay : layM[0]? = some (.inl (8, fl))) (w1 : Cond.methodLink own idx yX9_menu ∈ gw) (hR : d + 1 ≤ D) (hrs : (rest.map fun v => v.category).sum ≤ 8) (k : AW E layM p l e (rmD D) ms m args below meth c nL 0 0 Q (pc + 3) L (.int r :: rest) τ) : AW E layM p l e (rmD D) ms m args below meth c nL 0 0 Q pc L (.int a2 :: .int a1 :: .ref (ea E 0) :: rest) σ :=
  s_callV X [.int a1, .int a2] rest hM hd v_X9 hlay w1 g_888 g_889 g_77 g_890 nX9_menu rfl rfl hrs (Nat.le_of_ble_eq_true rfl) hR k
def fX9_menu (a1 : Int32) (a2 : Int32) (s0 : St) : Option (Int32 × St) :=
    bd2 (fX9_isCourse a1 s0) fun u3 s1 =>
    jn (fun (s4 : St) =>
    bd2 (fX9_errs (-1000000001) s4) fun u7 s5 =>
    some (u7, s5)) fun j19 =>
    if u3 = 0 then
    j19 s1
    else
    jn (fun (s8 : St) =>
    jn (fun (w9 : Int32) =>
    bd2 (fX9_becomes (41 + a1) w9 s8) fun u12 s10 =>
    some (u12, s10)) fun j48 =>
    if 0 ≤ a2 then
    j48 a2
    else
    bd1 (ald s8 1 257 (41 + a1)) fun v14 =>
    j48 v14) fun j26 =>
    if a2 = (-1) then
    j26 s1
    else
    bd2 (fX9_isDish a2 s1) fun u18 s16 =>
    if u18 = 0 then
    j19 s16
    else
    j26 s16
set_option maxHeartbeats 4000000 in
set_option maxRecDepth 100000 in
theorem ctX9_menu {l : Launch} {E : EE} {a1 : Int32} {a2 : Int32} {s0 : St} {r9 : Int32} {t9 : St}  (h : fX9_menu a1 a2 s0 = some (r9, t9)) : Ct l E layM yX9_menu cX9_menu 3 (some .int) 2 [.ref (ea E 0), .int a1, .int a2] s0 (some (.int r9)) t9 := by
  refine Ct.of (by decide) (Nat.le_of_ble_eq_true rfl) ?_
  intro p e ms m below meth c X hlk hr
  have X : Cx E layM p ms m [.ref (ea E 0), .int a1, .int a2].toArray c cX9_menu RX9 3 := X
  refine r_sub (L' := [(0, .ref (ea E 0)), (1, .int a1), (2, .int a2)]) [0, 1, 2] rfl ?_
  unfold fX9_menu at h
  refine r_iload_n X dX9_menu_0 1 rfl rfl ?_
  obtain ⟨u3, s1, e2, h⟩ := bd2_ok h
  refine kX9_isCourse X (ctX9_isCourse e2) dX9_menu_1 g_891 (Nat.le_of_ble_eq_true rfl) (Nat.le_of_ble_eq_true rfl) ?_
  obtain ⟨j19, ej19, h⟩ := jn1_ok h
  have hj19 : ∀ (s4 : St), j19 s4 = some (r9, t9) → AW E layM p l e (rmD 2) ms m [.ref (ea E 0), .int a1, .int a2].toArray below meth c 3 0 0 (MQc E layM below [.ref (ea E 0), .int a1, .int a2].toArray ms (some (.int r9)) t9) 19 [(0, .ref (ea E 0))] [] s4 := by
    intro s4 h
    rw [ej19] at h
    refine r_aload_n X dX9_menu_19 0 rfl rfl ?_
    refine r_ldc X dX9_menu_20 g_873 ?_
    obtain ⟨u7, s5, e6, h⟩ := bd2_ok h
    refine kX9_errs X (ctX9_errs e6) dX9_menu_22 lM_0 g_874 (Nat.le_of_ble_eq_true rfl) (Nat.le_of_ble_eq_true rfl) ?_
    exact s_iret X hlk hr dX9_menu_25 h
  refine r_if_eq X 19 dX9_menu_4 (by decide) (fun c21 => ?_) (fun c21 => ?_)
  · rw [if_pos c21] at h
    refine r_sub (L' := [(0, .ref (ea E 0))]) [0] rfl ?_
    exact hj19 _ h
  · rw [if_neg c21] at h
    refine r_iload_n X dX9_menu_7 2 rfl rfl ?_
    refine r_iconst X dX9_menu_8 (v := (-1)) (by decide) ?_
    obtain ⟨j26, ej26, h⟩ := jn1_ok h
    have hj26 : ∀ (s8 : St), j26 s8 = some (r9, t9) → AW E layM p l e (rmD 2) ms m [.ref (ea E 0), .int a1, .int a2].toArray below meth c 3 0 0 (MQc E layM below [.ref (ea E 0), .int a1, .int a2].toArray ms (some (.int r9)) t9) 26 [(0, .ref (ea E 0)), (1, .int a1), (2, .int a2)] [] s8 := by
      intro s8 h
      rw [ej26] at h
      refine r_aload_n X dX9_menu_26 0 rfl rfl ?_
      refine r_bipush X dX9_menu_27 (v := 41) (by decide) ?_
      refine r_iload_n X dX9_menu_29 1 rfl rfl ?_
      refine r_iadd X dX9_menu_30 ?_
      refine r_iload_n X dX9_menu_31 2 rfl rfl ?_
      obtain ⟨j48, ej48, h⟩ := jn1_ok h
      have hj48 : ∀ (w9 : Int32), j48 w9 = some (r9, t9) → AW E layM p l e (rmD 2) ms m [.ref (ea E 0), .int a1, .int a2].toArray below meth c 3 0 0 (MQc E layM below [.ref (ea E 0), .int a1, .int a2].toArray ms (some (.int r9)) t9) 48 [] [.int w9, .int (41 + a1), .ref (ea E 0)] s8 := by
        intro w9 h
        rw [ej48] at h
        obtain ⟨u12, s10, e11, h⟩ := bd2_ok h
        refine kX9_becomes X (ctX9_becomes e11) dX9_menu_48 lM_0 g_869 (Nat.le_of_ble_eq_true rfl) (Nat.le_of_ble_eq_true rfl) ?_
        exact s_iret X hlk hr dX9_menu_51 h
      refine r_if_ge X 47 dX9_menu_32 (by decide) (fun c15 => ?_) (fun c15 => ?_)
      · rw [if_pos c15] at h
        refine r_iload_n X dX9_menu_47 2 rfl rfl ?_
        refine r_sub (L' := []) [] rfl ?_
        exact hj48 _ h
      · rw [if_neg c15] at h
        refine r_aload_n X dX9_menu_35 0 rfl rfl ?_
        refine r_getr X dX9_menu_36 i_X9 v_X9 lM_0 0 rfl (Nat.le_of_ble_eq_true rfl) g_774 ?_
        refine r_bipush X dX9_menu_39 (v := 41) (by decide) ?_
        refine r_iload_n X dX9_menu_41 1 rfl rfl ?_
        refine r_iadd X dX9_menu_42 ?_
        obtain ⟨g13, v14, ev14, h⟩ := ld_ok h
        refine s_iald X dX9_menu_43 lM_1 g13 ev14 ?_
        refine r_goto X 48 dX9_menu_44 (by decide) ?_
        refine r_sub (L' := []) [] rfl ?_
        exact hj48 _ h
    refine r_icmp_eq X 26 dX9_menu_9 (by decide) (fun c20 => ?_) (fun c20 => ?_)
    · rw [if_pos c20] at h
      exact hj26 _ h
    · rw [if_neg c20] at h
      refine r_iload_n X dX9_menu_12 2 rfl rfl ?_
      obtain ⟨u18, s16, e17, h⟩ := bd2_ok h
      refine kX9_isDish X (ctX9_isDish e17) dX9_menu_13 g_863 (Nat.le_of_ble_eq_true rfl) (Nat.le_of_ble_eq_true rfl) ?_
      refine r_if_ne X 26 dX9_menu_16 (by decide) (fun c19 => ?_) (fun c19 => ?_)
      · rw [if_neg c19] at h
        exact hj26 _ h
      · rw [if_pos c19] at h
        refine r_sub (L' := [(0, .ref (ea E 0))]) [0] rfl ?_
        exact hj19 _ h
/-! X9_house -/
theorem nX9_house : yX9_house.cls ≠ "java/lang/invoke/MethodHandle" ∧ yX9_house.cls ≠ "java/lang/invoke/VarHandle" ∧ (parseMethodDescriptor yX9_house.desc).map (fun d => d.parameters.length) = some 2 := by decide +kernel
theorem kX9_house {l : Launch} {E : EE} {p : Program} {e : Env} {ms : State} {m : MethodId} {args : Array Value} {below : List Frame} {meth : Method} {c : Code} {cc : ByteArray} {own : String} {nL pc idx d D : Nat} {Q : State → Prop} {L : List (Nat × Value)} {rest : List Value} {σ τ : St} {a1 : Int32} {a2 : Int32} {r : Int32} {fl : List (Option Nat)} (X : Cx E layM p ms m args c cc own nL) (hM : Ct l E layM yX9_house cX9_house 4 (some .int) d [.ref (ea E 0), .int a1, .int a2] σ (some (.int r)) τ) (hd : decode cc pc = .ok (.invokevirtual idx, 3)) (hlay : layM[0]? = some (.inl (8, fl))) (w1 : Cond.methodLink own idx yX9_house ∈ gw) (hR : d + 1 ≤ D) (hrs : (rest.map fun v => v.category).sum ≤ 8) (k : AW E layM p l e (rmD D) ms m args below meth c nL 0 0 Q (pc + 3) L (.int r :: rest) τ) : AW E layM p l e (rmD D) ms m args below meth c nL 0 0 Q pc L (.int a2 :: .int a1 :: .ref (ea E 0) :: rest) σ :=
  s_callV X [.int a1, .int a2] rest hM hd v_X9 hlay w1 g_895 g_896 g_77 g_897 nX9_house rfl rfl hrs (Nat.le_of_ble_eq_true rfl) hR k
def fX9_house (a1 : Int32) (a2 : Int32) (s0 : St) : Option (Int32 × St) :=
    jn (fun (w1 : Int32) (s2 : St) =>
    if w1 = 0 then
    bd2 (fX9_errs (-1000000001) s2) fun u5 s3 =>
    some (u5, s3)
    else
    bd2 (fX9_becomes (3 + a1) a2 s2) fun u8 s6 =>
    some (u8, s6)) fun j34 =>
    if a1 = 0 then
    bd2 (fX9_in a2 0 40 s0) fun u18 s16 =>
    j34 u18 s16
    else
    jn (fun (s10 : St) =>
    j34 0 s10) fun j33 =>
    if a1 = 1 then
    bd2 (fX9_in a2 0 99999 s0) fun u13 s11 =>
    if u13 = 0 then
    j33 s11
    else
    j34 1 s11
    else
    j33 s0
set_option maxHeartbeats 4000000 in
set_option maxRecDepth 100000 in
theorem ctX9_house {l : Launch} {E : EE} {a1 : Int32} {a2 : Int32} {s0 : St} {r9 : Int32} {t9 : St}  (h : fX9_house a1 a2 s0 = some (r9, t9)) : Ct l E layM yX9_house cX9_house 4 (some .int) 1 [.ref (ea E 0), .int a1, .int a2] s0 (some (.int r9)) t9 := by
  refine Ct.of (by decide) (Nat.le_of_ble_eq_true rfl) ?_
  intro p e ms m below meth c X hlk hr
  have X : Cx E layM p ms m [.ref (ea E 0), .int a1, .int a2].toArray c cX9_house RX9 4 := X
  refine r_sub (L' := [(0, .ref (ea E 0)), (1, .int a1), (2, .int a2)]) [0, 1, 2] rfl ?_
  unfold fX9_house at h
  refine r_iload_n X dX9_house_0 1 rfl rfl ?_
  obtain ⟨j34, ej34, h⟩ := jn2_ok h
  have hj34 : ∀ (w1 : Int32) (s2 : St), j34 w1 s2 = some (r9, t9) → AW E layM p l e (rmD 1) ms m [.ref (ea E 0), .int a1, .int a2].toArray below meth c 4 0 0 (MQc E layM below [.ref (ea E 0), .int a1, .int a2].toArray ms (some (.int r9)) t9) 34 [(0, .ref (ea E 0)), (1, .int a1), (2, .int a2)] [.int w1] s2 := by
    intro w1 s2 h
    rw [ej34] at h
    refine r_istore_n (L' := [(0, .ref (ea E 0)), (1, .int a1), (2, .int a2), (3, .int w1)]) X dX9_house_34 [1, 2, 3, 0] rfl rfl (Nat.le_of_ble_eq_true rfl) ?_
    refine r_iload_n X dX9_house_35 3 rfl rfl ?_
    refine r_if_eq X 50 dX9_house_36 (by decide) (fun c9 => ?_) (fun c9 => ?_)
    · rw [if_pos c9] at h
      refine r_aload_n X dX9_house_50 0 rfl rfl ?_
      refine r_ldc X dX9_house_51 g_873 ?_
      obtain ⟨u5, s3, e4, h⟩ := bd2_ok h
      refine kX9_errs X (ctX9_errs e4) dX9_house_53 lM_0 g_874 (Nat.le_of_ble_eq_true rfl) (Nat.le_of_ble_eq_true rfl) ?_
      exact s_iret X hlk hr dX9_house_56 h
    · rw [if_neg c9] at h
      refine r_aload_n X dX9_house_39 0 rfl rfl ?_
      refine r_iconst X dX9_house_40 (v := 3) (by decide) ?_
      refine r_iload_n X dX9_house_41 1 rfl rfl ?_
      refine r_iadd X dX9_house_42 ?_
      refine r_iload_n X dX9_house_43 2 rfl rfl ?_
      obtain ⟨u8, s6, e7, h⟩ := bd2_ok h
      refine kX9_becomes X (ctX9_becomes e7) dX9_house_44 lM_0 g_869 (Nat.le_of_ble_eq_true rfl) (Nat.le_of_ble_eq_true rfl) ?_
      refine r_goto X 56 dX9_house_47 (by decide) ?_
      exact s_iret X hlk hr dX9_house_56 h
  refine r_if_ne X 14 dX9_house_1 (by decide) (fun c19 => ?_) (fun c19 => ?_)
  · rw [if_neg c19] at h
    refine r_iload_n X dX9_house_14 1 rfl rfl ?_
    refine r_iconst X dX9_house_15 (v := 1) (by decide) ?_
    obtain ⟨j33, ej33, h⟩ := jn1_ok h
    have hj33 : ∀ (s10 : St), j33 s10 = some (r9, t9) → AW E layM p l e (rmD 1) ms m [.ref (ea E 0), .int a1, .int a2].toArray below meth c 4 0 0 (MQc E layM below [.ref (ea E 0), .int a1, .int a2].toArray ms (some (.int r9)) t9) 33 [(0, .ref (ea E 0)), (1, .int a1), (2, .int a2)] [] s10 := by
      intro s10 h
      rw [ej33] at h
      refine r_iconst X dX9_house_33 (v := 0) (by decide) ?_
      exact hj34 _ _ h
    refine r_icmp_ne X 33 dX9_house_16 (by decide) (fun c15 => ?_) (fun c15 => ?_)
    · rw [if_neg c15] at h
      exact hj33 _ h
    · rw [if_pos c15] at h
      refine r_iload_n X dX9_house_19 2 rfl rfl ?_
      refine r_iconst X dX9_house_20 (v := 0) (by decide) ?_
      refine r_ldc X dX9_house_21 g_898 ?_
      obtain ⟨u13, s11, e12, h⟩ := bd2_ok h
      refine kX9_in X (ctX9_in e12) dX9_house_23 g_866 (Nat.le_of_ble_eq_true rfl) (Nat.le_of_ble_eq_true rfl) ?_
      refine r_if_eq X 33 dX9_house_26 (by decide) (fun c14 => ?_) (fun c14 => ?_)
      · rw [if_pos c14] at h
        exact hj33 _ h
      · rw [if_neg c14] at h
        refine r_iconst X dX9_house_29 (v := 1) (by decide) ?_
        refine r_goto X 34 dX9_house_30 (by decide) ?_
        exact hj34 _ _ h
  · rw [if_pos c19] at h
    refine r_iload_n X dX9_house_4 2 rfl rfl ?_
    refine r_iconst X dX9_house_5 (v := 0) (by decide) ?_
    refine r_bipush X dX9_house_6 (v := 40) (by decide) ?_
    obtain ⟨u18, s16, e17, h⟩ := bd2_ok h
    refine kX9_in X (ctX9_in e17) dX9_house_8 g_866 (Nat.le_of_ble_eq_true rfl) (Nat.le_of_ble_eq_true rfl) ?_
    refine r_goto X 34 dX9_house_11 (by decide) ?_
    exact hj34 _ _ h
/-! X9_diner -/
theorem nX9_diner : yX9_diner.cls ≠ "java/lang/invoke/MethodHandle" ∧ yX9_diner.cls ≠ "java/lang/invoke/VarHandle" ∧ (parseMethodDescriptor yX9_diner.desc).map (fun d => d.parameters.length) = some 2 := by decide +kernel
theorem kX9_diner {l : Launch} {E : EE} {p : Program} {e : Env} {ms : State} {m : MethodId} {args : Array Value} {below : List Frame} {meth : Method} {c : Code} {cc : ByteArray} {own : String} {nL pc idx d D : Nat} {Q : State → Prop} {L : List (Nat × Value)} {rest : List Value} {σ τ : St} {a1 : Int32} {a2 : Int32} {r : Int32} {fl : List (Option Nat)} (X : Cx E layM p ms m args c cc own nL) (hM : Ct l E layM yX9_diner cX9_diner 4 (some .int) d [.ref (ea E 0), .int a1, .int a2] σ (some (.int r)) τ) (hd : decode cc pc = .ok (.invokevirtual idx, 3)) (hlay : layM[0]? = some (.inl (8, fl))) (w1 : Cond.methodLink own idx yX9_diner ∈ gw) (hR : d + 1 ≤ D) (hrs : (rest.map fun v => v.category).sum ≤ 8) (k : AW E layM p l e (rmD D) ms m args below meth c nL 0 0 Q (pc + 3) L (.int r :: rest) τ) : AW E layM p l e (rmD D) ms m args below meth c nL 0 0 Q pc L (.int a2 :: .int a1 :: .ref (ea E 0) :: rest) σ :=
  s_callV X [.int a1, .int a2] rest hM hd v_X9 hlay w1 g_900 g_901 g_77 g_902 nX9_diner rfl rfl hrs (Nat.le_of_ble_eq_true rfl) hR k
def fX9_diner (a1 : Int32) (a2 : Int32) (s0 : St) : Option (Int32 × St) :=
    bd2 (fX9_in a1 0 69 s0) fun u3 s1 =>
    jn (fun (s4 : St) =>
    bd2 (fX9_errs (-1000000001) s4) fun u7 s5 =>
    some (u7, s5)) fun j20 =>
    if u3 = 0 then
    j20 s1
    else
    bd2 (fX9_in a2 0 9 s1) fun u10 s8 =>
    if u10 = 0 then
    j20 s8
    else
    bd1 (ald s8 1 257 2) fun v12 =>
    if v12 = 8 then
    bd2 (fX9_errs (-1000000004) s8) fun u31 s29 =>
    some (u31, s29)
    else
    bd1 (ald s8 1 257 2) fun v14 =>
    bd1 (fX9_puts v14 0 (a1 / 10) s8) fun s15 =>
    bd1 (fX9_puts v14 1 (irm a1 10) s15) fun s17 =>
    bd1 (fX9_puts v14 2 a2 s17) fun s19 =>
    bd1 (fX9_puts v14 3 v14 s19) fun s21 =>
    bd1 (fX9_puts v14 4 0 s21) fun s23 =>
    bd1 (ald s23 1 257 2) fun v26 =>
    bd1 (ast s23 1 257 2 (v26 + 1)) fun s28 =>
    some (v14, s28)
set_option maxHeartbeats 4000000 in
set_option maxRecDepth 100000 in
theorem ctX9_diner {l : Launch} {E : EE} {a1 : Int32} {a2 : Int32} {s0 : St} {r9 : Int32} {t9 : St}  (h : fX9_diner a1 a2 s0 = some (r9, t9)) : Ct l E layM yX9_diner cX9_diner 4 (some .int) 1 [.ref (ea E 0), .int a1, .int a2] s0 (some (.int r9)) t9 := by
  refine Ct.of (by decide) (Nat.le_of_ble_eq_true rfl) ?_
  intro p e ms m below meth c X hlk hr
  have X : Cx E layM p ms m [.ref (ea E 0), .int a1, .int a2].toArray c cX9_diner RX9 4 := X
  refine r_sub (L' := [(0, .ref (ea E 0)), (1, .int a1), (2, .int a2)]) [0, 1, 2] rfl ?_
  unfold fX9_diner at h
  refine r_iload_n X dX9_diner_0 1 rfl rfl ?_
  refine r_iconst X dX9_diner_1 (v := 0) (by decide) ?_
  refine r_bipush X dX9_diner_2 (v := 69) (by decide) ?_
  obtain ⟨u3, s1, e2, h⟩ := bd2_ok h
  refine kX9_in X (ctX9_in e2) dX9_diner_4 g_866 (Nat.le_of_ble_eq_true rfl) (Nat.le_of_ble_eq_true rfl) ?_
  obtain ⟨j20, ej20, h⟩ := jn1_ok h
  have hj20 : ∀ (s4 : St), j20 s4 = some (r9, t9) → AW E layM p l e (rmD 1) ms m [.ref (ea E 0), .int a1, .int a2].toArray below meth c 4 0 0 (MQc E layM below [.ref (ea E 0), .int a1, .int a2].toArray ms (some (.int r9)) t9) 20 [(0, .ref (ea E 0))] [] s4 := by
    intro s4 h
    rw [ej20] at h
    refine r_aload_n X dX9_diner_20 0 rfl rfl ?_
    refine r_ldc X dX9_diner_21 g_873 ?_
    obtain ⟨u7, s5, e6, h⟩ := bd2_ok h
    refine kX9_errs X (ctX9_errs e6) dX9_diner_23 lM_0 g_874 (Nat.le_of_ble_eq_true rfl) (Nat.le_of_ble_eq_true rfl) ?_
    exact s_iret X hlk hr dX9_diner_26 h
  refine r_if_eq X 20 dX9_diner_7 (by decide) (fun c34 => ?_) (fun c34 => ?_)
  · rw [if_pos c34] at h
    refine r_sub (L' := [(0, .ref (ea E 0))]) [0] rfl ?_
    exact hj20 _ h
  · rw [if_neg c34] at h
    refine r_iload_n X dX9_diner_10 2 rfl rfl ?_
    refine r_iconst X dX9_diner_11 (v := 0) (by decide) ?_
    refine r_bipush X dX9_diner_12 (v := 9) (by decide) ?_
    obtain ⟨u10, s8, e9, h⟩ := bd2_ok h
    refine kX9_in X (ctX9_in e9) dX9_diner_14 g_866 (Nat.le_of_ble_eq_true rfl) (Nat.le_of_ble_eq_true rfl) ?_
    refine r_if_ne X 27 dX9_diner_17 (by decide) (fun c33 => ?_) (fun c33 => ?_)
    · rw [if_neg c33] at h
      refine r_aload_n X dX9_diner_27 0 rfl rfl ?_
      refine r_getr X dX9_diner_28 i_X9 v_X9 lM_0 0 rfl (Nat.le_of_ble_eq_true rfl) g_774 ?_
      refine r_iconst X dX9_diner_31 (v := 2) (by decide) ?_
      obtain ⟨g11, v12, ev12, h⟩ := ld_ok h
      refine s_iald X dX9_diner_32 lM_1 g11 ev12 ?_
      refine r_bipush X dX9_diner_33 (v := 8) (by decide) ?_
      refine r_icmp_ne X 45 dX9_diner_35 (by decide) (fun c32 => ?_) (fun c32 => ?_)
      · rw [if_neg c32] at h
        refine r_aload_n X dX9_diner_45 0 rfl rfl ?_
        refine r_getr X dX9_diner_46 i_X9 v_X9 lM_0 0 rfl (Nat.le_of_ble_eq_true rfl) g_774 ?_
        refine r_iconst X dX9_diner_49 (v := 2) (by decide) ?_
        obtain ⟨g13, v14, ev14, h⟩ := ld_ok h
        refine s_iald X dX9_diner_50 lM_1 g13 ev14 ?_
        refine r_istore_n (L' := [(0, .ref (ea E 0)), (1, .int a1), (2, .int a2), (3, .int v14)]) X dX9_diner_51 [1, 2, 3, 0] rfl rfl (Nat.le_of_ble_eq_true rfl) ?_
        refine r_aload_n X dX9_diner_52 0 rfl rfl ?_
        refine r_iload_n X dX9_diner_53 3 rfl rfl ?_
        refine r_iconst X dX9_diner_54 (v := 0) (by decide) ?_
        refine r_iload_n X dX9_diner_55 1 rfl rfl ?_
        refine r_bipush X dX9_diner_56 (v := 10) (by decide) ?_
        refine r_idiv X dX9_diner_58 (by decide) ?_
        obtain ⟨s15, e16, h⟩ := bd1_ok h
        refine kX9_puts X (ctX9_puts e16) dX9_diner_59 lM_0 g_904 (Nat.le_of_ble_eq_true rfl) (Nat.le_of_ble_eq_true rfl) ?_
        refine r_aload_n X dX9_diner_62 0 rfl rfl ?_
        refine r_iload_n X dX9_diner_63 3 rfl rfl ?_
        refine r_iconst X dX9_diner_64 (v := 1) (by decide) ?_
        refine r_iload_n X dX9_diner_65 1 rfl rfl ?_
        refine r_bipush X dX9_diner_66 (v := 10) (by decide) ?_
        refine s_irem X dX9_diner_68 (by decide) ?_
        obtain ⟨s17, e18, h⟩ := bd1_ok h
        refine kX9_puts X (ctX9_puts e18) dX9_diner_69 lM_0 g_904 (Nat.le_of_ble_eq_true rfl) (Nat.le_of_ble_eq_true rfl) ?_
        refine r_aload_n X dX9_diner_72 0 rfl rfl ?_
        refine r_iload_n X dX9_diner_73 3 rfl rfl ?_
        refine r_iconst X dX9_diner_74 (v := 2) (by decide) ?_
        refine r_iload_n X dX9_diner_75 2 rfl rfl ?_
        obtain ⟨s19, e20, h⟩ := bd1_ok h
        refine kX9_puts X (ctX9_puts e20) dX9_diner_76 lM_0 g_904 (Nat.le_of_ble_eq_true rfl) (Nat.le_of_ble_eq_true rfl) ?_
        refine r_aload_n X dX9_diner_79 0 rfl rfl ?_
        refine r_iload_n X dX9_diner_80 3 rfl rfl ?_
        refine r_iconst X dX9_diner_81 (v := 3) (by decide) ?_
        refine r_iload_n X dX9_diner_82 3 rfl rfl ?_
        obtain ⟨s21, e22, h⟩ := bd1_ok h
        refine kX9_puts X (ctX9_puts e22) dX9_diner_83 lM_0 g_904 (Nat.le_of_ble_eq_true rfl) (Nat.le_of_ble_eq_true rfl) ?_
        refine r_aload_n X dX9_diner_86 0 rfl rfl ?_
        refine r_iload_n X dX9_diner_87 3 rfl rfl ?_
        refine r_iconst X dX9_diner_88 (v := 4) (by decide) ?_
        refine r_iconst X dX9_diner_89 (v := 0) (by decide) ?_
        obtain ⟨s23, e24, h⟩ := bd1_ok h
        refine kX9_puts X (ctX9_puts e24) dX9_diner_90 lM_0 g_904 (Nat.le_of_ble_eq_true rfl) (Nat.le_of_ble_eq_true rfl) ?_
        refine r_aload_n X dX9_diner_93 0 rfl rfl ?_
        refine r_getr X dX9_diner_94 i_X9 v_X9 lM_0 0 rfl (Nat.le_of_ble_eq_true rfl) g_774 ?_
        refine r_iconst X dX9_diner_97 (v := 2) (by decide) ?_
        refine r_dup2 X dX9_diner_98 rfl rfl ?_
        obtain ⟨g25, v26, ev26, h⟩ := ld_ok h
        refine s_iald X dX9_diner_99 lM_1 g25 ev26 ?_
        refine r_iconst X dX9_diner_100 (v := 1) (by decide) ?_
        refine r_iadd X dX9_diner_101 ?_
        obtain ⟨g27, s28, es28, h⟩ := as_ok h
        refine s_iast X dX9_diner_102 lM_1 g27 es28 ?_
        refine r_iload_n X dX9_diner_103 3 rfl rfl ?_
        exact s_iret X hlk hr dX9_diner_104 h
      · rw [if_pos c32] at h
        refine r_aload_n X dX9_diner_38 0 rfl rfl ?_
        refine r_ldc X dX9_diner_39 g_903 ?_
        obtain ⟨u31, s29, e30, h⟩ := bd2_ok h
        refine kX9_errs X (ctX9_errs e30) dX9_diner_41 lM_0 g_874 (Nat.le_of_ble_eq_true rfl) (Nat.le_of_ble_eq_true rfl) ?_
        exact s_iret X hlk hr dX9_diner_44 h
    · rw [if_pos c33] at h
      refine r_sub (L' := [(0, .ref (ea E 0))]) [0] rfl ?_
      exact hj20 _ h
/-! X9_mending -/
theorem nX9_mending : yX9_mending.cls ≠ "java/lang/invoke/MethodHandle" ∧ yX9_mending.cls ≠ "java/lang/invoke/VarHandle" ∧ (parseMethodDescriptor yX9_mending.desc).map (fun d => d.parameters.length) = some 1 := by decide +kernel
theorem kX9_mending {l : Launch} {E : EE} {p : Program} {e : Env} {ms : State} {m : MethodId} {args : Array Value} {below : List Frame} {meth : Method} {c : Code} {cc : ByteArray} {own : String} {nL pc idx d D : Nat} {Q : State → Prop} {L : List (Nat × Value)} {rest : List Value} {σ τ : St} {a1 : Int32} {r : Int32} {fl : List (Option Nat)} (X : Cx E layM p ms m args c cc own nL) (hM : Ct l E layM yX9_mending cX9_mending 3 (some .int) d [.ref (ea E 0), .int a1] σ (some (.int r)) τ) (hd : decode cc pc = .ok (.invokevirtual idx, 3)) (hlay : layM[0]? = some (.inl (8, fl))) (w1 : Cond.methodLink own idx yX9_mending ∈ gw) (hR : d + 1 ≤ D) (hrs : (rest.map fun v => v.category).sum ≤ 8) (k : AW E layM p l e (rmD D) ms m args below meth c nL 0 0 Q (pc + 3) L (.int r :: rest) τ) : AW E layM p l e (rmD D) ms m args below meth c nL 0 0 Q pc L (.int a1 :: .ref (ea E 0) :: rest) σ :=
  s_callV X [.int a1] rest hM hd v_X9 hlay w1 g_922 g_27 g_77 g_923 nX9_mending rfl rfl hrs (Nat.le_of_ble_eq_true rfl) hR k
def fX9_mending (a1 : Int32) (s0 : St) : Option (Int32 × St) :=
    bd1 (ald s0 1 257 0) fun v2 =>
    jn (fun (w3 : Int32) =>
    bd2 (fX9_its a1 0 s0) fun u6 s4 =>
    if u6 = 1 then
    some (w3, s4)
    else if u6 = 2 then
    some (1, s4)
    else if u6 = 3 then
    some (0, s4)
    else if u6 = 4 then
    some (w3, s4)
    else if u6 = 5 then
    some (2, s4)
    else if u6 = 6 then
    bd2 (fX9_its a1 1 s4) fun u15 s13 =>
    if (irm u15 2) = 0 then
    some (1, s13)
    else
    some (0, s13)
    else some (1, s4)) fun j16 =>
    if (irm v2 2) = 0 then
    j16 0
    else
    j16 1
set_option maxHeartbeats 4000000 in
set_option maxRecDepth 100000 in
theorem ctX9_mending {l : Launch} {E : EE} {a1 : Int32} {s0 : St} {r9 : Int32} {t9 : St}  (h : fX9_mending a1 s0 = some (r9, t9)) : Ct l E layM yX9_mending cX9_mending 3 (some .int) 1 [.ref (ea E 0), .int a1] s0 (some (.int r9)) t9 := by
  refine Ct.of (by decide) (Nat.le_of_ble_eq_true rfl) ?_
  intro p e ms m below meth c X hlk hr
  have X : Cx E layM p ms m [.ref (ea E 0), .int a1].toArray c cX9_mending RX9 3 := X
  refine r_sub (L' := [(0, .ref (ea E 0)), (1, .int a1)]) [0, 1] rfl ?_
  unfold fX9_mending at h
  refine r_aload_n X dX9_mending_0 0 rfl rfl ?_
  refine r_getr X dX9_mending_1 i_X9 v_X9 lM_0 0 rfl (Nat.le_of_ble_eq_true rfl) g_774 ?_
  refine r_iconst X dX9_mending_4 (v := 0) (by decide) ?_
  obtain ⟨g1, v2, ev2, h⟩ := ld_ok h
  refine s_iald X dX9_mending_5 lM_1 g1 ev2 ?_
  refine r_iconst X dX9_mending_6 (v := 2) (by decide) ?_
  refine s_irem X dX9_mending_7 (by decide) ?_
  obtain ⟨j16, ej16, h⟩ := jn1_ok h
  have hj16 : ∀ (w3 : Int32), j16 w3 = some (r9, t9) → AW E layM p l e (rmD 1) ms m [.ref (ea E 0), .int a1].toArray below meth c 3 0 0 (MQc E layM below [.ref (ea E 0), .int a1].toArray ms (some (.int r9)) t9) 16 [(0, .ref (ea E 0)), (1, .int a1)] [.int w3] s0 := by
    intro w3 h
    rw [ej16] at h
    refine r_istore_n (L' := [(0, .ref (ea E 0)), (1, .int a1), (2, .int w3)]) X dX9_mending_16 [1, 2, 0] rfl rfl (Nat.le_of_ble_eq_true rfl) ?_
    refine r_aload_n X dX9_mending_17 0 rfl rfl ?_
    refine r_iload_n X dX9_mending_18 1 rfl rfl ?_
    refine r_iconst X dX9_mending_19 (v := 0) (by decide) ?_
    obtain ⟨u6, s4, e5, h⟩ := bd2_ok h
    refine kX9_its X (ctX9_its e5) dX9_mending_20 lM_0 g_916 (Nat.le_of_ble_eq_true rfl) (Nat.le_of_ble_eq_true rfl) ?_
    by_cases c7 : u6 = 1
    · rw [if_pos c7] at h
      refine r_tabIn X 60 (1) (by rw [c7]; decide) dX9_mending_23 (by decide) (by decide) rfl (by decide) ?_
      refine r_iload_n X dX9_mending_60 2 rfl rfl ?_
      exact s_iret X hlk hr dX9_mending_61 h
    rw [if_neg c7] at h
    by_cases c8 : u6 = 2
    · rw [if_pos c8] at h
      refine r_tabIn X 83 (2) (by rw [c8]; decide) dX9_mending_23 (by decide) (by decide) rfl (by decide) ?_
      refine r_iconst X dX9_mending_83 (v := 1) (by decide) ?_
      exact s_iret X hlk hr dX9_mending_84 h
    rw [if_neg c8] at h
    by_cases c9 : u6 = 3
    · rw [if_pos c9] at h
      refine r_tabIn X 62 (3) (by rw [c9]; decide) dX9_mending_23 (by decide) (by decide) rfl (by decide) ?_
      refine r_iconst X dX9_mending_62 (v := 0) (by decide) ?_
      exact s_iret X hlk hr dX9_mending_63 h
    rw [if_neg c9] at h
    by_cases c10 : u6 = 4
    · rw [if_pos c10] at h
      refine r_tabIn X 60 (4) (by rw [c10]; decide) dX9_mending_23 (by decide) (by decide) rfl (by decide) ?_
      refine r_iload_n X dX9_mending_60 2 rfl rfl ?_
      exact s_iret X hlk hr dX9_mending_61 h
    rw [if_neg c10] at h
    by_cases c11 : u6 = 5
    · rw [if_pos c11] at h
      refine r_tabIn X 81 (5) (by rw [c11]; decide) dX9_mending_23 (by decide) (by decide) rfl (by decide) ?_
      refine r_iconst X dX9_mending_81 (v := 2) (by decide) ?_
      exact s_iret X hlk hr dX9_mending_82 h
    rw [if_neg c11] at h
    by_cases c12 : u6 = 6
    · rw [if_pos c12] at h
      refine r_tabIn X 64 (6) (by rw [c12]; decide) dX9_mending_23 (by decide) (by decide) rfl (by decide) ?_
      refine r_aload_n X dX9_mending_64 0 rfl rfl ?_
      refine r_iload_n X dX9_mending_65 1 rfl rfl ?_
      refine r_iconst X dX9_mending_66 (v := 1) (by decide) ?_
      obtain ⟨u15, s13, e14, h⟩ := bd2_ok h
      refine kX9_its X (ctX9_its e14) dX9_mending_67 lM_0 g_916 (Nat.le_of_ble_eq_true rfl) (Nat.le_of_ble_eq_true rfl) ?_
      refine r_iconst X dX9_mending_70 (v := 2) (by decide) ?_
      refine s_irem X dX9_mending_71 (by decide) ?_
      refine r_if_ne X 79 dX9_mending_72 (by decide) (fun c16 => ?_) (fun c16 => ?_)
      · rw [if_neg c16] at h
        refine r_iconst X dX9_mending_79 (v := 0) (by decide) ?_
        exact s_iret X hlk hr dX9_mending_80 h
      · rw [if_pos c16] at h
        refine r_iconst X dX9_mending_75 (v := 1) (by decide) ?_
        refine r_goto X 80 dX9_mending_76 (by decide) ?_
        exact s_iret X hlk hr dX9_mending_80 h
    rw [if_neg c12] at h
    have nc7 := lv_neT (k := 1) c7 (a := 1) (by decide)
    have nc8 := lv_neT (k := 2) c8 (a := 2) (by decide)
    have nc9 := lv_neT (k := 3) c9 (a := 3) (by decide)
    have nc10 := lv_neT (k := 4) c10 (a := 4) (by decide)
    have nc11 := lv_neT (k := 5) c11 (a := 5) (by decide)
    have nc12 := lv_neT (k := 6) c12 (a := 6) (by decide)
    refine r_tabOut X 83 dX9_mending_23 (by omega) (by decide) ?_
    refine r_iconst X dX9_mending_83 (v := 1) (by decide) ?_
    exact s_iret X hlk hr dX9_mending_84 h
  refine r_if_ne X 15 dX9_mending_8 (by decide) (fun c17 => ?_) (fun c17 => ?_)
  · rw [if_neg c17] at h
    refine r_iconst X dX9_mending_15 (v := 1) (by decide) ?_
    exact hj16 _ h
  · rw [if_pos c17] at h
    refine r_iconst X dX9_mending_11 (v := 0) (by decide) ?_
    refine r_goto X 16 dX9_mending_12 (by decide) ?_
    exact hj16 _ h
/-! X9_fat -/
theorem nX9_fat : yX9_fat.cls ≠ "java/lang/invoke/MethodHandle" ∧ yX9_fat.cls ≠ "java/lang/invoke/VarHandle" ∧ (parseMethodDescriptor yX9_fat.desc).map (fun d => d.parameters.length) = some 1 := by decide +kernel
theorem kX9_fat {l : Launch} {E : EE} {p : Program} {e : Env} {ms : State} {m : MethodId} {args : Array Value} {below : List Frame} {meth : Method} {c : Code} {cc : ByteArray} {own : String} {nL pc idx d D : Nat} {Q : State → Prop} {L : List (Nat × Value)} {rest : List Value} {σ τ : St} {a1 : Int32} {r : Int32} {fl : List (Option Nat)} (X : Cx E layM p ms m args c cc own nL) (hM : Ct l E layM yX9_fat cX9_fat 2 (some .int) d [.ref (ea E 0), .int a1] σ (some (.int r)) τ) (hd : decode cc pc = .ok (.invokevirtual idx, 3)) (hlay : layM[0]? = some (.inl (8, fl))) (w1 : Cond.methodLink own idx yX9_fat ∈ gw) (hR : d + 1 ≤ D) (hrs : (rest.map fun v => v.category).sum ≤ 8) (k : AW E layM p l e (rmD D) ms m args below meth c nL 0 0 Q (pc + 3) L (.int r :: rest) τ) : AW E layM p l e (rmD D) ms m args below meth c nL 0 0 Q pc L (.int a1 :: .ref (ea E 0) :: rest) σ :=
  s_callV X [.int a1] rest hM hd v_X9 hlay w1 g_934 g_30 g_77 g_935 nX9_fat rfl rfl hrs (Nat.le_of_ble_eq_true rfl) hR k
def fX9_fat (a1 : Int32) (s0 : St) : Option (Int32 × St) :=
    bd1 (ald s0 1 257 (41 + a1)) fun v2 =>
    bd1 (ald s0 1 257 ((9 + (2 * v2)) + 1)) fun v4 =>
    some (v4, s0)
set_option maxHeartbeats 4000000 in
set_option maxRecDepth 100000 in
theorem ctX9_fat {l : Launch} {E : EE} {a1 : Int32} {s0 : St} {r9 : Int32} {t9 : St}  (h : fX9_fat a1 s0 = some (r9, t9)) : Ct l E layM yX9_fat cX9_fat 2 (some .int) 0 [.ref (ea E 0), .int a1] s0 (some (.int r9)) t9 := by
  refine Ct.of (by decide) (Nat.le_of_ble_eq_true rfl) ?_
  intro p e ms m below meth c X hlk hr
  have X : Cx E layM p ms m [.ref (ea E 0), .int a1].toArray c cX9_fat RX9 2 := X
  refine r_sub (L' := [(0, .ref (ea E 0)), (1, .int a1)]) [0, 1] rfl ?_
  unfold fX9_fat at h
  refine r_aload_n X dX9_fat_0 0 rfl rfl ?_
  refine r_getr X dX9_fat_1 i_X9 v_X9 lM_0 0 rfl (Nat.le_of_ble_eq_true rfl) g_774 ?_
  refine r_bipush X dX9_fat_4 (v := 9) (by decide) ?_
  refine r_iconst X dX9_fat_6 (v := 2) (by decide) ?_
  refine r_aload_n X dX9_fat_7 0 rfl rfl ?_
  refine r_getr X dX9_fat_8 i_X9 v_X9 lM_0 0 rfl (Nat.le_of_ble_eq_true rfl) g_774 ?_
  refine r_bipush X dX9_fat_11 (v := 41) (by decide) ?_
  refine r_iload_n X dX9_fat_13 1 rfl rfl ?_
  refine r_iadd X dX9_fat_14 ?_
  obtain ⟨g1, v2, ev2, h⟩ := ld_ok h
  refine s_iald X dX9_fat_15 lM_1 g1 ev2 ?_
  refine r_imul X dX9_fat_16 ?_
  refine r_iadd X dX9_fat_17 ?_
  refine r_iconst X dX9_fat_18 (v := 1) (by decide) ?_
  refine r_iadd X dX9_fat_19 ?_
  obtain ⟨g3, v4, ev4, h⟩ := ld_ok h
  refine s_iald X dX9_fat_20 lM_1 g3 ev4 ?_
  exact s_iret X hlk hr dX9_fat_21 h
/-! X9_sweet -/
theorem nX9_sweet : yX9_sweet.cls ≠ "java/lang/invoke/MethodHandle" ∧ yX9_sweet.cls ≠ "java/lang/invoke/VarHandle" ∧ (parseMethodDescriptor yX9_sweet.desc).map (fun d => d.parameters.length) = some 1 := by decide +kernel
theorem kX9_sweet {l : Launch} {E : EE} {p : Program} {e : Env} {ms : State} {m : MethodId} {args : Array Value} {below : List Frame} {meth : Method} {c : Code} {cc : ByteArray} {own : String} {nL pc idx d D : Nat} {Q : State → Prop} {L : List (Nat × Value)} {rest : List Value} {σ τ : St} {a1 : Int32} {r : Int32} {fl : List (Option Nat)} (X : Cx E layM p ms m args c cc own nL) (hM : Ct l E layM yX9_sweet cX9_sweet 2 (some .int) d [.ref (ea E 0), .int a1] σ (some (.int r)) τ) (hd : decode cc pc = .ok (.invokevirtual idx, 3)) (hlay : layM[0]? = some (.inl (8, fl))) (w1 : Cond.methodLink own idx yX9_sweet ∈ gw) (hR : d + 1 ≤ D) (hrs : (rest.map fun v => v.category).sum ≤ 8) (k : AW E layM p l e (rmD D) ms m args below meth c nL 0 0 Q (pc + 3) L (.int r :: rest) τ) : AW E layM p l e (rmD D) ms m args below meth c nL 0 0 Q pc L (.int a1 :: .ref (ea E 0) :: rest) σ :=
  s_callV X [.int a1] rest hM hd v_X9 hlay w1 g_938 g_31 g_77 g_939 nX9_sweet rfl rfl hrs (Nat.le_of_ble_eq_true rfl) hR k
def fX9_sweet (a1 : Int32) (s0 : St) : Option (Int32 × St) :=
    bd1 (ald s0 1 257 (41 + a1)) fun v2 =>
    bd1 (ald s0 1 257 (9 + (2 * v2))) fun v4 =>
    some (v4, s0)
set_option maxHeartbeats 4000000 in
set_option maxRecDepth 100000 in
theorem ctX9_sweet {l : Launch} {E : EE} {a1 : Int32} {s0 : St} {r9 : Int32} {t9 : St}  (h : fX9_sweet a1 s0 = some (r9, t9)) : Ct l E layM yX9_sweet cX9_sweet 2 (some .int) 0 [.ref (ea E 0), .int a1] s0 (some (.int r9)) t9 := by
  refine Ct.of (by decide) (Nat.le_of_ble_eq_true rfl) ?_
  intro p e ms m below meth c X hlk hr
  have X : Cx E layM p ms m [.ref (ea E 0), .int a1].toArray c cX9_sweet RX9 2 := X
  refine r_sub (L' := [(0, .ref (ea E 0)), (1, .int a1)]) [0, 1] rfl ?_
  unfold fX9_sweet at h
  refine r_aload_n X dX9_sweet_0 0 rfl rfl ?_
  refine r_getr X dX9_sweet_1 i_X9 v_X9 lM_0 0 rfl (Nat.le_of_ble_eq_true rfl) g_774 ?_
  refine r_bipush X dX9_sweet_4 (v := 9) (by decide) ?_
  refine r_iconst X dX9_sweet_6 (v := 2) (by decide) ?_
  refine r_aload_n X dX9_sweet_7 0 rfl rfl ?_
  refine r_getr X dX9_sweet_8 i_X9 v_X9 lM_0 0 rfl (Nat.le_of_ble_eq_true rfl) g_774 ?_
  refine r_bipush X dX9_sweet_11 (v := 41) (by decide) ?_
  refine r_iload_n X dX9_sweet_13 1 rfl rfl ?_
  refine r_iadd X dX9_sweet_14 ?_
  obtain ⟨g1, v2, ev2, h⟩ := ld_ok h
  refine s_iald X dX9_sweet_15 lM_1 g1 ev2 ?_
  refine r_imul X dX9_sweet_16 ?_
  refine r_iadd X dX9_sweet_17 ?_
  obtain ⟨g3, v4, ev4, h⟩ := ld_ok h
  refine s_iald X dX9_sweet_18 lM_1 g3 ev4 ?_
  exact s_iret X hlk hr dX9_sweet_19 h
/-! X9_leaving -/
theorem nX9_leaving : yX9_leaving.cls ≠ "java/lang/invoke/MethodHandle" ∧ yX9_leaving.cls ≠ "java/lang/invoke/VarHandle" ∧ (parseMethodDescriptor yX9_leaving.desc).map (fun d => d.parameters.length) = some 2 := by decide +kernel
theorem kX9_leaving {l : Launch} {E : EE} {p : Program} {e : Env} {ms : State} {m : MethodId} {args : Array Value} {below : List Frame} {meth : Method} {c : Code} {cc : ByteArray} {own : String} {nL pc idx d D : Nat} {Q : State → Prop} {L : List (Nat × Value)} {rest : List Value} {σ τ : St} {a1 : Int32} {a2 : Int32} {r : Int32} {fl : List (Option Nat)} (X : Cx E layM p ms m args c cc own nL) (hM : Ct l E layM yX9_leaving cX9_leaving 8 (some .int) d [.ref (ea E 0), .int a1, .int a2] σ (some (.int r)) τ) (hd : decode cc pc = .ok (.invokevirtual idx, 3)) (hlay : layM[0]? = some (.inl (8, fl))) (w1 : Cond.methodLink own idx yX9_leaving ∈ gw) (hR : d + 1 ≤ D) (hrs : (rest.map fun v => v.category).sum ≤ 8) (k : AW E layM p l e (rmD D) ms m args below meth c nL 0 0 Q (pc + 3) L (.int r :: rest) τ) : AW E layM p l e (rmD D) ms m args below meth c nL 0 0 Q pc L (.int a2 :: .int a1 :: .ref (ea E 0) :: rest) σ :=
  s_callV X [.int a1, .int a2] rest hM hd v_X9 hlay w1 g_930 g_29 g_77 g_931 nX9_leaving rfl rfl hrs (Nat.le_of_ble_eq_true rfl) hR k
def fX9_leaving (a1 : Int32) (a2 : Int32) (s0 : St) : Option (Int32 × St) :=
    bd2 (fX9_its a1 2 s0) fun u3 s1 =>
    bd2 (fX9_its a1 1 s1) fun u6 s4 =>
    bd2 (fX9_fat a2 s4) fun u9 s7 =>
    jn (fun (w10 : Int32) =>
    bd2 (fX9_sweet a2 s7) fun u13 s11 =>
    jn (fun (w14 : Int32) =>
    bd2 (fX9_sweet a2 s11) fun u17 s15 =>
    jn (fun (w18 : Int32) =>
    bd2 (fX9_its a1 0 s15) fun u21 s19 =>
    if u21 = 1 then
    some (u3 / 2, s19)
    else if u21 = 2 then
    some (((u3 / 3) + w10) + w14, s19)
    else if u21 = 3 then
    some (w18, s19)
    else if u21 = 4 then
    some ((u3 / 2) - 1, s19)
    else if u21 = 5 then
    bd1 (ald s19 1 257 0) fun v28 =>
    jn (fun (_ : Unit) =>
    some (((u3 / 3) + w10) + w14, s19)) fun j155 =>
    if (irm v28 2) = 1 then
    if u6 ≤ u3 then
    j155 ()
    else
    some (4, s19)
    else
    j155 ()
    else if u21 = 6 then
    some (w18 + (u6 / 3), s19)
    else some ((u3 / 3) + w10, s19)) fun j72 =>
    if (u17 + u3) ≤ 9 then
    j72 ((u3 / 3) + w10)
    else
    j72 4) fun j51 =>
    if u13 ≤ 5 then
    j51 0
    else
    j51 1) fun j32 =>
    if u9 ≤ 5 then
    j32 0
    else
    j32 1
set_option maxHeartbeats 4000000 in
set_option maxRecDepth 100000 in
theorem ctX9_leaving {l : Launch} {E : EE} {a1 : Int32} {a2 : Int32} {s0 : St} {r9 : Int32} {t9 : St}  (h : fX9_leaving a1 a2 s0 = some (r9, t9)) : Ct l E layM yX9_leaving cX9_leaving 8 (some .int) 1 [.ref (ea E 0), .int a1, .int a2] s0 (some (.int r9)) t9 := by
  refine Ct.of (by decide) (Nat.le_of_ble_eq_true rfl) ?_
  intro p e ms m below meth c X hlk hr
  have X : Cx E layM p ms m [.ref (ea E 0), .int a1, .int a2].toArray c cX9_leaving RX9 8 := X
  refine r_sub (L' := [(0, .ref (ea E 0)), (1, .int a1), (2, .int a2)]) [0, 1, 2] rfl ?_
  unfold fX9_leaving at h
  refine r_aload_n X dX9_leaving_0 0 rfl rfl ?_
  refine r_iload_n X dX9_leaving_1 1 rfl rfl ?_
  refine r_iconst X dX9_leaving_2 (v := 2) (by decide) ?_
  obtain ⟨u3, s1, e2, h⟩ := bd2_ok h
  refine kX9_its X (ctX9_its e2) dX9_leaving_3 lM_0 g_916 (Nat.le_of_ble_eq_true rfl) (Nat.le_of_ble_eq_true rfl) ?_
  refine r_istore_n (L' := [(0, .ref (ea E 0)), (1, .int a1), (2, .int a2), (3, .int u3)]) X dX9_leaving_6 [1, 2, 3, 0] rfl rfl (Nat.le_of_ble_eq_true rfl) ?_
  refine r_aload_n X dX9_leaving_7 0 rfl rfl ?_
  refine r_iload_n X dX9_leaving_8 1 rfl rfl ?_
  refine r_iconst X dX9_leaving_9 (v := 1) (by decide) ?_
  obtain ⟨u6, s4, e5, h⟩ := bd2_ok h
  refine kX9_its X (ctX9_its e5) dX9_leaving_10 lM_0 g_916 (Nat.le_of_ble_eq_true rfl) (Nat.le_of_ble_eq_true rfl) ?_
  refine r_istore (L' := [(0, .ref (ea E 0)), (1, .int a1), (2, .int a2), (3, .int u3), (4, .int u6)]) X dX9_leaving_13 [1, 2, 3, 4, 0] rfl (Nat.le_of_ble_eq_true rfl) ?_
  refine r_iload_n X dX9_leaving_15 3 rfl rfl ?_
  refine r_iconst X dX9_leaving_16 (v := 3) (by decide) ?_
  refine r_idiv X dX9_leaving_17 (by decide) ?_
  refine r_aload_n X dX9_leaving_18 0 rfl rfl ?_
  refine r_iload_n X dX9_leaving_19 2 rfl rfl ?_
  obtain ⟨u9, s7, e8, h⟩ := bd2_ok h
  refine kX9_fat X (ctX9_fat e8) dX9_leaving_20 lM_0 g_932 (Nat.le_of_ble_eq_true rfl) (Nat.le_of_ble_eq_true rfl) ?_
  refine r_iconst X dX9_leaving_23 (v := 5) (by decide) ?_
  obtain ⟨j32, ej32, h⟩ := jn1_ok h
  have hj32 : ∀ (w10 : Int32), j32 w10 = some (r9, t9) → AW E layM p l e (rmD 1) ms m [.ref (ea E 0), .int a1, .int a2].toArray below meth c 8 0 0 (MQc E layM below [.ref (ea E 0), .int a1, .int a2].toArray ms (some (.int r9)) t9) 32 [(0, .ref (ea E 0)), (1, .int a1), (2, .int a2), (3, .int u3), (4, .int u6)] [.int w10, .int (u3 / 3)] s7 := by
    intro w10 h
    rw [ej32] at h
    refine r_iadd X dX9_leaving_32 ?_
    refine r_istore (L' := [(0, .ref (ea E 0)), (1, .int a1), (2, .int a2), (3, .int u3), (4, .int u6), (5, .int ((u3 / 3) + w10))]) X dX9_leaving_33 [1, 2, 3, 4, 5, 0] rfl (Nat.le_of_ble_eq_true rfl) ?_
    refine r_iload X dX9_leaving_35 5 rfl ?_
    refine r_aload_n X dX9_leaving_37 0 rfl rfl ?_
    refine r_iload_n X dX9_leaving_38 2 rfl rfl ?_
    obtain ⟨u13, s11, e12, h⟩ := bd2_ok h
    refine kX9_sweet X (ctX9_sweet e12) dX9_leaving_39 lM_0 g_936 (Nat.le_of_ble_eq_true rfl) (Nat.le_of_ble_eq_true rfl) ?_
    refine r_iconst X dX9_leaving_42 (v := 5) (by decide) ?_
    obtain ⟨j51, ej51, h⟩ := jn1_ok h
    have hj51 : ∀ (w14 : Int32), j51 w14 = some (r9, t9) → AW E layM p l e (rmD 1) ms m [.ref (ea E 0), .int a1, .int a2].toArray below meth c 8 0 0 (MQc E layM below [.ref (ea E 0), .int a1, .int a2].toArray ms (some (.int r9)) t9) 51 [(0, .ref (ea E 0)), (1, .int a1), (2, .int a2), (3, .int u3), (4, .int u6), (5, .int ((u3 / 3) + w10))] [.int w14, .int ((u3 / 3) + w10)] s11 := by
      intro w14 h
      rw [ej51] at h
      refine r_iadd X dX9_leaving_51 ?_
      refine r_istore (L' := [(0, .ref (ea E 0)), (1, .int a1), (2, .int a2), (3, .int u3), (4, .int u6), (5, .int ((u3 / 3) + w10)), (6, .int (((u3 / 3) + w10) + w14))]) X dX9_leaving_52 [1, 2, 3, 4, 5, 6, 0] rfl (Nat.le_of_ble_eq_true rfl) ?_
      refine r_aload_n X dX9_leaving_54 0 rfl rfl ?_
      refine r_iload_n X dX9_leaving_55 2 rfl rfl ?_
      obtain ⟨u17, s15, e16, h⟩ := bd2_ok h
      refine kX9_sweet X (ctX9_sweet e16) dX9_leaving_56 lM_0 g_936 (Nat.le_of_ble_eq_true rfl) (Nat.le_of_ble_eq_true rfl) ?_
      refine r_iload_n X dX9_leaving_59 3 rfl rfl ?_
      refine r_iadd X dX9_leaving_60 ?_
      refine r_bipush X dX9_leaving_61 (v := 9) (by decide) ?_
      obtain ⟨j72, ej72, h⟩ := jn1_ok h
      have hj72 : ∀ (w18 : Int32), j72 w18 = some (r9, t9) → AW E layM p l e (rmD 1) ms m [.ref (ea E 0), .int a1, .int a2].toArray below meth c 8 0 0 (MQc E layM below [.ref (ea E 0), .int a1, .int a2].toArray ms (some (.int r9)) t9) 72 [(0, .ref (ea E 0)), (1, .int a1), (3, .int u3), (4, .int u6), (5, .int ((u3 / 3) + w10)), (6, .int (((u3 / 3) + w10) + w14))] [.int w18] s15 := by
        intro w18 h
        rw [ej72] at h
        refine r_istore (L' := [(0, .ref (ea E 0)), (1, .int a1), (3, .int u3), (4, .int u6), (5, .int ((u3 / 3) + w10)), (6, .int (((u3 / 3) + w10) + w14)), (7, .int w18)]) X dX9_leaving_72 [1, 2, 3, 4, 5, 6, 0] rfl (Nat.le_of_ble_eq_true rfl) ?_
        refine r_aload_n X dX9_leaving_74 0 rfl rfl ?_
        refine r_iload_n X dX9_leaving_75 1 rfl rfl ?_
        refine r_iconst X dX9_leaving_76 (v := 0) (by decide) ?_
        obtain ⟨u21, s19, e20, h⟩ := bd2_ok h
        refine kX9_its X (ctX9_its e20) dX9_leaving_77 lM_0 g_916 (Nat.le_of_ble_eq_true rfl) (Nat.le_of_ble_eq_true rfl) ?_
        by_cases c22 : u21 = 1
        · rw [if_pos c22] at h
          refine r_tabIn X 120 (1) (by rw [c22]; decide) dX9_leaving_80 (by decide) (by decide) rfl (by decide) ?_
          refine r_iload_n X dX9_leaving_120 2 rfl rfl ?_
          refine r_iconst X dX9_leaving_121 (v := 2) (by decide) ?_
          refine r_idiv X dX9_leaving_122 (by decide) ?_
          exact s_iret X hlk hr dX9_leaving_123 h
        rw [if_neg c22] at h
        by_cases c23 : u21 = 2
        · rw [if_pos c23] at h
          refine r_tabIn X 130 (2) (by rw [c23]; decide) dX9_leaving_80 (by decide) (by decide) rfl (by decide) ?_
          refine r_iload X dX9_leaving_130 5 rfl ?_
          exact s_iret X hlk hr dX9_leaving_132 h
        rw [if_neg c23] at h
        by_cases c24 : u21 = 3
        · rw [if_pos c24] at h
          refine r_tabIn X 158 (3) (by rw [c24]; decide) dX9_leaving_80 (by decide) (by decide) rfl (by decide) ?_
          refine r_iload X dX9_leaving_158 6 rfl ?_
          exact s_iret X hlk hr dX9_leaving_160 h
        rw [if_neg c24] at h
        by_cases c25 : u21 = 4
        · rw [if_pos c25] at h
          refine r_tabIn X 124 (4) (by rw [c25]; decide) dX9_leaving_80 (by decide) (by decide) rfl (by decide) ?_
          refine r_iload_n X dX9_leaving_124 2 rfl rfl ?_
          refine r_iconst X dX9_leaving_125 (v := 2) (by decide) ?_
          refine r_idiv X dX9_leaving_126 (by decide) ?_
          refine r_iconst X dX9_leaving_127 (v := 1) (by decide) ?_
          refine r_isub X dX9_leaving_128 ?_
          exact s_iret X hlk hr dX9_leaving_129 h
        rw [if_neg c25] at h
        by_cases c26 : u21 = 5
        · rw [if_pos c26] at h
          refine r_tabIn X 133 (5) (by rw [c26]; decide) dX9_leaving_80 (by decide) (by decide) rfl (by decide) ?_
          refine r_aload_n X dX9_leaving_133 0 rfl rfl ?_
          refine r_getr X dX9_leaving_134 i_X9 v_X9 lM_0 0 rfl (Nat.le_of_ble_eq_true rfl) g_774 ?_
          refine r_iconst X dX9_leaving_137 (v := 0) (by decide) ?_
          obtain ⟨g27, v28, ev28, h⟩ := ld_ok h
          refine s_iald X dX9_leaving_138 lM_1 g27 ev28 ?_
          refine r_iconst X dX9_leaving_139 (v := 2) (by decide) ?_
          refine s_irem X dX9_leaving_140 (by decide) ?_
          refine r_iconst X dX9_leaving_141 (v := 1) (by decide) ?_
          obtain ⟨j155, ej155, h⟩ := jn1_ok h
          have hj155 : ∀ (u : Unit), j155 u = some (r9, t9) → AW E layM p l e (rmD 1) ms m [.ref (ea E 0), .int a1, .int a2].toArray below meth c 8 0 0 (MQc E layM below [.ref (ea E 0), .int a1, .int a2].toArray ms (some (.int r9)) t9) 155 [(6, .int (((u3 / 3) + w10) + w14))] [] s19 := by
            intro u h
            rw [ej155] at h
            refine r_iload X dX9_leaving_155 0 rfl ?_
            exact s_iret X hlk hr dX9_leaving_157 h
          refine r_icmp_ne X 155 dX9_leaving_142 (by decide) (fun c30 => ?_) (fun c30 => ?_)
          · rw [if_neg c30] at h
            refine r_sub (L' := [(6, .int (((u3 / 3) + w10) + w14))]) [5] rfl ?_
            exact hj155 _ h
          · rw [if_pos c30] at h
            refine r_iload X dX9_leaving_145 3 rfl ?_
            refine r_iload_n X dX9_leaving_147 2 rfl rfl ?_
            refine r_icmp_le X 155 dX9_leaving_148 (by decide) (fun c29 => ?_) (fun c29 => ?_)
            · rw [if_pos c29] at h
              refine r_sub (L' := [(6, .int (((u3 / 3) + w10) + w14))]) [5] rfl ?_
              exact hj155 _ h
            · rw [if_neg c29] at h
              refine r_iconst X dX9_leaving_151 (v := 4) (by decide) ?_
              refine r_goto X 157 dX9_leaving_152 (by decide) ?_
              exact s_iret X hlk hr dX9_leaving_157 h
        rw [if_neg c26] at h
        by_cases c31 : u21 = 6
        · rw [if_pos c31] at h
          refine r_tabIn X 161 (6) (by rw [c31]; decide) dX9_leaving_80 (by decide) (by decide) rfl (by decide) ?_
          refine r_iload X dX9_leaving_161 6 rfl ?_
          refine r_iload X dX9_leaving_163 3 rfl ?_
          refine r_iconst X dX9_leaving_165 (v := 3) (by decide) ?_
          refine r_idiv X dX9_leaving_166 (by decide) ?_
          refine r_iadd X dX9_leaving_167 ?_
          exact s_iret X hlk hr dX9_leaving_168 h
        rw [if_neg c31] at h
        have nc22 := lv_neT (k := 1) c22 (a := 1) (by decide)
        have nc23 := lv_neT (k := 2) c23 (a := 2) (by decide)
        have nc24 := lv_neT (k := 3) c24 (a := 3) (by decide)
        have nc25 := lv_neT (k := 4) c25 (a := 4) (by decide)
        have nc26 := lv_neT (k := 5) c26 (a := 5) (by decide)
        have nc31 := lv_neT (k := 6) c31 (a := 6) (by decide)
        refine r_tabOut X 169 dX9_leaving_80 (by omega) (by decide) ?_
        refine r_iload X dX9_leaving_169 4 rfl ?_
        exact s_iret X hlk hr dX9_leaving_171 h
      refine r_icmp_le X 70 dX9_leaving_63 (by decide) (fun c32 => ?_) (fun c32 => ?_)
      · rw [if_pos c32] at h
        refine r_iload X dX9_leaving_70 5 rfl ?_
        refine r_sub (L' := [(0, .ref (ea E 0)), (1, .int a1), (3, .int u3), (4, .int u6), (5, .int ((u3 / 3) + w10)), (6, .int (((u3 / 3) + w10) + w14))]) [0, 1, 3, 4, 5, 6] rfl ?_
        exact hj72 _ h
      · rw [if_neg c32] at h
        refine r_iconst X dX9_leaving_66 (v := 4) (by decide) ?_
        refine r_goto X 72 dX9_leaving_67 (by decide) ?_
        refine r_sub (L' := [(0, .ref (ea E 0)), (1, .int a1), (3, .int u3), (4, .int u6), (5, .int ((u3 / 3) + w10)), (6, .int (((u3 / 3) + w10) + w14))]) [0, 1, 3, 4, 5, 6] rfl ?_
        exact hj72 _ h
    refine r_icmp_le X 50 dX9_leaving_43 (by decide) (fun c33 => ?_) (fun c33 => ?_)
    · rw [if_pos c33] at h
      refine r_iconst X dX9_leaving_50 (v := 0) (by decide) ?_
      exact hj51 _ h
    · rw [if_neg c33] at h
      refine r_iconst X dX9_leaving_46 (v := 1) (by decide) ?_
      refine r_goto X 51 dX9_leaving_47 (by decide) ?_
      exact hj51 _ h
  refine r_icmp_le X 31 dX9_leaving_24 (by decide) (fun c34 => ?_) (fun c34 => ?_)
  · rw [if_pos c34] at h
    refine r_iconst X dX9_leaving_31 (v := 0) (by decide) ?_
    exact hj32 _ h
  · rw [if_neg c34] at h
    refine r_iconst X dX9_leaving_27 (v := 1) (by decide) ?_
    refine r_goto X 32 dX9_leaving_28 (by decide) ?_
    exact hj32 _ h
/-! X9_byteAt -/
theorem nX9_byteAt : yX9_byteAt.cls ≠ "java/lang/invoke/MethodHandle" ∧ yX9_byteAt.cls ≠ "java/lang/invoke/VarHandle" ∧ (parseMethodDescriptor yX9_byteAt.desc).map (fun d => d.parameters.length) = some 1 := by decide +kernel
theorem kX9_byteAt {l : Launch} {E : EE} {p : Program} {e : Env} {ms : State} {m : MethodId} {args : Array Value} {below : List Frame} {meth : Method} {c : Code} {cc : ByteArray} {own : String} {nL pc idx d D : Nat} {Q : State → Prop} {L : List (Nat × Value)} {rest : List Value} {σ τ : St} {a1 : Int32} {r : Int32} {fl : List (Option Nat)} (X : Cx E layM p ms m args c cc own nL) (hM : Ct l E layM yX9_byteAt cX9_byteAt 2 (some .int) d [.ref (ea E 0), .int a1] σ (some (.int r)) τ) (hd : decode cc pc = .ok (.invokevirtual idx, 3)) (hlay : layM[0]? = some (.inl (8, fl))) (w1 : Cond.methodLink own idx yX9_byteAt ∈ gw) (hR : d + 1 ≤ D) (hrs : (rest.map fun v => v.category).sum ≤ 8) (k : AW E layM p l e (rmD D) ms m args below meth c nL 0 0 Q (pc + 3) L (.int r :: rest) τ) : AW E layM p l e (rmD D) ms m args below meth c nL 0 0 Q pc L (.int a1 :: .ref (ea E 0) :: rest) σ :=
  s_callV X [.int a1] rest hM hd v_X9 hlay w1 g_978 g_41 g_77 g_979 nX9_byteAt rfl rfl hrs (Nat.le_of_ble_eq_true rfl) hR k
def fX9_byteAt (a1 : Int32) (s0 : St) : Option (Int32 × St) :=
    if (s0 0 9) ≤ a1 then
    some ((-1), s0)
    else
    bd1 (ald s0 1 257 ((157 + (50 * (s0 0 7))) + a1)) fun v2 =>
    some (v2, s0)
set_option maxHeartbeats 4000000 in
set_option maxRecDepth 100000 in
theorem ctX9_byteAt {l : Launch} {E : EE} {a1 : Int32} {s0 : St} {r9 : Int32} {t9 : St}  (h : fX9_byteAt a1 s0 = some (r9, t9)) : Ct l E layM yX9_byteAt cX9_byteAt 2 (some .int) 0 [.ref (ea E 0), .int a1] s0 (some (.int r9)) t9 := by
  refine Ct.of (by decide) (Nat.le_of_ble_eq_true rfl) ?_
  intro p e ms m below meth c X hlk hr
  have X : Cx E layM p ms m [.ref (ea E 0), .int a1].toArray c cX9_byteAt RX9 2 := X
  refine r_sub (L' := [(0, .ref (ea E 0)), (1, .int a1)]) [0, 1] rfl ?_
  unfold fX9_byteAt at h
  refine r_iload_n X dX9_byteAt_0 1 rfl rfl ?_
  refine r_aload_n X dX9_byteAt_1 0 rfl rfl ?_
  refine r_geti X dX9_byteAt_2 i_X9 v_X9 lM_0 9 rfl (Nat.le_of_ble_eq_true rfl) g_783 ?_
  refine r_icmp_ge X 29 dX9_byteAt_5 (by decide) (fun c3 => ?_) (fun c3 => ?_)
  · rw [if_pos c3] at h
    refine r_iconst X dX9_byteAt_29 (v := (-1)) (by decide) ?_
    exact s_iret X hlk hr dX9_byteAt_30 h
  · rw [if_neg c3] at h
    refine r_aload_n X dX9_byteAt_8 0 rfl rfl ?_
    refine r_getr X dX9_byteAt_9 i_X9 v_X9 lM_0 0 rfl (Nat.le_of_ble_eq_true rfl) g_774 ?_
    refine r_sipush X dX9_byteAt_12 (v := 157) (by decide) ?_
    refine r_bipush X dX9_byteAt_15 (v := 50) (by decide) ?_
    refine r_aload_n X dX9_byteAt_17 0 rfl rfl ?_
    refine r_geti X dX9_byteAt_18 i_X9 v_X9 lM_0 7 rfl (Nat.le_of_ble_eq_true rfl) g_781 ?_
    refine r_imul X dX9_byteAt_21 ?_
    refine r_iadd X dX9_byteAt_22 ?_
    refine r_iload_n X dX9_byteAt_23 1 rfl rfl ?_
    refine r_iadd X dX9_byteAt_24 ?_
    obtain ⟨g1, v2, ev2, h⟩ := ld_ok h
    refine s_iald X dX9_byteAt_25 lM_1 g1 ev2 ?_
    refine r_goto X 30 dX9_byteAt_26 (by decide) ?_
    exact s_iret X hlk hr dX9_byteAt_30 h
/-! X9_isDigit -/
theorem nX9_isDigit : yX9_isDigit.cls ≠ "java/lang/invoke/MethodHandle" ∧ yX9_isDigit.cls ≠ "java/lang/invoke/VarHandle" ∧ (parseMethodDescriptor yX9_isDigit.desc).map (fun d => d.parameters.length) = some 1 := by decide +kernel
theorem kX9_isDigit {l : Launch} {E : EE} {p : Program} {e : Env} {ms : State} {m : MethodId} {args : Array Value} {below : List Frame} {meth : Method} {c : Code} {cc : ByteArray} {own : String} {nL pc idx d D : Nat} {Q : State → Prop} {L : List (Nat × Value)} {rest : List Value} {σ τ : St} {a0 : Int32} {r : Int32} (X : Cx E layM p ms m args c cc own nL) (hM : Ct l E layM yX9_isDigit cX9_isDigit 1 (some .boolean) d [.int a0] σ (some (.int r)) τ) (hd : decode cc pc = .ok (.invokestatic idx, 3)) (w1 : Cond.methodLink own idx yX9_isDigit ∈ gw) (hR : d + 1 ≤ D) (hrs : (rest.map fun v => v.category).sum ≤ 8) (k : AW E layM p l e (rmD D) ms m args below meth c nL 0 0 Q (pc + 3) L (.int r :: rest) τ) : AW E layM p l e (rmD D) ms m args below meth c nL 0 0 Q pc L (.int a0 :: rest) σ :=
  s_callS X [.int a0] rest hM hd w1 g_981 g_77 g_982 nX9_isDigit rfl rfl hrs (Nat.le_of_ble_eq_true rfl) hR k
def fX9_isDigit (a0 : Int32) (s0 : St) : Option (Int32 × St) :=
    bd2 (fX9_in a0 48 57 s0) fun u3 s1 =>
    gb u3 <| some (u3, s1)
set_option maxHeartbeats 4000000 in
set_option maxRecDepth 100000 in
theorem ctX9_isDigit {l : Launch} {E : EE} {a0 : Int32} {s0 : St} {r9 : Int32} {t9 : St}  (h : fX9_isDigit a0 s0 = some (r9, t9)) : Ct l E layM yX9_isDigit cX9_isDigit 1 (some .boolean) 1 [.int a0] s0 (some (.int r9)) t9 := by
  refine Ct.of (by decide) (Nat.le_of_ble_eq_true rfl) ?_
  intro p e ms m below meth c X hlk hr
  have X : Cx E layM p ms m [.int a0].toArray c cX9_isDigit RX9 1 := X
  refine r_sub (L' := [(0, .int a0)]) [0] rfl ?_
  unfold fX9_isDigit at h
  refine r_iload_n X dX9_isDigit_0 0 rfl rfl ?_
  refine r_bipush X dX9_isDigit_1 (v := 48) (by decide) ?_
  refine r_bipush X dX9_isDigit_3 (v := 57) (by decide) ?_
  obtain ⟨u3, s1, e2, h⟩ := bd2_ok h
  refine kX9_in X (ctX9_in e2) dX9_isDigit_5 g_866 (Nat.le_of_ble_eq_true rfl) (Nat.le_of_ble_eq_true rfl) ?_
  obtain ⟨g4, h⟩ := gb_ok h
  exact s_zret X hlk hr g4.1 dX9_isDigit_8 h
/-! X9_number -/
theorem nX9_number : yX9_number.cls ≠ "java/lang/invoke/MethodHandle" ∧ yX9_number.cls ≠ "java/lang/invoke/VarHandle" ∧ (parseMethodDescriptor yX9_number.desc).map (fun d => d.parameters.length) = some 0 := by decide +kernel
theorem kX9_number {l : Launch} {E : EE} {p : Program} {e : Env} {ms : State} {m : MethodId} {args : Array Value} {below : List Frame} {meth : Method} {c : Code} {cc : ByteArray} {own : String} {nL pc idx d D : Nat} {Q : State → Prop} {L : List (Nat × Value)} {rest : List Value} {σ τ : St}  {r : Int32} {fl : List (Option Nat)} (X : Cx E layM p ms m args c cc own nL) (hM : Ct l E layM yX9_number cX9_number 3 (some .int) d [.ref (ea E 0)] σ (some (.int r)) τ) (hd : decode cc pc = .ok (.invokevirtual idx, 3)) (hlay : layM[0]? = some (.inl (8, fl))) (w1 : Cond.methodLink own idx yX9_number ∈ gw) (hR : d + 1 ≤ D) (hrs : (rest.map fun v => v.category).sum ≤ 8) (k : AW E layM p l e (rmD D) ms m args below meth c nL 0 0 Q (pc + 3) L (.int r :: rest) τ) : AW E layM p l e (rmD D) ms m args below meth c nL 0 0 Q pc L (.ref (ea E 0) :: rest) σ :=
  s_callV X [] rest hM hd v_X9 hlay w1 g_985 g_42 g_77 g_986 nX9_number rfl rfl hrs (Nat.le_of_ble_eq_true rfl) hR k
def fX9_number_4  : Nat → Int32 → Int32 → St → Option (Int32 × St)
  | 0, _, _, _ => none
  | n + 1, a1, a2, s0 =>
    if 4 ≤ a2 then
    some (a1, s0)
    else
    bd2 (fX9_byteAt (s0 0 8) s0) fun u3 s1 =>
    bd2 (fX9_isDigit u3 s1) fun u6 s4 =>
    if u6 = 0 then
    some (a1, s4)
    else
    bd2 (fX9_byteAt (s4 0 8) s4) fun u9 s7 =>
    bd1 (ptf s7 0 8 ((s7 0 8) + 1)) fun s10 =>
    fX9_number_4 n (((10 * a1) + u9) - 48) (a2 + 1) s10
def fX9_number  (s0 : St) : Option (Int32 × St) :=
    bd2 (fX9_number_4 FU 0 0 s0) fun v14 s13 =>
    some (v14, s13)
set_option maxHeartbeats 4000000 in
set_option maxRecDepth 100000 in
theorem LX9_number_4 {l : Launch} {E : EE} {p : Program} {e : Env} {ms : State} {m : MethodId} {args : Array Value} {below : List Frame} {meth : Method} {c : Code}  {Q : State → Prop} (X : Cx E layM p ms m args c cX9_number RX9 3) : ∀ (n : Nat) (a1 : Int32) (a2 : Int32) (s0 : St) (q1 : Int32) (t8 : St), fX9_number_4 n a1 a2 s0 = some (q1, t8) → AW E layM p l e (rmD 2) ms m args below meth c 3 0 0 Q 56 [(1, .int q1)] [] t8 → AW E layM p l e (rmD 2) ms m args below meth c 3 0 0 Q 4 [(0, .ref (ea E 0)), (1, .int a1), (2, .int a2)] [] s0 := by
  intro n
  induction n with
  | zero =>
    intro a1 a2 s0 q1 t8 h hE
    cases h
  | succ n ih =>
    intro a1 a2 s0 q1 t8 h hE
    rw [fX9_number_4] at h
    refine r_iload_n X dX9_number_4 2 rfl rfl ?_
    refine r_iconst X dX9_number_5 (v := 4) (by decide) ?_
    refine r_icmp_ge X 56 dX9_number_6 (by decide) (fun c12 => ?_) (fun c12 => ?_)
    · rw [if_pos c12] at h
      refine r_sub (L' := [(1, .int a1)]) [1] rfl ?_
      cases h
      exact hE
    · rw [if_neg c12] at h
      refine r_aload_n X dX9_number_9 0 rfl rfl ?_
      refine r_aload_n X dX9_number_10 0 rfl rfl ?_
      refine r_geti X dX9_number_11 i_X9 v_X9 lM_0 8 rfl (Nat.le_of_ble_eq_true rfl) g_782 ?_
      obtain ⟨u3, s1, e2, h⟩ := bd2_ok h
      refine kX9_byteAt X (ctX9_byteAt e2) dX9_number_14 lM_0 g_976 (Nat.le_of_ble_eq_true rfl) (Nat.le_of_ble_eq_true rfl) ?_
      obtain ⟨u6, s4, e5, h⟩ := bd2_ok h
      refine kX9_isDigit X (ctX9_isDigit e5) dX9_number_17 g_980 (Nat.le_of_ble_eq_true rfl) (Nat.le_of_ble_eq_true rfl) ?_
      refine r_if_eq X 56 dX9_number_20 (by decide) (fun c11 => ?_) (fun c11 => ?_)
      · rw [if_pos c11] at h
        refine r_sub (L' := [(1, .int a1)]) [1] rfl ?_
        cases h
        exact hE
      · rw [if_neg c11] at h
        refine r_bipush X dX9_number_23 (v := 10) (by decide) ?_
        refine r_iload_n X dX9_number_25 1 rfl rfl ?_
        refine r_imul X dX9_number_26 ?_
        refine r_aload_n X dX9_number_27 0 rfl rfl ?_
        refine r_aload_n X dX9_number_28 0 rfl rfl ?_
        refine r_geti X dX9_number_29 i_X9 v_X9 lM_0 8 rfl (Nat.le_of_ble_eq_true rfl) g_782 ?_
        obtain ⟨u9, s7, e8, h⟩ := bd2_ok h
        refine kX9_byteAt X (ctX9_byteAt e8) dX9_number_32 lM_0 g_976 (Nat.le_of_ble_eq_true rfl) (Nat.le_of_ble_eq_true rfl) ?_
        refine r_iadd X dX9_number_35 ?_
        refine r_bipush X dX9_number_36 (v := 48) (by decide) ?_
        refine r_isub X dX9_number_38 ?_
        refine r_istore_n (L' := [(0, .ref (ea E 0)), (1, .int (((10 * a1) + u9) - 48)), (2, .int a2)]) X dX9_number_39 [1, 0, 2] rfl rfl (Nat.le_of_ble_eq_true rfl) ?_
        refine r_aload_n X dX9_number_40 0 rfl rfl ?_
        refine r_dup X dX9_number_41 rfl ?_
        refine r_geti X dX9_number_42 i_X9 v_X9 lM_0 8 rfl (Nat.le_of_ble_eq_true rfl) g_782 ?_
        refine r_iconst X dX9_number_45 (v := 1) (by decide) ?_
        refine r_iadd X dX9_number_46 ?_
        obtain ⟨s10, es10, h⟩ := pt_ok h
        refine s_puti X dX9_number_47 i_X9 tyX9_ok nmX9 v_X9 lM_0 8 rfl (Nat.le_of_ble_eq_true rfl) g_782 rfl rfl ⟨rfl, rfl⟩ es10 ?_
        refine r_iinc (L' := [(0, .ref (ea E 0)), (1, .int (((10 * a1) + u9) - 48)), (2, .int (a2 + 1))]) (v := a2 + 1) X dX9_number_50 2 rfl rfl [1, 2, 0] rfl (Nat.le_of_ble_eq_true rfl) ?_
        refine r_goto X 4 dX9_number_53 (by decide) ?_
        exact ih _ _ _ _ _ h hE
set_option maxHeartbeats 4000000 in
set_option maxRecDepth 100000 in
theorem ctX9_number {l : Launch} {E : EE}  {s0 : St} {r9 : Int32} {t9 : St}  (h : fX9_number  s0 = some (r9, t9)) : Ct l E layM yX9_number cX9_number 3 (some .int) 2 [.ref (ea E 0)] s0 (some (.int r9)) t9 := by
  refine Ct.of (by decide) (Nat.le_of_ble_eq_true rfl) ?_
  intro p e ms m below meth c X hlk hr
  have X : Cx E layM p ms m [.ref (ea E 0)].toArray c cX9_number RX9 3 := X
  refine r_sub (L' := [(0, .ref (ea E 0))]) [0] rfl ?_
  unfold fX9_number at h
  refine r_iconst X dX9_number_0 (v := 0) (by decide) ?_
  refine r_istore_n (L' := [(0, .ref (ea E 0)), (1, .int 0)]) X dX9_number_1 [1, 0] rfl rfl (Nat.le_of_ble_eq_true rfl) ?_
  refine r_iconst X dX9_number_2 (v := 0) (by decide) ?_
  refine r_istore_n (L' := [(0, .ref (ea E 0)), (1, .int 0), (2, .int 0)]) X dX9_number_3 [1, 2, 0] rfl rfl (Nat.le_of_ble_eq_true rfl) ?_
  obtain ⟨v14, s13, eo, h⟩ := bd2_ok h
  refine LX9_number_4 X FU _ _ _ _ _ eo ?_
  refine r_iload_n X dX9_number_56 0 rfl rfl ?_
  exact s_iret X hlk hr dX9_number_57 h
/-! X9_fails -/
theorem nX9_fails : yX9_fails.cls ≠ "java/lang/invoke/MethodHandle" ∧ yX9_fails.cls ≠ "java/lang/invoke/VarHandle" ∧ (parseMethodDescriptor yX9_fails.desc).map (fun d => d.parameters.length) = some 0 := by decide +kernel
theorem kX9_fails {l : Launch} {E : EE} {p : Program} {e : Env} {ms : State} {m : MethodId} {args : Array Value} {below : List Frame} {meth : Method} {c : Code} {cc : ByteArray} {own : String} {nL pc idx d D : Nat} {Q : State → Prop} {L : List (Nat × Value)} {rest : List Value} {σ τ : St}  {r : Int32} {fl : List (Option Nat)} (X : Cx E layM p ms m args c cc own nL) (hM : Ct l E layM yX9_fails cX9_fails 1 (some .int) d [.ref (ea E 0)] σ (some (.int r)) τ) (hd : decode cc pc = .ok (.invokevirtual idx, 3)) (hlay : layM[0]? = some (.inl (8, fl))) (w1 : Cond.methodLink own idx yX9_fails ∈ gw) (hR : d + 1 ≤ D) (hrs : (rest.map fun v => v.category).sum ≤ 8) (k : AW E layM p l e (rmD D) ms m args below meth c nL 0 0 Q (pc + 3) L (.int r :: rest) τ) : AW E layM p l e (rmD D) ms m args below meth c nL 0 0 Q pc L (.ref (ea E 0) :: rest) σ :=
  s_callV X [] rest hM hd v_X9 hlay w1 g_993 g_44 g_77 g_994 nX9_fails rfl rfl hrs (Nat.le_of_ble_eq_true rfl) hR k
def fX9_fails  (s0 : St) : Option (Int32 × St) :=
    bd1 (ptf s0 0 14 0) fun s1 =>
    some (0, s1)
set_option maxHeartbeats 4000000 in
set_option maxRecDepth 100000 in
theorem ctX9_fails {l : Launch} {E : EE}  {s0 : St} {r9 : Int32} {t9 : St}  (h : fX9_fails  s0 = some (r9, t9)) : Ct l E layM yX9_fails cX9_fails 1 (some .int) 0 [.ref (ea E 0)] s0 (some (.int r9)) t9 := by
  refine Ct.of (by decide) (Nat.le_of_ble_eq_true rfl) ?_
  intro p e ms m below meth c X hlk hr
  have X : Cx E layM p ms m [.ref (ea E 0)].toArray c cX9_fails RX9 1 := X
  refine r_sub (L' := [(0, .ref (ea E 0))]) [0] rfl ?_
  unfold fX9_fails at h
  refine r_aload_n X dX9_fails_0 0 rfl rfl ?_
  refine r_iconst X dX9_fails_1 (v := 0) (by decide) ?_
  obtain ⟨s1, es1, h⟩ := pt_ok h
  refine s_puti X dX9_fails_2 i_X9 tyX9_ok nmX9 v_X9 lM_0 14 rfl (Nat.le_of_ble_eq_true rfl) g_788 rfl rfl (by decide) es1 ?_
  refine r_iconst X dX9_fails_5 (v := 0) (by decide) ?_
  exact s_iret X hlk hr dX9_fails_6 h
