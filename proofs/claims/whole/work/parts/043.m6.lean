/-! X9_sweetOfAll -/
theorem nX9_sweetOfAll : yX9_sweetOfAll.cls ≠ "java/lang/invoke/MethodHandle" ∧ yX9_sweetOfAll.cls ≠ "java/lang/invoke/VarHandle" ∧ (parseMethodDescriptor yX9_sweetOfAll.desc).map (fun d => d.parameters.length) = some 0 := by decide +kernel
theorem kX9_sweetOfAll {l : Launch} {E : EE} {p : Program} {e : Env} {ms : State} {m : MethodId} {args : Array Value} {below : List Frame} {meth : Method} {c : Code} {cc : ByteArray} {own : String} {nL pc idx d D : Nat} {Q : State → Prop} {L : List (Nat × Value)} {rest : List Value} {σ τ : St}  {r : Int32} {fl : List (Option Nat)} (X : Cx E layM p ms m args c cc own nL) (hM : Ct l E layM yX9_sweetOfAll cX9_sweetOfAll 3 (some .int) d [.ref (ea E 0)] σ (some (.int r)) τ) (hd : decode cc pc = .ok (.invokevirtual idx, 3)) (hlay : layM[0]? = some (.inl (8, fl))) (w1 : Cond.methodLink own idx yX9_sweetOfAll ∈ gw) (hR : d + 1 ≤ D) (hrs : (rest.map fun v => v.category).sum ≤ 8) (k : AW E layM p l e (rmD D) ms m args below meth c nL 0 0 Q (pc + 3) L (.int r :: rest) τ) : AW E layM p l e (rmD D) ms m args below meth c nL 0 0 Q pc L (.ref (ea E 0) :: rest) σ :=
  s_callV X [] rest hM hd v_X9 hlay w1 g_1234 g_65 g_77 g_1235 nX9_sweetOfAll rfl rfl hrs (Nat.le_of_ble_eq_true rfl) hR k
def fX9_sweetOfAll_4  : Nat → Int32 → Int32 → St → Option (Int32 × St)
  | 0, _, _, _ => none
  | n + 1, a1, a2, s0 =>
    if 16 ≤ a2 then
    some (a1, s0)
    else
    bd1 (ald s0 1 257 (9 + (2 * a2))) fun v2 =>
    fX9_sweetOfAll_4 n (a1 + v2) (a2 + 1) s0
def fX9_sweetOfAll  (s0 : St) : Option (Int32 × St) :=
    bd2 (fX9_sweetOfAll_4 FU 0 0 s0) fun v5 s4 =>
    some (v5, s4)
set_option maxHeartbeats 4000000 in
set_option maxRecDepth 100000 in
theorem LX9_sweetOfAll_4 {l : Launch} {E : EE} {p : Program} {e : Env} {ms : State} {m : MethodId} {args : Array Value} {below : List Frame} {meth : Method} {c : Code}  {Q : State → Prop} (X : Cx E layM p ms m args c cX9_sweetOfAll RX9 3) : ∀ (n : Nat) (a1 : Int32) (a2 : Int32) (s0 : St) (q1 : Int32) (t8 : St), fX9_sweetOfAll_4 n a1 a2 s0 = some (q1, t8) → AW E layM p l e (rmD 0) ms m args below meth c 3 0 0 Q 30 [(1, .int q1)] [] t8 → AW E layM p l e (rmD 0) ms m args below meth c 3 0 0 Q 4 [(0, .ref (ea E 0)), (1, .int a1), (2, .int a2)] [] s0 := by
  intro n
  induction n with
  | zero =>
    intro a1 a2 s0 q1 t8 h hE
    cases h
  | succ n ih =>
    intro a1 a2 s0 q1 t8 h hE
    rw [fX9_sweetOfAll_4] at h
    refine r_iload_n X dX9_sweetOfAll_4 2 rfl rfl ?_
    refine r_bipush X dX9_sweetOfAll_5 (v := 16) (by decide) ?_
    refine r_icmp_ge X 30 dX9_sweetOfAll_7 (by decide) (fun c3 => ?_) (fun c3 => ?_)
    · rw [if_pos c3] at h
      refine r_sub (L' := [(1, .int a1)]) [1] rfl ?_
      cases h
      exact hE
    · rw [if_neg c3] at h
      refine r_iload_n X dX9_sweetOfAll_10 1 rfl rfl ?_
      refine r_aload_n X dX9_sweetOfAll_11 0 rfl rfl ?_
      refine r_getr X dX9_sweetOfAll_12 i_X9 v_X9 lM_0 0 rfl (Nat.le_of_ble_eq_true rfl) g_774 ?_
      refine r_bipush X dX9_sweetOfAll_15 (v := 9) (by decide) ?_
      refine r_iconst X dX9_sweetOfAll_17 (v := 2) (by decide) ?_
      refine r_iload_n X dX9_sweetOfAll_18 2 rfl rfl ?_
      refine r_imul X dX9_sweetOfAll_19 ?_
      refine r_iadd X dX9_sweetOfAll_20 ?_
      obtain ⟨g1, v2, ev2, h⟩ := ld_ok h
      refine s_iald X dX9_sweetOfAll_21 lM_1 g1 ev2 ?_
      refine r_iadd X dX9_sweetOfAll_22 ?_
      refine r_istore_n (L' := [(0, .ref (ea E 0)), (1, .int (a1 + v2)), (2, .int a2)]) X dX9_sweetOfAll_23 [1, 0, 2] rfl rfl (Nat.le_of_ble_eq_true rfl) ?_
      refine r_iinc (L' := [(0, .ref (ea E 0)), (1, .int (a1 + v2)), (2, .int (a2 + 1))]) (v := a2 + 1) X dX9_sweetOfAll_24 2 rfl rfl [1, 2, 0] rfl (Nat.le_of_ble_eq_true rfl) ?_
      refine r_goto X 4 dX9_sweetOfAll_27 (by decide) ?_
      exact ih _ _ _ _ _ h hE
set_option maxHeartbeats 4000000 in
set_option maxRecDepth 100000 in
theorem ctX9_sweetOfAll {l : Launch} {E : EE}  {s0 : St} {r9 : Int32} {t9 : St}  (h : fX9_sweetOfAll  s0 = some (r9, t9)) : Ct l E layM yX9_sweetOfAll cX9_sweetOfAll 3 (some .int) 0 [.ref (ea E 0)] s0 (some (.int r9)) t9 := by
  refine Ct.of (by decide) (Nat.le_of_ble_eq_true rfl) ?_
  intro p e ms m below meth c X hlk hr
  have X : Cx E layM p ms m [.ref (ea E 0)].toArray c cX9_sweetOfAll RX9 3 := X
  refine r_sub (L' := [(0, .ref (ea E 0))]) [0] rfl ?_
  unfold fX9_sweetOfAll at h
  refine r_iconst X dX9_sweetOfAll_0 (v := 0) (by decide) ?_
  refine r_istore_n (L' := [(0, .ref (ea E 0)), (1, .int 0)]) X dX9_sweetOfAll_1 [1, 0] rfl rfl (Nat.le_of_ble_eq_true rfl) ?_
  refine r_iconst X dX9_sweetOfAll_2 (v := 0) (by decide) ?_
  refine r_istore_n (L' := [(0, .ref (ea E 0)), (1, .int 0), (2, .int 0)]) X dX9_sweetOfAll_3 [1, 2, 0] rfl rfl (Nat.le_of_ble_eq_true rfl) ?_
  obtain ⟨v5, s4, eo, h⟩ := bd2_ok h
  refine LX9_sweetOfAll_4 X FU _ _ _ _ _ eo ?_
  refine r_iload_n X dX9_sweetOfAll_30 0 rfl rfl ?_
  exact s_iret X hlk hr dX9_sweetOfAll_31 h
/-! X9_count -/
theorem nX9_count : yX9_count.cls ≠ "java/lang/invoke/MethodHandle" ∧ yX9_count.cls ≠ "java/lang/invoke/VarHandle" ∧ (parseMethodDescriptor yX9_count.desc).map (fun d => d.parameters.length) = some 1 := by decide +kernel
theorem kX9_count {l : Launch} {E : EE} {p : Program} {e : Env} {ms : State} {m : MethodId} {args : Array Value} {below : List Frame} {meth : Method} {c : Code} {cc : ByteArray} {own : String} {nL pc idx d D : Nat} {Q : State → Prop} {L : List (Nat × Value)} {rest : List Value} {σ τ : St} {a1 : Int32} {r : Int32} {fl : List (Option Nat)} (X : Cx E layM p ms m args c cc own nL) (hM : Ct l E layM yX9_count cX9_count 2 (some .int) d [.ref (ea E 0), .int a1] σ (some (.int r)) τ) (hd : decode cc pc = .ok (.invokevirtual idx, 3)) (hlay : layM[0]? = some (.inl (8, fl))) (w1 : Cond.methodLink own idx yX9_count ∈ gw) (hR : d + 1 ≤ D) (hrs : (rest.map fun v => v.category).sum ≤ 8) (k : AW E layM p l e (rmD D) ms m args below meth c nL 0 0 Q (pc + 3) L (.int r :: rest) τ) : AW E layM p l e (rmD D) ms m args below meth c nL 0 0 Q pc L (.int a1 :: .ref (ea E 0) :: rest) σ :=
  s_callV X [.int a1] rest hM hd v_X9 hlay w1 g_1229 g_1230 g_77 g_1231 nX9_count rfl rfl hrs (Nat.le_of_ble_eq_true rfl) hR k
def fX9_count (a1 : Int32) (s0 : St) : Option (Int32 × St) :=
    if a1 = 0 then
    bd1 (ald s0 1 257 2) fun v3 =>
    some (v3, s0)
    else if a1 = 1 then
    bd1 (ald s0 1 257 0) fun v6 =>
    some (v6, s0)
    else if a1 = 2 then
    bd1 (ald s0 1 257 3) fun v9 =>
    some (v9, s0)
    else if a1 = 3 then
    bd1 (ald s0 1 257 4) fun v12 =>
    some (v12, s0)
    else if a1 = 4 then
    bd2 (fX9_sumOf 2 s0) fun u16 s14 =>
    some (u16, s14)
    else if a1 = 5 then
    bd2 (fX9_sumOf 4 s0) fun u20 s18 =>
    some (u20, s18)
    else if a1 = 6 then
    bd2 (fX9_sweetOfAll  s0) fun u24 s22 =>
    some (u24, s22)
    else if a1 = 7 then
    bd1 (ald s0 1 257 5) fun v27 =>
    some (v27, s0)
    else if a1 = 8 then
    bd1 (ald s0 1 257 6) fun v30 =>
    some (v30, s0)
    else if a1 = 9 then
    some (s0 0 24, s0)
    else if a1 = 10 then
    bd1 (ald s0 1 257 1) fun v34 =>
    some (v34, s0)
    else bd2 (fX9_errs (-1000000001) s0) fun u37 s35 =>
    some (u37, s35)
set_option maxHeartbeats 4000000 in
set_option maxRecDepth 100000 in
theorem ctX9_count {l : Launch} {E : EE} {a1 : Int32} {s0 : St} {r9 : Int32} {t9 : St}  (h : fX9_count a1 s0 = some (r9, t9)) : Ct l E layM yX9_count cX9_count 2 (some .int) 2 [.ref (ea E 0), .int a1] s0 (some (.int r9)) t9 := by
  refine Ct.of (by decide) (Nat.le_of_ble_eq_true rfl) ?_
  intro p e ms m below meth c X hlk hr
  have X : Cx E layM p ms m [.ref (ea E 0), .int a1].toArray c cX9_count RX9 2 := X
  refine r_sub (L' := [(0, .ref (ea E 0)), (1, .int a1)]) [0, 1] rfl ?_
  unfold fX9_count at h
  refine r_iload_n X dX9_count_0 1 rfl rfl ?_
  by_cases c1 : a1 = 0
  · rw [if_pos c1] at h
    refine r_tabIn X 60 (0) (by rw [c1]; decide) dX9_count_1 (by decide) (by decide) rfl (by decide) ?_
    refine r_aload_n X dX9_count_60 0 rfl rfl ?_
    refine r_getr X dX9_count_61 i_X9 v_X9 lM_0 0 rfl (Nat.le_of_ble_eq_true rfl) g_774 ?_
    refine r_iconst X dX9_count_64 (v := 2) (by decide) ?_
    obtain ⟨g2, v3, ev3, h⟩ := ld_ok h
    refine s_iald X dX9_count_65 lM_1 g2 ev3 ?_
    exact s_iret X hlk hr dX9_count_66 h
  rw [if_neg c1] at h
  by_cases c4 : a1 = 1
  · rw [if_pos c4] at h
    refine r_tabIn X 67 (1) (by rw [c4]; decide) dX9_count_1 (by decide) (by decide) rfl (by decide) ?_
    refine r_aload_n X dX9_count_67 0 rfl rfl ?_
    refine r_getr X dX9_count_68 i_X9 v_X9 lM_0 0 rfl (Nat.le_of_ble_eq_true rfl) g_774 ?_
    refine r_iconst X dX9_count_71 (v := 0) (by decide) ?_
    obtain ⟨g5, v6, ev6, h⟩ := ld_ok h
    refine s_iald X dX9_count_72 lM_1 g5 ev6 ?_
    exact s_iret X hlk hr dX9_count_73 h
  rw [if_neg c4] at h
  by_cases c7 : a1 = 2
  · rw [if_pos c7] at h
    refine r_tabIn X 74 (2) (by rw [c7]; decide) dX9_count_1 (by decide) (by decide) rfl (by decide) ?_
    refine r_aload_n X dX9_count_74 0 rfl rfl ?_
    refine r_getr X dX9_count_75 i_X9 v_X9 lM_0 0 rfl (Nat.le_of_ble_eq_true rfl) g_774 ?_
    refine r_iconst X dX9_count_78 (v := 3) (by decide) ?_
    obtain ⟨g8, v9, ev9, h⟩ := ld_ok h
    refine s_iald X dX9_count_79 lM_1 g8 ev9 ?_
    exact s_iret X hlk hr dX9_count_80 h
  rw [if_neg c7] at h
  by_cases c10 : a1 = 3
  · rw [if_pos c10] at h
    refine r_tabIn X 81 (3) (by rw [c10]; decide) dX9_count_1 (by decide) (by decide) rfl (by decide) ?_
    refine r_aload_n X dX9_count_81 0 rfl rfl ?_
    refine r_getr X dX9_count_82 i_X9 v_X9 lM_0 0 rfl (Nat.le_of_ble_eq_true rfl) g_774 ?_
    refine r_iconst X dX9_count_85 (v := 4) (by decide) ?_
    obtain ⟨g11, v12, ev12, h⟩ := ld_ok h
    refine s_iald X dX9_count_86 lM_1 g11 ev12 ?_
    exact s_iret X hlk hr dX9_count_87 h
  rw [if_neg c10] at h
  by_cases c13 : a1 = 4
  · rw [if_pos c13] at h
    refine r_tabIn X 88 (4) (by rw [c13]; decide) dX9_count_1 (by decide) (by decide) rfl (by decide) ?_
    refine r_aload_n X dX9_count_88 0 rfl rfl ?_
    refine r_iconst X dX9_count_89 (v := 2) (by decide) ?_
    obtain ⟨u16, s14, e15, h⟩ := bd2_ok h
    refine kX9_sumOf X (ctX9_sumOf e15) dX9_count_90 lM_0 g_1098 (Nat.le_of_ble_eq_true rfl) (Nat.le_of_ble_eq_true rfl) ?_
    exact s_iret X hlk hr dX9_count_93 h
  rw [if_neg c13] at h
  by_cases c17 : a1 = 5
  · rw [if_pos c17] at h
    refine r_tabIn X 94 (5) (by rw [c17]; decide) dX9_count_1 (by decide) (by decide) rfl (by decide) ?_
    refine r_aload_n X dX9_count_94 0 rfl rfl ?_
    refine r_iconst X dX9_count_95 (v := 4) (by decide) ?_
    obtain ⟨u20, s18, e19, h⟩ := bd2_ok h
    refine kX9_sumOf X (ctX9_sumOf e19) dX9_count_96 lM_0 g_1098 (Nat.le_of_ble_eq_true rfl) (Nat.le_of_ble_eq_true rfl) ?_
    exact s_iret X hlk hr dX9_count_99 h
  rw [if_neg c17] at h
  by_cases c21 : a1 = 6
  · rw [if_pos c21] at h
    refine r_tabIn X 100 (6) (by rw [c21]; decide) dX9_count_1 (by decide) (by decide) rfl (by decide) ?_
    refine r_aload_n X dX9_count_100 0 rfl rfl ?_
    obtain ⟨u24, s22, e23, h⟩ := bd2_ok h
    refine kX9_sweetOfAll X (ctX9_sweetOfAll e23) dX9_count_101 lM_0 g_1232 (Nat.le_of_ble_eq_true rfl) (Nat.le_of_ble_eq_true rfl) ?_
    exact s_iret X hlk hr dX9_count_104 h
  rw [if_neg c21] at h
  by_cases c25 : a1 = 7
  · rw [if_pos c25] at h
    refine r_tabIn X 105 (7) (by rw [c25]; decide) dX9_count_1 (by decide) (by decide) rfl (by decide) ?_
    refine r_aload_n X dX9_count_105 0 rfl rfl ?_
    refine r_getr X dX9_count_106 i_X9 v_X9 lM_0 0 rfl (Nat.le_of_ble_eq_true rfl) g_774 ?_
    refine r_iconst X dX9_count_109 (v := 5) (by decide) ?_
    obtain ⟨g26, v27, ev27, h⟩ := ld_ok h
    refine s_iald X dX9_count_110 lM_1 g26 ev27 ?_
    exact s_iret X hlk hr dX9_count_111 h
  rw [if_neg c25] at h
  by_cases c28 : a1 = 8
  · rw [if_pos c28] at h
    refine r_tabIn X 112 (8) (by rw [c28]; decide) dX9_count_1 (by decide) (by decide) rfl (by decide) ?_
    refine r_aload_n X dX9_count_112 0 rfl rfl ?_
    refine r_getr X dX9_count_113 i_X9 v_X9 lM_0 0 rfl (Nat.le_of_ble_eq_true rfl) g_774 ?_
    refine r_bipush X dX9_count_116 (v := 6) (by decide) ?_
    obtain ⟨g29, v30, ev30, h⟩ := ld_ok h
    refine s_iald X dX9_count_118 lM_1 g29 ev30 ?_
    exact s_iret X hlk hr dX9_count_119 h
  rw [if_neg c28] at h
  by_cases c31 : a1 = 9
  · rw [if_pos c31] at h
    refine r_tabIn X 120 (9) (by rw [c31]; decide) dX9_count_1 (by decide) (by decide) rfl (by decide) ?_
    refine r_aload_n X dX9_count_120 0 rfl rfl ?_
    refine r_geti X dX9_count_121 i_X9 v_X9 lM_0 24 rfl (Nat.le_of_ble_eq_true rfl) g_798 ?_
    exact s_iret X hlk hr dX9_count_124 h
  rw [if_neg c31] at h
  by_cases c32 : a1 = 10
  · rw [if_pos c32] at h
    refine r_tabIn X 125 (10) (by rw [c32]; decide) dX9_count_1 (by decide) (by decide) rfl (by decide) ?_
    refine r_aload_n X dX9_count_125 0 rfl rfl ?_
    refine r_getr X dX9_count_126 i_X9 v_X9 lM_0 0 rfl (Nat.le_of_ble_eq_true rfl) g_774 ?_
    refine r_iconst X dX9_count_129 (v := 1) (by decide) ?_
    obtain ⟨g33, v34, ev34, h⟩ := ld_ok h
    refine s_iald X dX9_count_130 lM_1 g33 ev34 ?_
    exact s_iret X hlk hr dX9_count_131 h
  rw [if_neg c32] at h
  have nc1 := lv_neT (k := 0) c1 (a := 0) (by decide)
  have nc4 := lv_neT (k := 1) c4 (a := 1) (by decide)
  have nc7 := lv_neT (k := 2) c7 (a := 2) (by decide)
  have nc10 := lv_neT (k := 3) c10 (a := 3) (by decide)
  have nc13 := lv_neT (k := 4) c13 (a := 4) (by decide)
  have nc17 := lv_neT (k := 5) c17 (a := 5) (by decide)
  have nc21 := lv_neT (k := 6) c21 (a := 6) (by decide)
  have nc25 := lv_neT (k := 7) c25 (a := 7) (by decide)
  have nc28 := lv_neT (k := 8) c28 (a := 8) (by decide)
  have nc31 := lv_neT (k := 9) c31 (a := 9) (by decide)
  have nc32 := lv_neT (k := 10) c32 (a := 10) (by decide)
  refine r_tabOut X 132 dX9_count_1 (by omega) (by decide) ?_
  refine r_aload_n X dX9_count_132 0 rfl rfl ?_
  refine r_ldc X dX9_count_133 g_873 ?_
  obtain ⟨u37, s35, e36, h⟩ := bd2_ok h
  refine kX9_errs X (ctX9_errs e36) dX9_count_135 lM_0 g_874 (Nat.le_of_ble_eq_true rfl) (Nat.le_of_ble_eq_true rfl) ?_
  exact s_iret X hlk hr dX9_count_138 h
/-! X9_told -/
theorem nX9_told : yX9_told.cls ≠ "java/lang/invoke/MethodHandle" ∧ yX9_told.cls ≠ "java/lang/invoke/VarHandle" ∧ (parseMethodDescriptor yX9_told.desc).map (fun d => d.parameters.length) = some 1 := by decide +kernel
theorem kX9_told {l : Launch} {E : EE} {p : Program} {e : Env} {ms : State} {m : MethodId} {args : Array Value} {below : List Frame} {meth : Method} {c : Code} {cc : ByteArray} {own : String} {nL pc idx d D : Nat} {Q : State → Prop} {L : List (Nat × Value)} {rest : List Value} {σ τ : St} {a1 : Int32} {r : Int32} {fl : List (Option Nat)} (X : Cx E layM p ms m args c cc own nL) (hM : Ct l E layM yX9_told cX9_told 2 (some .int) d [.ref (ea E 0), .int a1] σ (some (.int r)) τ) (hd : decode cc pc = .ok (.invokevirtual idx, 3)) (hlay : layM[0]? = some (.inl (8, fl))) (w1 : Cond.methodLink own idx yX9_told ∈ gw) (hR : d + 1 ≤ D) (hrs : (rest.map fun v => v.category).sum ≤ 8) (k : AW E layM p l e (rmD D) ms m args below meth c nL 0 0 Q (pc + 3) L (.int r :: rest) τ) : AW E layM p l e (rmD D) ms m args below meth c nL 0 0 Q pc L (.int a1 :: .ref (ea E 0) :: rest) σ :=
  s_callV X [.int a1] rest hM hd v_X9 hlay w1 g_1237 g_1238 g_77 g_1239 nX9_told rfl rfl hrs (Nat.le_of_ble_eq_true rfl) hR k
def fX9_told (a1 : Int32) (s0 : St) : Option (Int32 × St) :=
    bd2 (fX9_in a1 1 5 s0) fun u3 s1 =>
    if u3 = 0 then
    bd2 (fX9_errs (-1000000001) s1) fun u6 s4 =>
    some (u6, s4)
    else
    bd1 (ald s1 5 6 a1) fun v8 =>
    some (v8, s1)
set_option maxHeartbeats 4000000 in
set_option maxRecDepth 100000 in
theorem ctX9_told {l : Launch} {E : EE} {a1 : Int32} {s0 : St} {r9 : Int32} {t9 : St}  (h : fX9_told a1 s0 = some (r9, t9)) : Ct l E layM yX9_told cX9_told 2 (some .int) 1 [.ref (ea E 0), .int a1] s0 (some (.int r9)) t9 := by
  refine Ct.of (by decide) (Nat.le_of_ble_eq_true rfl) ?_
  intro p e ms m below meth c X hlk hr
  have X : Cx E layM p ms m [.ref (ea E 0), .int a1].toArray c cX9_told RX9 2 := X
  refine r_sub (L' := [(0, .ref (ea E 0)), (1, .int a1)]) [0, 1] rfl ?_
  unfold fX9_told at h
  refine r_iload_n X dX9_told_0 1 rfl rfl ?_
  refine r_iconst X dX9_told_1 (v := 1) (by decide) ?_
  refine r_iconst X dX9_told_2 (v := 5) (by decide) ?_
  obtain ⟨u3, s1, e2, h⟩ := bd2_ok h
  refine kX9_in X (ctX9_in e2) dX9_told_3 g_866 (Nat.le_of_ble_eq_true rfl) (Nat.le_of_ble_eq_true rfl) ?_
  refine r_if_eq X 18 dX9_told_6 (by decide) (fun c9 => ?_) (fun c9 => ?_)
  · rw [if_pos c9] at h
    refine r_aload_n X dX9_told_18 0 rfl rfl ?_
    refine r_ldc X dX9_told_19 g_873 ?_
    obtain ⟨u6, s4, e5, h⟩ := bd2_ok h
    refine kX9_errs X (ctX9_errs e5) dX9_told_21 lM_0 g_874 (Nat.le_of_ble_eq_true rfl) (Nat.le_of_ble_eq_true rfl) ?_
    exact s_iret X hlk hr dX9_told_24 h
  · rw [if_neg c9] at h
    refine r_aload_n X dX9_told_9 0 rfl rfl ?_
    refine r_getr X dX9_told_10 i_X9 v_X9 lM_0 6 rfl (Nat.le_of_ble_eq_true rfl) g_780 ?_
    refine r_iload_n X dX9_told_13 1 rfl rfl ?_
    obtain ⟨g7, v8, ev8, h⟩ := ld_ok h
    refine s_iald X dX9_told_14 lM_5 g7 ev8 ?_
    refine r_goto X 24 dX9_told_15 (by decide) ?_
    exact s_iret X hlk hr dX9_told_24 h
