/-! X9_mendsIn -/
theorem nX9_mendsIn : yX9_mendsIn.cls ≠ "java/lang/invoke/MethodHandle" ∧ yX9_mendsIn.cls ≠ "java/lang/invoke/VarHandle" ∧ (parseMethodDescriptor yX9_mendsIn.desc).map (fun d => d.parameters.length) = some 2 := by decide +kernel
theorem kX9_mendsIn {l : Launch} {E : EE} {p : Program} {e : Env} {ms : State} {m : MethodId} {args : Array Value} {below : List Frame} {meth : Method} {c : Code} {cc : ByteArray} {own : String} {nL pc idx d D : Nat} {Q : State → Prop} {L : List (Nat × Value)} {rest : List Value} {σ τ : St} {a1 : Int32} {a2 : Int32} {r : Int32} {fl : List (Option Nat)} (X : Cx E layM p ms m args c cc own nL) (hM : Ct l E layM yX9_mendsIn cX9_mendsIn 4 (some .int) d [.ref (ea E 0), .int a1, .int a2] σ (some (.int r)) τ) (hd : decode cc pc = .ok (.invokevirtual idx, 3)) (hlay : layM[0]? = some (.inl (8, fl))) (w1 : Cond.methodLink own idx yX9_mendsIn ∈ gw) (hR : d + 1 ≤ D) (hrs : (rest.map fun v => v.category).sum ≤ 8) (k : AW E layM p l e (rmD D) ms m args below meth c nL 0 0 Q (pc + 3) L (.int r :: rest) τ) : AW E layM p l e (rmD D) ms m args below meth c nL 0 0 Q pc L (.int a2 :: .int a1 :: .ref (ea E 0) :: rest) σ :=
  s_callV X [.int a1, .int a2] rest hM hd v_X9 hlay w1 g_1175 g_62 g_77 g_1176 nX9_mendsIn rfl rfl hrs (Nat.le_of_ble_eq_true rfl) hR k
def fX9_mendsIn (rec : Nat → List Int32 → St → Option (Int32 × St)) (a1 : Int32) (a2 : Int32) (s0 : St) : Option (Int32 × St) :=
    if a1 = 0 then
    bd1 (fX9_ran 11 s0) fun s22 =>
    bd2 (grp_X9_leavesIn RF 0 [(s22 0 25), a2] s22) fun u26 s24 =>
    some (u26 * 2, s24)
    else
    if a1 = 2 then
    bd1 (fX9_ran 30 s0) fun s13 =>
    bd2 (rec 0 [0, a2] s13) fun u17 s15 =>
    bd2 (grp_X9_grievesIn RF 0 [(s15 0 25), 1] s15) fun u20 s18 =>
    some (u17 - u20, s18)
    else
    if a1 = 5 then
    bd1 (fX9_ran 60 s0) fun s7 =>
    bd2 (rec 0 [2, (a2 + 1)] s7) fun u11 s9 =>
    some (u11, s9)
    else
    bd2 (fX9_above a1 s0) fun u3 s1 =>
    bd2 (rec 0 [u3, a2] s1) fun u6 s4 =>
    some (u6, s4)
set_option maxHeartbeats 4000000 in
set_option maxRecDepth 100000 in
theorem ctX9_mendsIn_s {l : Launch} {E : EE} {d : Nat} {rec : Nat → List Int32 → St → Option (Int32 × St)} {a1 : Int32} {a2 : Int32} {s0 : St} {r9 : Int32} {t9 : St} (hd : 102 ≤ d) (hrec0 : ∀ (a1 : Int32) (a2 : Int32) (s : St) (r : Int32) (t : St), rec 0 [a1, a2] s = some (r, t) → Ct l E layM yX9_mendsIn cX9_mendsIn 4 (some .int) d [.ref (ea E 0), .int a1, .int a2] s (some (.int r)) t) (h : fX9_mendsIn rec a1 a2 s0 = some (r9, t9)) : Ct l E layM yX9_mendsIn cX9_mendsIn 4 (some .int) (d + 1) [.ref (ea E 0), .int a1, .int a2] s0 (some (.int r9)) t9 := by
  refine Ct.of (by decide) (Nat.le_of_ble_eq_true rfl) ?_
  intro p e ms m below meth c X hlk hr
  have X : Cx E layM p ms m [.ref (ea E 0), .int a1, .int a2].toArray c cX9_mendsIn RX9 4 := X
  refine r_sub (L' := [(0, .ref (ea E 0)), (1, .int a1), (2, .int a2)]) [0, 1, 2] rfl ?_
  unfold fX9_mendsIn at h
  refine r_iload_n X dX9_mendsIn_0 1 rfl rfl ?_
  refine r_if_ne X 22 dX9_mendsIn_1 (by decide) (fun c27 => ?_) (fun c27 => ?_)
  · rw [if_neg c27] at h
    refine r_iload_n X dX9_mendsIn_22 1 rfl rfl ?_
    refine r_iconst X dX9_mendsIn_23 (v := 2) (by decide) ?_
    refine r_icmp_ne X 52 dX9_mendsIn_24 (by decide) (fun c21 => ?_) (fun c21 => ?_)
    · rw [if_neg c21] at h
      refine r_iload_n X dX9_mendsIn_52 1 rfl rfl ?_
      refine r_iconst X dX9_mendsIn_53 (v := 5) (by decide) ?_
      refine r_icmp_ne X 72 dX9_mendsIn_54 (by decide) (fun c12 => ?_) (fun c12 => ?_)
      · rw [if_neg c12] at h
        refine r_aload_n X dX9_mendsIn_72 0 rfl rfl ?_
        refine r_iload_n X dX9_mendsIn_73 1 rfl rfl ?_
        obtain ⟨u3, s1, e2, h⟩ := bd2_ok h
        refine kX9_above X (ctX9_above e2) dX9_mendsIn_74 g_1010 (by omega) (Nat.le_of_ble_eq_true rfl) ?_
        refine r_iload_n X dX9_mendsIn_77 2 rfl rfl ?_
        obtain ⟨u6, s4, e5, h⟩ := bd2_ok h
        refine kX9_mendsIn X (hrec0 _ _ _ _ _ e5) dX9_mendsIn_78 lM_0 g_1173 (by omega) (Nat.le_of_ble_eq_true rfl) ?_
        exact s_iret X hlk hr dX9_mendsIn_81 h
      · rw [if_pos c12] at h
        refine r_aload_n X dX9_mendsIn_57 0 rfl rfl ?_
        refine r_bipush X dX9_mendsIn_58 (v := 60) (by decide) ?_
        obtain ⟨s7, e8, h⟩ := bd1_ok h
        refine kX9_ran X (ctX9_ran e8) dX9_mendsIn_60 lM_0 g_1169 (by omega) (Nat.le_of_ble_eq_true rfl) ?_
        refine r_aload_n X dX9_mendsIn_63 0 rfl rfl ?_
        refine r_iconst X dX9_mendsIn_64 (v := 2) (by decide) ?_
        refine r_iload_n X dX9_mendsIn_65 2 rfl rfl ?_
        refine r_iconst X dX9_mendsIn_66 (v := 1) (by decide) ?_
        refine r_iadd X dX9_mendsIn_67 ?_
        obtain ⟨u11, s9, e10, h⟩ := bd2_ok h
        refine kX9_mendsIn X (hrec0 _ _ _ _ _ e10) dX9_mendsIn_68 lM_0 g_1173 (by omega) (Nat.le_of_ble_eq_true rfl) ?_
        exact s_iret X hlk hr dX9_mendsIn_71 h
    · rw [if_pos c21] at h
      refine r_aload_n X dX9_mendsIn_27 0 rfl rfl ?_
      refine r_bipush X dX9_mendsIn_28 (v := 30) (by decide) ?_
      obtain ⟨s13, e14, h⟩ := bd1_ok h
      refine kX9_ran X (ctX9_ran e14) dX9_mendsIn_30 lM_0 g_1169 (by omega) (Nat.le_of_ble_eq_true rfl) ?_
      refine r_aload_n X dX9_mendsIn_33 0 rfl rfl ?_
      refine r_iconst X dX9_mendsIn_34 (v := 0) (by decide) ?_
      refine r_iload_n X dX9_mendsIn_35 2 rfl rfl ?_
      obtain ⟨u17, s15, e16, h⟩ := bd2_ok h
      refine kX9_mendsIn X (hrec0 _ _ _ _ _ e16) dX9_mendsIn_36 lM_0 g_1173 (by omega) (Nat.le_of_ble_eq_true rfl) ?_
      refine r_istore_n (L' := [(0, .ref (ea E 0)), (3, .int u17)]) X dX9_mendsIn_39 [1, 0] rfl rfl (Nat.le_of_ble_eq_true rfl) ?_
      refine r_iload_n X dX9_mendsIn_40 1 rfl rfl ?_
      refine r_aload_n X dX9_mendsIn_41 0 rfl rfl ?_
      refine r_aload_n X dX9_mendsIn_42 0 rfl rfl ?_
      refine r_geti X dX9_mendsIn_43 i_X9 v_X9 lM_0 25 rfl (Nat.le_of_ble_eq_true rfl) g_799 ?_
      refine r_iconst X dX9_mendsIn_46 (v := 1) (by decide) ?_
      obtain ⟨u20, s18, e19, h⟩ := bd2_ok h
      refine kX9_grievesIn X (ctX9_grievesIn e19) dX9_mendsIn_47 lM_0 g_1177 (by omega) (Nat.le_of_ble_eq_true rfl) ?_
      refine r_isub X dX9_mendsIn_50 ?_
      exact s_iret X hlk hr dX9_mendsIn_51 h
  · rw [if_pos c27] at h
    refine r_aload_n X dX9_mendsIn_4 0 rfl rfl ?_
    refine r_bipush X dX9_mendsIn_5 (v := 11) (by decide) ?_
    obtain ⟨s22, e23, h⟩ := bd1_ok h
    refine kX9_ran X (ctX9_ran e23) dX9_mendsIn_7 lM_0 g_1169 (by omega) (Nat.le_of_ble_eq_true rfl) ?_
    refine r_aload_n X dX9_mendsIn_10 0 rfl rfl ?_
    refine r_aload_n X dX9_mendsIn_11 0 rfl rfl ?_
    refine r_geti X dX9_mendsIn_12 i_X9 v_X9 lM_0 25 rfl (Nat.le_of_ble_eq_true rfl) g_799 ?_
    refine r_iload_n X dX9_mendsIn_15 2 rfl rfl ?_
    obtain ⟨u26, s24, e25, h⟩ := bd2_ok h
    refine kX9_leavesIn X (ctX9_leavesIn e25) dX9_mendsIn_16 lM_0 g_1165 (by omega) (Nat.le_of_ble_eq_true rfl) ?_
    refine r_iconst X dX9_mendsIn_19 (v := 2) (by decide) ?_
    refine r_imul X dX9_mendsIn_20 ?_
    exact s_iret X hlk hr dX9_mendsIn_21 h
def grp_X9_mendsIn : Nat → Nat → List Int32 → St → Option (Int32 × St)
  | 0, _, _, _ => none
  | n + 1, 0, [a1, a2], s => fX9_mendsIn (grp_X9_mendsIn n) a1 a2 s
  | _ + 1, _, _, _ => none
set_option maxHeartbeats 4000000 in
set_option maxRecDepth 100000 in
theorem grp_X9_mendsIn_ok (l : Launch) (E : EE) : ∀ n : Nat, (∀ (a1 : Int32) (a2 : Int32) (s : St) (r : Int32) (t : St), grp_X9_mendsIn n 0 [a1, a2] s = some (r, t) → Ct l E layM yX9_mendsIn cX9_mendsIn 4 (some .int) (n + 102) [.ref (ea E 0), .int a1, .int a2] s (some (.int r)) t) := by
  intro n
  induction n with
  | zero =>
    exact fun _ _ _ _ _ h => by cases h
  | succ n ih =>
    have h0 := ih
    intro z0 z1 s r t h
    rw [show n + 1 + 102 = n + 102 + 1 by omega]
    exact ctX9_mendsIn_s (Nat.le_add_left _ _) h0 h
theorem ctX9_mendsIn {l : Launch} {E : EE} {a1 : Int32} {a2 : Int32} {s t : St} {r : Int32} (h : grp_X9_mendsIn RF 0 [a1, a2] s = some (r, t)) : Ct l E layM yX9_mendsIn cX9_mendsIn 4 (some .int) 202 [.ref (ea E 0), .int a1, .int a2] s (some (.int r)) t := (grp_X9_mendsIn_ok l E RF) _ _ _ _ _ h
/-! X9_tellsIn -/
theorem nX9_tellsIn : yX9_tellsIn.cls ≠ "java/lang/invoke/MethodHandle" ∧ yX9_tellsIn.cls ≠ "java/lang/invoke/VarHandle" ∧ (parseMethodDescriptor yX9_tellsIn.desc).map (fun d => d.parameters.length) = some 2 := by decide +kernel
theorem kX9_tellsIn {l : Launch} {E : EE} {p : Program} {e : Env} {ms : State} {m : MethodId} {args : Array Value} {below : List Frame} {meth : Method} {c : Code} {cc : ByteArray} {own : String} {nL pc idx d D : Nat} {Q : State → Prop} {L : List (Nat × Value)} {rest : List Value} {σ τ : St} {a1 : Int32} {a2 : Int32} {r : Int32} {fl : List (Option Nat)} (X : Cx E layM p ms m args c cc own nL) (hM : Ct l E layM yX9_tellsIn cX9_tellsIn 4 (some .int) d [.ref (ea E 0), .int a1, .int a2] σ (some (.int r)) τ) (hd : decode cc pc = .ok (.invokevirtual idx, 3)) (hlay : layM[0]? = some (.inl (8, fl))) (w1 : Cond.methodLink own idx yX9_tellsIn ∈ gw) (hR : d + 1 ≤ D) (hrs : (rest.map fun v => v.category).sum ≤ 8) (k : AW E layM p l e (rmD D) ms m args below meth c nL 0 0 Q (pc + 3) L (.int r :: rest) τ) : AW E layM p l e (rmD D) ms m args below meth c nL 0 0 Q pc L (.int a2 :: .int a1 :: .ref (ea E 0) :: rest) σ :=
  s_callV X [.int a1, .int a2] rest hM hd v_X9 hlay w1 g_1183 g_64 g_77 g_1184 nX9_tellsIn rfl rfl hrs (Nat.le_of_ble_eq_true rfl) hR k
def fX9_tellsIn (rec : Nat → List Int32 → St → Option (Int32 × St)) (a1 : Int32) (a2 : Int32) (s0 : St) : Option (Int32 × St) :=
    if a1 = 0 then
    bd1 (fX9_ran 13 s0) fun s25 =>
    bd2 (grp_X9_mendsIn RF 0 [(s25 0 25), a2] s25) fun u29 s27 =>
    bd2 (grp_X9_grievesIn RF 0 [(s27 0 25), a2] s27) fun u32 s30 =>
    some (u29 ^^^ u32, s30)
    else
    if a1 = 4 then
    bd1 (fX9_ran 50 s0) fun s16 =>
    bd2 (rec 0 [1, a2] s16) fun u20 s18 =>
    bd2 (grp_X9_leavesIn RF 0 [(s18 0 25), 2] s18) fun u23 s21 =>
    some (u20 - u23, s21)
    else
    if a1 = 6 then
    bd1 (fX9_ran 71 s0) fun s7 =>
    bd2 (grp_X9_mendsIn RF 0 [(s7 0 25), a2] s7) fun u11 s9 =>
    bd2 (rec 0 [3, a2] s9) fun u14 s12 =>
    some (u11 - u14, s12)
    else
    bd2 (fX9_above a1 s0) fun u3 s1 =>
    bd2 (rec 0 [u3, a2] s1) fun u6 s4 =>
    some (u6, s4)
set_option maxHeartbeats 4000000 in
set_option maxRecDepth 100000 in
theorem ctX9_tellsIn_s {l : Launch} {E : EE} {d : Nat} {rec : Nat → List Int32 → St → Option (Int32 × St)} {a1 : Int32} {a2 : Int32} {s0 : St} {r9 : Int32} {t9 : St} (hd : 203 ≤ d) (hrec0 : ∀ (a1 : Int32) (a2 : Int32) (s : St) (r : Int32) (t : St), rec 0 [a1, a2] s = some (r, t) → Ct l E layM yX9_tellsIn cX9_tellsIn 4 (some .int) d [.ref (ea E 0), .int a1, .int a2] s (some (.int r)) t) (h : fX9_tellsIn rec a1 a2 s0 = some (r9, t9)) : Ct l E layM yX9_tellsIn cX9_tellsIn 4 (some .int) (d + 1) [.ref (ea E 0), .int a1, .int a2] s0 (some (.int r9)) t9 := by
  refine Ct.of (by decide) (Nat.le_of_ble_eq_true rfl) ?_
  intro p e ms m below meth c X hlk hr
  have X : Cx E layM p ms m [.ref (ea E 0), .int a1, .int a2].toArray c cX9_tellsIn RX9 4 := X
  refine r_sub (L' := [(0, .ref (ea E 0)), (1, .int a1), (2, .int a2)]) [0, 1, 2] rfl ?_
  unfold fX9_tellsIn at h
  refine r_iload_n X dX9_tellsIn_0 1 rfl rfl ?_
  refine r_if_ne X 32 dX9_tellsIn_1 (by decide) (fun c33 => ?_) (fun c33 => ?_)
  · rw [if_neg c33] at h
    refine r_iload_n X dX9_tellsIn_32 1 rfl rfl ?_
    refine r_iconst X dX9_tellsIn_33 (v := 4) (by decide) ?_
    refine r_icmp_ne X 62 dX9_tellsIn_34 (by decide) (fun c24 => ?_) (fun c24 => ?_)
    · rw [if_neg c24] at h
      refine r_iload_n X dX9_tellsIn_62 1 rfl rfl ?_
      refine r_bipush X dX9_tellsIn_63 (v := 6) (by decide) ?_
      refine r_icmp_ne X 93 dX9_tellsIn_65 (by decide) (fun c15 => ?_) (fun c15 => ?_)
      · rw [if_neg c15] at h
        refine r_aload_n X dX9_tellsIn_93 0 rfl rfl ?_
        refine r_iload_n X dX9_tellsIn_94 1 rfl rfl ?_
        obtain ⟨u3, s1, e2, h⟩ := bd2_ok h
        refine kX9_above X (ctX9_above e2) dX9_tellsIn_95 g_1010 (by omega) (Nat.le_of_ble_eq_true rfl) ?_
        refine r_iload_n X dX9_tellsIn_98 2 rfl rfl ?_
        obtain ⟨u6, s4, e5, h⟩ := bd2_ok h
        refine kX9_tellsIn X (hrec0 _ _ _ _ _ e5) dX9_tellsIn_99 lM_0 g_1181 (by omega) (Nat.le_of_ble_eq_true rfl) ?_
        exact s_iret X hlk hr dX9_tellsIn_102 h
      · rw [if_pos c15] at h
        refine r_aload_n X dX9_tellsIn_68 0 rfl rfl ?_
        refine r_bipush X dX9_tellsIn_69 (v := 71) (by decide) ?_
        obtain ⟨s7, e8, h⟩ := bd1_ok h
        refine kX9_ran X (ctX9_ran e8) dX9_tellsIn_71 lM_0 g_1169 (by omega) (Nat.le_of_ble_eq_true rfl) ?_
        refine r_aload_n X dX9_tellsIn_74 0 rfl rfl ?_
        refine r_aload_n X dX9_tellsIn_75 0 rfl rfl ?_
        refine r_geti X dX9_tellsIn_76 i_X9 v_X9 lM_0 25 rfl (Nat.le_of_ble_eq_true rfl) g_799 ?_
        refine r_iload_n X dX9_tellsIn_79 2 rfl rfl ?_
        obtain ⟨u11, s9, e10, h⟩ := bd2_ok h
        refine kX9_mendsIn X (ctX9_mendsIn e10) dX9_tellsIn_80 lM_0 g_1173 (by omega) (Nat.le_of_ble_eq_true rfl) ?_
        refine r_istore_n (L' := [(0, .ref (ea E 0)), (2, .int a2), (3, .int u11)]) X dX9_tellsIn_83 [1, 3, 0] rfl rfl (Nat.le_of_ble_eq_true rfl) ?_
        refine r_iload_n X dX9_tellsIn_84 2 rfl rfl ?_
        refine r_aload_n X dX9_tellsIn_85 0 rfl rfl ?_
        refine r_iconst X dX9_tellsIn_86 (v := 3) (by decide) ?_
        refine r_iload_n X dX9_tellsIn_87 1 rfl rfl ?_
        obtain ⟨u14, s12, e13, h⟩ := bd2_ok h
        refine kX9_tellsIn X (hrec0 _ _ _ _ _ e13) dX9_tellsIn_88 lM_0 g_1181 (by omega) (Nat.le_of_ble_eq_true rfl) ?_
        refine r_isub X dX9_tellsIn_91 ?_
        exact s_iret X hlk hr dX9_tellsIn_92 h
    · rw [if_pos c24] at h
      refine r_aload_n X dX9_tellsIn_37 0 rfl rfl ?_
      refine r_bipush X dX9_tellsIn_38 (v := 50) (by decide) ?_
      obtain ⟨s16, e17, h⟩ := bd1_ok h
      refine kX9_ran X (ctX9_ran e17) dX9_tellsIn_40 lM_0 g_1169 (by omega) (Nat.le_of_ble_eq_true rfl) ?_
      refine r_aload_n X dX9_tellsIn_43 0 rfl rfl ?_
      refine r_iconst X dX9_tellsIn_44 (v := 1) (by decide) ?_
      refine r_iload_n X dX9_tellsIn_45 2 rfl rfl ?_
      obtain ⟨u20, s18, e19, h⟩ := bd2_ok h
      refine kX9_tellsIn X (hrec0 _ _ _ _ _ e19) dX9_tellsIn_46 lM_0 g_1181 (by omega) (Nat.le_of_ble_eq_true rfl) ?_
      refine r_istore_n (L' := [(0, .ref (ea E 0)), (3, .int u20)]) X dX9_tellsIn_49 [1, 0] rfl rfl (Nat.le_of_ble_eq_true rfl) ?_
      refine r_iload_n X dX9_tellsIn_50 1 rfl rfl ?_
      refine r_aload_n X dX9_tellsIn_51 0 rfl rfl ?_
      refine r_aload_n X dX9_tellsIn_52 0 rfl rfl ?_
      refine r_geti X dX9_tellsIn_53 i_X9 v_X9 lM_0 25 rfl (Nat.le_of_ble_eq_true rfl) g_799 ?_
      refine r_iconst X dX9_tellsIn_56 (v := 2) (by decide) ?_
      obtain ⟨u23, s21, e22, h⟩ := bd2_ok h
      refine kX9_leavesIn X (ctX9_leavesIn e22) dX9_tellsIn_57 lM_0 g_1165 (by omega) (Nat.le_of_ble_eq_true rfl) ?_
      refine r_isub X dX9_tellsIn_60 ?_
      exact s_iret X hlk hr dX9_tellsIn_61 h
  · rw [if_pos c33] at h
    refine r_aload_n X dX9_tellsIn_4 0 rfl rfl ?_
    refine r_bipush X dX9_tellsIn_5 (v := 13) (by decide) ?_
    obtain ⟨s25, e26, h⟩ := bd1_ok h
    refine kX9_ran X (ctX9_ran e26) dX9_tellsIn_7 lM_0 g_1169 (by omega) (Nat.le_of_ble_eq_true rfl) ?_
    refine r_aload_n X dX9_tellsIn_10 0 rfl rfl ?_
    refine r_aload_n X dX9_tellsIn_11 0 rfl rfl ?_
    refine r_geti X dX9_tellsIn_12 i_X9 v_X9 lM_0 25 rfl (Nat.le_of_ble_eq_true rfl) g_799 ?_
    refine r_iload_n X dX9_tellsIn_15 2 rfl rfl ?_
    obtain ⟨u29, s27, e28, h⟩ := bd2_ok h
    refine kX9_mendsIn X (ctX9_mendsIn e28) dX9_tellsIn_16 lM_0 g_1173 (by omega) (Nat.le_of_ble_eq_true rfl) ?_
    refine r_istore_n (L' := [(0, .ref (ea E 0)), (2, .int a2), (3, .int u29)]) X dX9_tellsIn_19 [1, 3, 0] rfl rfl (Nat.le_of_ble_eq_true rfl) ?_
    refine r_iload_n X dX9_tellsIn_20 2 rfl rfl ?_
    refine r_aload_n X dX9_tellsIn_21 0 rfl rfl ?_
    refine r_aload_n X dX9_tellsIn_22 0 rfl rfl ?_
    refine r_geti X dX9_tellsIn_23 i_X9 v_X9 lM_0 25 rfl (Nat.le_of_ble_eq_true rfl) g_799 ?_
    refine r_iload_n X dX9_tellsIn_26 1 rfl rfl ?_
    obtain ⟨u32, s30, e31, h⟩ := bd2_ok h
    refine kX9_grievesIn X (ctX9_grievesIn e31) dX9_tellsIn_27 lM_0 g_1177 (by omega) (Nat.le_of_ble_eq_true rfl) ?_
    refine r_ixor X dX9_tellsIn_30 ?_
    exact s_iret X hlk hr dX9_tellsIn_31 h
def grp_X9_tellsIn : Nat → Nat → List Int32 → St → Option (Int32 × St)
  | 0, _, _, _ => none
  | n + 1, 0, [a1, a2], s => fX9_tellsIn (grp_X9_tellsIn n) a1 a2 s
  | _ + 1, _, _, _ => none
set_option maxHeartbeats 4000000 in
set_option maxRecDepth 100000 in
theorem grp_X9_tellsIn_ok (l : Launch) (E : EE) : ∀ n : Nat, (∀ (a1 : Int32) (a2 : Int32) (s : St) (r : Int32) (t : St), grp_X9_tellsIn n 0 [a1, a2] s = some (r, t) → Ct l E layM yX9_tellsIn cX9_tellsIn 4 (some .int) (n + 203) [.ref (ea E 0), .int a1, .int a2] s (some (.int r)) t) := by
  intro n
  induction n with
  | zero =>
    exact fun _ _ _ _ _ h => by cases h
  | succ n ih =>
    have h0 := ih
    intro z0 z1 s r t h
    rw [show n + 1 + 203 = n + 203 + 1 by omega]
    exact ctX9_tellsIn_s (Nat.le_add_left _ _) h0 h
theorem ctX9_tellsIn {l : Launch} {E : EE} {a1 : Int32} {a2 : Int32} {s t : St} {r : Int32} (h : grp_X9_tellsIn RF 0 [a1, a2] s = some (r, t)) : Ct l E layM yX9_tellsIn cX9_tellsIn 4 (some .int) 303 [.ref (ea E 0), .int a1, .int a2] s (some (.int r)) t := (grp_X9_tellsIn_ok l E RF) _ _ _ _ _ h
/-! X9_voice -/
theorem nX9_voice : yX9_voice.cls ≠ "java/lang/invoke/MethodHandle" ∧ yX9_voice.cls ≠ "java/lang/invoke/VarHandle" ∧ (parseMethodDescriptor yX9_voice.desc).map (fun d => d.parameters.length) = some 3 := by decide +kernel
theorem kX9_voice {l : Launch} {E : EE} {p : Program} {e : Env} {ms : State} {m : MethodId} {args : Array Value} {below : List Frame} {meth : Method} {c : Code} {cc : ByteArray} {own : String} {nL pc idx d D : Nat} {Q : State → Prop} {L : List (Nat × Value)} {rest : List Value} {σ τ : St} {a1 : Int32} {a2 : Int32} {a3 : Int32} {r : Int32} {fl : List (Option Nat)} (X : Cx E layM p ms m args c cc own nL) (hM : Ct l E layM yX9_voice cX9_voice 4 (some .int) d [.ref (ea E 0), .int a1, .int a2, .int a3] σ (some (.int r)) τ) (hd : decode cc pc = .ok (.invokevirtual idx, 3)) (hlay : layM[0]? = some (.inl (8, fl))) (w1 : Cond.methodLink own idx yX9_voice ∈ gw) (hR : d + 1 ≤ D) (hrs : (rest.map fun v => v.category).sum ≤ 8) (k : AW E layM p l e (rmD D) ms m args below meth c nL 0 0 Q (pc + 3) L (.int r :: rest) τ) : AW E layM p l e (rmD D) ms m args below meth c nL 0 0 Q pc L (.int a3 :: .int a2 :: .int a1 :: .ref (ea E 0) :: rest) σ :=
  s_callV X [.int a1, .int a2, .int a3] rest hM hd v_X9 hlay w1 g_1162 g_1163 g_77 g_1164 nX9_voice rfl rfl hrs (Nat.le_of_ble_eq_true rfl) hR k
def fX9_voice (a1 : Int32) (a2 : Int32) (a3 : Int32) (s0 : St) : Option (Int32 × St) :=
    bd2 (fX9_isDiner a1 s0) fun u3 s1 =>
    jn (fun (s4 : St) =>
    bd2 (fX9_errs (-1000000001) s4) fun u7 s5 =>
    some (u7, s5)) fun j17 =>
    if u3 = 0 then
    j17 s1
    else
    bd2 (fX9_in a2 0 3 s1) fun u10 s8 =>
    if u10 = 0 then
    j17 s8
    else
    bd1 (ptf s8 0 24 0) fun s11 =>
    bd2 (fX9_its a1 0 s11) fun u14 s12 =>
    bd1 (ptf s12 0 25 u14) fun s15 =>
    bd1 (ptf s15 0 26 a1) fun s16 =>
    bd2 (fX9_its a1 1 s16) fun u19 s17 =>
    bd1 (ptf s17 0 27 u19) fun s20 =>
    if a2 = 0 then
    bd2 (grp_X9_leavesIn RF 0 [(s20 0 25), a3] s20) fun u24 s22 =>
    some (u24, s22)
    else if a2 = 1 then
    bd2 (grp_X9_mendsIn RF 0 [(s20 0 25), a3] s20) fun u28 s26 =>
    some (u28, s26)
    else if a2 = 2 then
    bd2 (grp_X9_grievesIn RF 0 [(s20 0 25), a3] s20) fun u32 s30 =>
    some (u32, s30)
    else bd2 (grp_X9_tellsIn RF 0 [(s20 0 25), a3] s20) fun u35 s33 =>
    some (u35, s33)
set_option maxHeartbeats 4000000 in
set_option maxRecDepth 100000 in
theorem ctX9_voice {l : Launch} {E : EE} {a1 : Int32} {a2 : Int32} {a3 : Int32} {s0 : St} {r9 : Int32} {t9 : St}  (h : fX9_voice a1 a2 a3 s0 = some (r9, t9)) : Ct l E layM yX9_voice cX9_voice 4 (some .int) 304 [.ref (ea E 0), .int a1, .int a2, .int a3] s0 (some (.int r9)) t9 := by
  refine Ct.of (by decide) (Nat.le_of_ble_eq_true rfl) ?_
  intro p e ms m below meth c X hlk hr
  have X : Cx E layM p ms m [.ref (ea E 0), .int a1, .int a2, .int a3].toArray c cX9_voice RX9 4 := X
  refine r_sub (L' := [(0, .ref (ea E 0)), (1, .int a1), (2, .int a2), (3, .int a3)]) [0, 1, 2, 3] rfl ?_
  unfold fX9_voice at h
  refine r_aload_n X dX9_voice_0 0 rfl rfl ?_
  refine r_iload_n X dX9_voice_1 1 rfl rfl ?_
  obtain ⟨u3, s1, e2, h⟩ := bd2_ok h
  refine kX9_isDiner X (ctX9_isDiner e2) dX9_voice_2 lM_0 g_912 (Nat.le_of_ble_eq_true rfl) (Nat.le_of_ble_eq_true rfl) ?_
  obtain ⟨j17, ej17, h⟩ := jn1_ok h
  have hj17 : ∀ (s4 : St), j17 s4 = some (r9, t9) → AW E layM p l e (rmD 304) ms m [.ref (ea E 0), .int a1, .int a2, .int a3].toArray below meth c 4 0 0 (MQc E layM below [.ref (ea E 0), .int a1, .int a2, .int a3].toArray ms (some (.int r9)) t9) 17 [(0, .ref (ea E 0))] [] s4 := by
    intro s4 h
    rw [ej17] at h
    refine r_aload_n X dX9_voice_17 0 rfl rfl ?_
    refine r_ldc X dX9_voice_18 g_873 ?_
    obtain ⟨u7, s5, e6, h⟩ := bd2_ok h
    refine kX9_errs X (ctX9_errs e6) dX9_voice_20 lM_0 g_874 (Nat.le_of_ble_eq_true rfl) (Nat.le_of_ble_eq_true rfl) ?_
    exact s_iret X hlk hr dX9_voice_23 h
  refine r_if_eq X 17 dX9_voice_5 (by decide) (fun c37 => ?_) (fun c37 => ?_)
  · rw [if_pos c37] at h
    refine r_sub (L' := [(0, .ref (ea E 0))]) [0] rfl ?_
    exact hj17 _ h
  · rw [if_neg c37] at h
    refine r_iload_n X dX9_voice_8 2 rfl rfl ?_
    refine r_iconst X dX9_voice_9 (v := 0) (by decide) ?_
    refine r_iconst X dX9_voice_10 (v := 3) (by decide) ?_
    obtain ⟨u10, s8, e9, h⟩ := bd2_ok h
    refine kX9_in X (ctX9_in e9) dX9_voice_11 g_866 (Nat.le_of_ble_eq_true rfl) (Nat.le_of_ble_eq_true rfl) ?_
    refine r_if_ne X 24 dX9_voice_14 (by decide) (fun c36 => ?_) (fun c36 => ?_)
    · rw [if_neg c36] at h
      refine r_aload_n X dX9_voice_24 0 rfl rfl ?_
      refine r_iconst X dX9_voice_25 (v := 0) (by decide) ?_
      obtain ⟨s11, es11, h⟩ := pt_ok h
      refine s_puti X dX9_voice_26 i_X9 tyX9_ok nmX9 v_X9 lM_0 24 rfl (Nat.le_of_ble_eq_true rfl) g_798 rfl rfl ⟨rfl, rfl⟩ es11 ?_
      refine r_aload_n X dX9_voice_29 0 rfl rfl ?_
      refine r_aload_n X dX9_voice_30 0 rfl rfl ?_
      refine r_iload_n X dX9_voice_31 1 rfl rfl ?_
      refine r_iconst X dX9_voice_32 (v := 0) (by decide) ?_
      obtain ⟨u14, s12, e13, h⟩ := bd2_ok h
      refine kX9_its X (ctX9_its e13) dX9_voice_33 lM_0 g_916 (Nat.le_of_ble_eq_true rfl) (Nat.le_of_ble_eq_true rfl) ?_
      obtain ⟨s15, es15, h⟩ := pt_ok h
      refine s_puti X dX9_voice_36 i_X9 tyX9_ok nmX9 v_X9 lM_0 25 rfl (Nat.le_of_ble_eq_true rfl) g_799 rfl rfl ⟨rfl, rfl⟩ es15 ?_
      refine r_aload_n X dX9_voice_39 0 rfl rfl ?_
      refine r_iload_n X dX9_voice_40 1 rfl rfl ?_
      obtain ⟨s16, es16, h⟩ := pt_ok h
      refine s_puti X dX9_voice_41 i_X9 tyX9_ok nmX9 v_X9 lM_0 26 rfl (Nat.le_of_ble_eq_true rfl) g_800 rfl rfl ⟨rfl, rfl⟩ es16 ?_
      refine r_aload_n X dX9_voice_44 0 rfl rfl ?_
      refine r_aload_n X dX9_voice_45 0 rfl rfl ?_
      refine r_iload_n X dX9_voice_46 1 rfl rfl ?_
      refine r_iconst X dX9_voice_47 (v := 1) (by decide) ?_
      obtain ⟨u19, s17, e18, h⟩ := bd2_ok h
      refine kX9_its X (ctX9_its e18) dX9_voice_48 lM_0 g_916 (Nat.le_of_ble_eq_true rfl) (Nat.le_of_ble_eq_true rfl) ?_
      obtain ⟨s20, es20, h⟩ := pt_ok h
      refine s_puti X dX9_voice_51 i_X9 tyX9_ok nmX9 v_X9 lM_0 27 rfl (Nat.le_of_ble_eq_true rfl) g_801 rfl rfl ⟨rfl, rfl⟩ es20 ?_
      refine r_iload_n X dX9_voice_54 2 rfl rfl ?_
      by_cases c21 : a2 = 0
      · rw [if_pos c21] at h
        refine r_tabIn X 80 (0) (by rw [c21]; decide) dX9_voice_55 (by decide) (by decide) rfl (by decide) ?_
        refine r_aload_n X dX9_voice_80 0 rfl rfl ?_
        refine r_aload_n X dX9_voice_81 0 rfl rfl ?_
        refine r_geti X dX9_voice_82 i_X9 v_X9 lM_0 25 rfl (Nat.le_of_ble_eq_true rfl) g_799 ?_
        refine r_iload_n X dX9_voice_85 3 rfl rfl ?_
        obtain ⟨u24, s22, e23, h⟩ := bd2_ok h
        refine kX9_leavesIn X (ctX9_leavesIn e23) dX9_voice_86 lM_0 g_1165 (Nat.le_of_ble_eq_true rfl) (Nat.le_of_ble_eq_true rfl) ?_
        exact s_iret X hlk hr dX9_voice_89 h
      rw [if_neg c21] at h
      by_cases c25 : a2 = 1
      · rw [if_pos c25] at h
        refine r_tabIn X 90 (1) (by rw [c25]; decide) dX9_voice_55 (by decide) (by decide) rfl (by decide) ?_
        refine r_aload_n X dX9_voice_90 0 rfl rfl ?_
        refine r_aload_n X dX9_voice_91 0 rfl rfl ?_
        refine r_geti X dX9_voice_92 i_X9 v_X9 lM_0 25 rfl (Nat.le_of_ble_eq_true rfl) g_799 ?_
        refine r_iload_n X dX9_voice_95 3 rfl rfl ?_
        obtain ⟨u28, s26, e27, h⟩ := bd2_ok h
        refine kX9_mendsIn X (ctX9_mendsIn e27) dX9_voice_96 lM_0 g_1173 (Nat.le_of_ble_eq_true rfl) (Nat.le_of_ble_eq_true rfl) ?_
        exact s_iret X hlk hr dX9_voice_99 h
      rw [if_neg c25] at h
      by_cases c29 : a2 = 2
      · rw [if_pos c29] at h
        refine r_tabIn X 100 (2) (by rw [c29]; decide) dX9_voice_55 (by decide) (by decide) rfl (by decide) ?_
        refine r_aload_n X dX9_voice_100 0 rfl rfl ?_
        refine r_aload_n X dX9_voice_101 0 rfl rfl ?_
        refine r_geti X dX9_voice_102 i_X9 v_X9 lM_0 25 rfl (Nat.le_of_ble_eq_true rfl) g_799 ?_
        refine r_iload_n X dX9_voice_105 3 rfl rfl ?_
        obtain ⟨u32, s30, e31, h⟩ := bd2_ok h
        refine kX9_grievesIn X (ctX9_grievesIn e31) dX9_voice_106 lM_0 g_1177 (Nat.le_of_ble_eq_true rfl) (Nat.le_of_ble_eq_true rfl) ?_
        exact s_iret X hlk hr dX9_voice_109 h
      rw [if_neg c29] at h
      have nc21 := lv_neT (k := 0) c21 (a := 0) (by decide)
      have nc25 := lv_neT (k := 1) c25 (a := 1) (by decide)
      have nc29 := lv_neT (k := 2) c29 (a := 2) (by decide)
      refine r_tabOut X 110 dX9_voice_55 (by omega) (by decide) ?_
      refine r_aload_n X dX9_voice_110 0 rfl rfl ?_
      refine r_aload_n X dX9_voice_111 0 rfl rfl ?_
      refine r_geti X dX9_voice_112 i_X9 v_X9 lM_0 25 rfl (Nat.le_of_ble_eq_true rfl) g_799 ?_
      refine r_iload_n X dX9_voice_115 3 rfl rfl ?_
      obtain ⟨u35, s33, e34, h⟩ := bd2_ok h
      refine kX9_tellsIn X (ctX9_tellsIn e34) dX9_voice_116 lM_0 g_1181 (Nat.le_of_ble_eq_true rfl) (Nat.le_of_ble_eq_true rfl) ?_
      exact s_iret X hlk hr dX9_voice_119 h
    · rw [if_pos c36] at h
      refine r_sub (L' := [(0, .ref (ea E 0))]) [0] rfl ?_
      exact hj17 _ h
/-! X9_trace -/
theorem nX9_trace : yX9_trace.cls ≠ "java/lang/invoke/MethodHandle" ∧ yX9_trace.cls ≠ "java/lang/invoke/VarHandle" ∧ (parseMethodDescriptor yX9_trace.desc).map (fun d => d.parameters.length) = some 1 := by decide +kernel
theorem kX9_trace {l : Launch} {E : EE} {p : Program} {e : Env} {ms : State} {m : MethodId} {args : Array Value} {below : List Frame} {meth : Method} {c : Code} {cc : ByteArray} {own : String} {nL pc idx d D : Nat} {Q : State → Prop} {L : List (Nat × Value)} {rest : List Value} {σ τ : St} {a1 : Int32} {r : Int32} {fl : List (Option Nat)} (X : Cx E layM p ms m args c cc own nL) (hM : Ct l E layM yX9_trace cX9_trace 2 (some .int) d [.ref (ea E 0), .int a1] σ (some (.int r)) τ) (hd : decode cc pc = .ok (.invokevirtual idx, 3)) (hlay : layM[0]? = some (.inl (8, fl))) (w1 : Cond.methodLink own idx yX9_trace ∈ gw) (hR : d + 1 ≤ D) (hrs : (rest.map fun v => v.category).sum ≤ 8) (k : AW E layM p l e (rmD D) ms m args below meth c nL 0 0 Q (pc + 3) L (.int r :: rest) τ) : AW E layM p l e (rmD D) ms m args below meth c nL 0 0 Q pc L (.int a1 :: .ref (ea E 0) :: rest) σ :=
  s_callV X [.int a1] rest hM hd v_X9 hlay w1 g_1186 g_1187 g_77 g_1188 nX9_trace rfl rfl hrs (Nat.le_of_ble_eq_true rfl) hR k
def fX9_trace (a1 : Int32) (s0 : St) : Option (Int32 × St) :=
    bd2 (fX9_in a1 0 ((s0 0 24) - 1) s0) fun u3 s1 =>
    if u3 = 0 then
    bd2 (fX9_errs (-1000000002) s1) fun u6 s4 =>
    some (u6, s4)
    else
    bd1 (ald s1 13 40 a1) fun v8 =>
    some (v8, s1)
set_option maxHeartbeats 4000000 in
set_option maxRecDepth 100000 in
theorem ctX9_trace {l : Launch} {E : EE} {a1 : Int32} {s0 : St} {r9 : Int32} {t9 : St}  (h : fX9_trace a1 s0 = some (r9, t9)) : Ct l E layM yX9_trace cX9_trace 2 (some .int) 1 [.ref (ea E 0), .int a1] s0 (some (.int r9)) t9 := by
  refine Ct.of (by decide) (Nat.le_of_ble_eq_true rfl) ?_
  intro p e ms m below meth c X hlk hr
  have X : Cx E layM p ms m [.ref (ea E 0), .int a1].toArray c cX9_trace RX9 2 := X
  refine r_sub (L' := [(0, .ref (ea E 0)), (1, .int a1)]) [0, 1] rfl ?_
  unfold fX9_trace at h
  refine r_iload_n X dX9_trace_0 1 rfl rfl ?_
  refine r_iconst X dX9_trace_1 (v := 0) (by decide) ?_
  refine r_aload_n X dX9_trace_2 0 rfl rfl ?_
  refine r_geti X dX9_trace_3 i_X9 v_X9 lM_0 24 rfl (Nat.le_of_ble_eq_true rfl) g_798 ?_
  refine r_iconst X dX9_trace_6 (v := 1) (by decide) ?_
  refine r_isub X dX9_trace_7 ?_
  obtain ⟨u3, s1, e2, h⟩ := bd2_ok h
  refine kX9_in X (ctX9_in e2) dX9_trace_8 g_866 (Nat.le_of_ble_eq_true rfl) (Nat.le_of_ble_eq_true rfl) ?_
  refine r_if_eq X 23 dX9_trace_11 (by decide) (fun c9 => ?_) (fun c9 => ?_)
  · rw [if_pos c9] at h
    refine r_aload_n X dX9_trace_23 0 rfl rfl ?_
    refine r_ldc X dX9_trace_24 g_1077 ?_
    obtain ⟨u6, s4, e5, h⟩ := bd2_ok h
    refine kX9_errs X (ctX9_errs e5) dX9_trace_26 lM_0 g_874 (Nat.le_of_ble_eq_true rfl) (Nat.le_of_ble_eq_true rfl) ?_
    exact s_iret X hlk hr dX9_trace_29 h
  · rw [if_neg c9] at h
    refine r_aload_n X dX9_trace_14 0 rfl rfl ?_
    refine r_getr X dX9_trace_15 i_X9 v_X9 lM_0 23 rfl (Nat.le_of_ble_eq_true rfl) g_797 ?_
    refine r_iload_n X dX9_trace_18 1 rfl rfl ?_
    obtain ⟨g7, v8, ev8, h⟩ := ld_ok h
    refine s_iald X dX9_trace_19 lM_13 g7 ev8 ?_
    refine r_goto X 29 dX9_trace_20 (by decide) ?_
    exact s_iret X hlk hr dX9_trace_29 h
/-! X9_narrow -/
theorem nX9_narrow : yX9_narrow.cls ≠ "java/lang/invoke/MethodHandle" ∧ yX9_narrow.cls ≠ "java/lang/invoke/VarHandle" ∧ (parseMethodDescriptor yX9_narrow.desc).map (fun d => d.parameters.length) = some 2 := by decide +kernel
theorem kX9_narrow {l : Launch} {E : EE} {p : Program} {e : Env} {ms : State} {m : MethodId} {args : Array Value} {below : List Frame} {meth : Method} {c : Code} {cc : ByteArray} {own : String} {nL pc idx d D : Nat} {Q : State → Prop} {L : List (Nat × Value)} {rest : List Value} {σ τ : St} {a0 : Int32} {a1 : Int32} {r : Int32} (X : Cx E layM p ms m args c cc own nL) (hM : Ct l E layM yX9_narrow cX9_narrow 2 (some .int) d [.int a0, .int a1] σ (some (.int r)) τ) (hd : decode cc pc = .ok (.invokestatic idx, 3)) (w1 : Cond.methodLink own idx yX9_narrow ∈ gw) (hR : d + 1 ≤ D) (hrs : (rest.map fun v => v.category).sum ≤ 8) (k : AW E layM p l e (rmD D) ms m args below meth c nL 0 0 Q (pc + 3) L (.int r :: rest) τ) : AW E layM p l e (rmD D) ms m args below meth c nL 0 0 Q pc L (.int a1 :: .int a0 :: rest) σ :=
  s_callS X [.int a0, .int a1] rest hM hd w1 g_1198 g_77 g_1199 nX9_narrow rfl rfl hrs (Nat.le_of_ble_eq_true rfl) hR k
def fX9_narrow (a0 : Int32) (a1 : Int32) (s0 : St) : Option (Int32 × St) :=
    if a0 = 8 then
    some (i8 a1, s0)
    else
    if a0 = 16 then
    some (i16 a1, s0)
    else
    some (a1, s0)
set_option maxHeartbeats 4000000 in
set_option maxRecDepth 100000 in
theorem ctX9_narrow {l : Launch} {E : EE} {a0 : Int32} {a1 : Int32} {s0 : St} {r9 : Int32} {t9 : St}  (h : fX9_narrow a0 a1 s0 = some (r9, t9)) : Ct l E layM yX9_narrow cX9_narrow 2 (some .int) 0 [.int a0, .int a1] s0 (some (.int r9)) t9 := by
  refine Ct.of (by decide) (Nat.le_of_ble_eq_true rfl) ?_
  intro p e ms m below meth c X hlk hr
  have X : Cx E layM p ms m [.int a0, .int a1].toArray c cX9_narrow RX9 2 := X
  refine r_sub (L' := [(0, .int a0), (1, .int a1)]) [0, 1] rfl ?_
  unfold fX9_narrow at h
  refine r_iload_n X dX9_narrow_0 0 rfl rfl ?_
  refine r_bipush X dX9_narrow_1 (v := 8) (by decide) ?_
  refine r_icmp_ne X 11 dX9_narrow_3 (by decide) (fun c2 => ?_) (fun c2 => ?_)
  · rw [if_neg c2] at h
    refine r_iload_n X dX9_narrow_11 0 rfl rfl ?_
    refine r_bipush X dX9_narrow_12 (v := 16) (by decide) ?_
    refine r_icmp_ne X 22 dX9_narrow_14 (by decide) (fun c1 => ?_) (fun c1 => ?_)
    · rw [if_neg c1] at h
      refine r_iload_n X dX9_narrow_22 1 rfl rfl ?_
      exact s_iret X hlk hr dX9_narrow_23 h
    · rw [if_pos c1] at h
      refine r_iload_n X dX9_narrow_17 1 rfl rfl ?_
      refine s_i2s X dX9_narrow_18 ?_
      refine r_goto X 23 dX9_narrow_19 (by decide) ?_
      exact s_iret X hlk hr dX9_narrow_23 h
  · rw [if_pos c2] at h
    refine r_iload_n X dX9_narrow_6 1 rfl rfl ?_
    refine s_i2b X dX9_narrow_7 ?_
    refine r_goto X 23 dX9_narrow_8 (by decide) ?_
    exact s_iret X hlk hr dX9_narrow_23 h
/-! X9_sheet -/
theorem nX9_sheet : yX9_sheet.cls ≠ "java/lang/invoke/MethodHandle" ∧ yX9_sheet.cls ≠ "java/lang/invoke/VarHandle" ∧ (parseMethodDescriptor yX9_sheet.desc).map (fun d => d.parameters.length) = some 3 := by decide +kernel
theorem kX9_sheet {l : Launch} {E : EE} {p : Program} {e : Env} {ms : State} {m : MethodId} {args : Array Value} {below : List Frame} {meth : Method} {c : Code} {cc : ByteArray} {own : String} {nL pc idx d D : Nat} {Q : State → Prop} {L : List (Nat × Value)} {rest : List Value} {σ τ : St} {a1 : Int32} {a2 : Int32} {a3 : Int32} {r : Int32} {fl : List (Option Nat)} (X : Cx E layM p ms m args c cc own nL) (hM : Ct l E layM yX9_sheet cX9_sheet 5 (some .int) d [.ref (ea E 0), .int a1, .int a2, .int a3] σ (some (.int r)) τ) (hd : decode cc pc = .ok (.invokevirtual idx, 3)) (hlay : layM[0]? = some (.inl (8, fl))) (w1 : Cond.methodLink own idx yX9_sheet ∈ gw) (hR : d + 1 ≤ D) (hrs : (rest.map fun v => v.category).sum ≤ 8) (k : AW E layM p l e (rmD D) ms m args below meth c nL 0 0 Q (pc + 3) L (.int r :: rest) τ) : AW E layM p l e (rmD D) ms m args below meth c nL 0 0 Q pc L (.int a3 :: .int a2 :: .int a1 :: .ref (ea E 0) :: rest) σ :=
  s_callV X [.int a1, .int a2, .int a3] rest hM hd v_X9 hlay w1 g_1190 g_1191 g_77 g_1192 nX9_sheet rfl rfl hrs (Nat.le_of_ble_eq_true rfl) hR k
def fX9_sheet_93 (a1 : Int32) : Nat → Int32 → St → Option (St)
  | 0, _, _ => none
  | n + 1, a4, s0 =>
    if 40 ≤ a4 then
    some s0
    else
    bd1 (ast s0 9 160 ((40 * a1) + a4) 0) fun s13 =>
    fX9_sheet_93 a1 n (a4 + 1) s13
def fX9_sheet (a1 : Int32) (a2 : Int32) (a3 : Int32) (s0 : St) : Option (Int32 × St) :=
    bd2 (fX9_isSheet a1 s0) fun u3 s1 =>
    jn (fun (_ : Unit) =>
    bd2 (fX9_errs (-1000000001) s1) fun u6 s4 =>
    some (u6, s4)) fun j29 =>
    if u3 = 0 then
    j29 ()
    else
    jn (fun (_ : Unit) =>
    jn (fun (_ : Unit) =>
    jn (fun (_ : Unit) =>
    bd1 (ast s1 7 4 a1 a2) fun s8 =>
    jn (fun (w9 : Int32) =>
    bd1 (ast s8 8 4 a1 w9) fun s11 =>
    bd1 (fX9_sheet_93 a1 FU 0 s11) fun s15 =>
    some (1, s15)) fun j89 =>
    if a2 = 0 then
    j89 0
    else
    j89 a3) fun j68 =>
    if a2 = 0 then
    j68 ()
    else
    if a3 ≤ 40 then
    j68 ()
    else
    bd2 (fX9_errs (-1000000001) s1) fun u19 s17 =>
    some (u19, s17)) fun j51 =>
    if a2 = 0 then
    j51 ()
    else
    if 0 ≤ a3 then
    j51 ()
    else
    bd2 (fX9_errs (-1000000003) s1) fun u24 s22 =>
    some (u24, s22)) fun j36 =>
    if a2 = 0 then
    j36 ()
    else
    if a2 = 8 then
    j36 ()
    else
    if a2 = 16 then
    j36 ()
    else
    if a2 = 32 then
    j36 ()
    else
    j29 ()
set_option maxHeartbeats 4000000 in
set_option maxRecDepth 100000 in
theorem LX9_sheet_93 {l : Launch} {E : EE} {p : Program} {e : Env} {ms : State} {m : MethodId} {args : Array Value} {below : List Frame} {meth : Method} {c : Code} {a1 : Int32} {Q : State → Prop} (X : Cx E layM p ms m args c cX9_sheet RX9 5) : ∀ (n : Nat) (a4 : Int32) (s0 : St)  (t8 : St), fX9_sheet_93 a1 n a4 s0 = some t8 → AW E layM p l e (rmD 2) ms m args below meth c 5 0 0 Q 119 [] [] t8 → AW E layM p l e (rmD 2) ms m args below meth c 5 0 0 Q 93 [(0, .ref (ea E 0)), (1, .int a1), (4, .int a4)] [] s0 := by
  intro n
  induction n with
  | zero =>
    intro a4 s0 t8 h hE
    cases h
  | succ n ih =>
    intro a4 s0 t8 h hE
    rw [fX9_sheet_93] at h
    refine r_iload X dX9_sheet_93 2 rfl ?_
    refine r_bipush X dX9_sheet_95 (v := 40) (by decide) ?_
    refine r_icmp_ge X 119 dX9_sheet_97 (by decide) (fun c14 => ?_) (fun c14 => ?_)
    · rw [if_pos c14] at h
      refine r_sub (L' := []) [] rfl ?_
      cases h
      exact hE
    · rw [if_neg c14] at h
      refine r_aload_n X dX9_sheet_100 0 rfl rfl ?_
      refine r_getr X dX9_sheet_101 i_X9 v_X9 lM_0 19 rfl (Nat.le_of_ble_eq_true rfl) g_793 ?_
      refine r_bipush X dX9_sheet_104 (v := 40) (by decide) ?_
      refine r_iload_n X dX9_sheet_106 1 rfl rfl ?_
      refine r_imul X dX9_sheet_107 ?_
      refine r_iload X dX9_sheet_108 2 rfl ?_
      refine r_iadd X dX9_sheet_110 ?_
      refine r_iconst X dX9_sheet_111 (v := 0) (by decide) ?_
      obtain ⟨g12, s13, es13, h⟩ := as_ok h
      refine s_iast X dX9_sheet_112 lM_9 g12 es13 ?_
      refine r_iinc (L' := [(0, .ref (ea E 0)), (1, .int a1), (4, .int (a4 + 1))]) (v := a4 + 1) X dX9_sheet_113 2 rfl rfl [1, 2, 0] rfl (Nat.le_of_ble_eq_true rfl) ?_
      refine r_goto X 93 dX9_sheet_116 (by decide) ?_
      exact ih _ _ _ h hE
set_option maxHeartbeats 4000000 in
set_option maxRecDepth 100000 in
theorem ctX9_sheet {l : Launch} {E : EE} {a1 : Int32} {a2 : Int32} {a3 : Int32} {s0 : St} {r9 : Int32} {t9 : St}  (h : fX9_sheet a1 a2 a3 s0 = some (r9, t9)) : Ct l E layM yX9_sheet cX9_sheet 5 (some .int) 2 [.ref (ea E 0), .int a1, .int a2, .int a3] s0 (some (.int r9)) t9 := by
  refine Ct.of (by decide) (Nat.le_of_ble_eq_true rfl) ?_
  intro p e ms m below meth c X hlk hr
  have X : Cx E layM p ms m [.ref (ea E 0), .int a1, .int a2, .int a3].toArray c cX9_sheet RX9 5 := X
  refine r_sub (L' := [(0, .ref (ea E 0)), (1, .int a1), (2, .int a2), (3, .int a3)]) [0, 1, 2, 3] rfl ?_
  unfold fX9_sheet at h
  refine r_iload_n X dX9_sheet_0 1 rfl rfl ?_
  obtain ⟨u3, s1, e2, h⟩ := bd2_ok h
  refine kX9_isSheet X (ctX9_isSheet e2) dX9_sheet_1 g_1110 (Nat.le_of_ble_eq_true rfl) (Nat.le_of_ble_eq_true rfl) ?_
  obtain ⟨j29, ej29, h⟩ := jn1_ok h
  have hj29 : ∀ (u : Unit), j29 u = some (r9, t9) → AW E layM p l e (rmD 2) ms m [.ref (ea E 0), .int a1, .int a2, .int a3].toArray below meth c 5 0 0 (MQc E layM below [.ref (ea E 0), .int a1, .int a2, .int a3].toArray ms (some (.int r9)) t9) 29 [(0, .ref (ea E 0))] [] s1 := by
    intro u h
    rw [ej29] at h
    refine r_aload_n X dX9_sheet_29 0 rfl rfl ?_
    refine r_ldc X dX9_sheet_30 g_873 ?_
    obtain ⟨u6, s4, e5, h⟩ := bd2_ok h
    refine kX9_errs X (ctX9_errs e5) dX9_sheet_32 lM_0 g_874 (Nat.le_of_ble_eq_true rfl) (Nat.le_of_ble_eq_true rfl) ?_
    exact s_iret X hlk hr dX9_sheet_35 h
  refine r_if_eq X 29 dX9_sheet_4 (by decide) (fun c31 => ?_) (fun c31 => ?_)
  · rw [if_pos c31] at h
    refine r_sub (L' := [(0, .ref (ea E 0))]) [0] rfl ?_
    exact hj29 _ h
  · rw [if_neg c31] at h
    refine r_iload_n X dX9_sheet_7 2 rfl rfl ?_
    obtain ⟨j36, ej36, h⟩ := jn1_ok h
    have hj36 : ∀ (u : Unit), j36 u = some (r9, t9) → AW E layM p l e (rmD 2) ms m [.ref (ea E 0), .int a1, .int a2, .int a3].toArray below meth c 5 0 0 (MQc E layM below [.ref (ea E 0), .int a1, .int a2, .int a3].toArray ms (some (.int r9)) t9) 36 [(0, .ref (ea E 0)), (1, .int a1), (2, .int a2), (3, .int a3)] [] s1 := by
      intro u h
      rw [ej36] at h
      refine r_iload_n X dX9_sheet_36 2 rfl rfl ?_
      obtain ⟨j51, ej51, h⟩ := jn1_ok h
      have hj51 : ∀ (u : Unit), j51 u = some (r9, t9) → AW E layM p l e (rmD 2) ms m [.ref (ea E 0), .int a1, .int a2, .int a3].toArray below meth c 5 0 0 (MQc E layM below [.ref (ea E 0), .int a1, .int a2, .int a3].toArray ms (some (.int r9)) t9) 51 [(0, .ref (ea E 0)), (1, .int a1), (2, .int a2), (3, .int a3)] [] s1 := by
        intro u h
        rw [ej51] at h
        refine r_iload_n X dX9_sheet_51 2 rfl rfl ?_
        obtain ⟨j68, ej68, h⟩ := jn1_ok h
        have hj68 : ∀ (u : Unit), j68 u = some (r9, t9) → AW E layM p l e (rmD 2) ms m [.ref (ea E 0), .int a1, .int a2, .int a3].toArray below meth c 5 0 0 (MQc E layM below [.ref (ea E 0), .int a1, .int a2, .int a3].toArray ms (some (.int r9)) t9) 68 [(0, .ref (ea E 0)), (1, .int a1), (2, .int a2), (3, .int a3)] [] s1 := by
          intro u h
          rw [ej68] at h
          refine r_aload_n X dX9_sheet_68 0 rfl rfl ?_
          refine r_getr X dX9_sheet_69 i_X9 v_X9 lM_0 17 rfl (Nat.le_of_ble_eq_true rfl) g_791 ?_
          refine r_iload_n X dX9_sheet_72 1 rfl rfl ?_
          refine r_iload_n X dX9_sheet_73 2 rfl rfl ?_
          obtain ⟨g7, s8, es8, h⟩ := as_ok h
          refine s_iast X dX9_sheet_74 lM_7 g7 es8 ?_
          refine r_aload_n X dX9_sheet_75 0 rfl rfl ?_
          refine r_getr X dX9_sheet_76 i_X9 v_X9 lM_0 18 rfl (Nat.le_of_ble_eq_true rfl) g_792 ?_
          refine r_iload_n X dX9_sheet_79 1 rfl rfl ?_
          refine r_iload_n X dX9_sheet_80 2 rfl rfl ?_
          obtain ⟨j89, ej89, h⟩ := jn1_ok h
          have hj89 : ∀ (w9 : Int32), j89 w9 = some (r9, t9) → AW E layM p l e (rmD 2) ms m [.ref (ea E 0), .int a1, .int a2, .int a3].toArray below meth c 5 0 0 (MQc E layM below [.ref (ea E 0), .int a1, .int a2, .int a3].toArray ms (some (.int r9)) t9) 89 [(0, .ref (ea E 0)), (1, .int a1)] [.int w9, .int a1, .ref (ea E 8)] s8 := by
            intro w9 h
            rw [ej89] at h
            obtain ⟨g10, s11, es11, h⟩ := as_ok h
            refine s_iast X dX9_sheet_89 lM_8 g10 es11 ?_
            refine r_iconst X dX9_sheet_90 (v := 0) (by decide) ?_
            refine r_istore (L' := [(0, .ref (ea E 0)), (1, .int a1), (4, .int 0)]) X dX9_sheet_91 [1, 2, 0] rfl (Nat.le_of_ble_eq_true rfl) ?_
            obtain ⟨s15, eo, h⟩ := bd1_ok h
            refine LX9_sheet_93 X FU _ _ _ eo ?_
            refine r_iconst X dX9_sheet_119 (v := 1) (by decide) ?_
            exact s_iret X hlk hr dX9_sheet_120 h
          refine r_if_ne X 88 dX9_sheet_81 (by decide) (fun c16 => ?_) (fun c16 => ?_)
          · rw [if_neg c16] at h
            refine r_iload_n X dX9_sheet_88 3 rfl rfl ?_
            refine r_sub (L' := [(0, .ref (ea E 0)), (1, .int a1)]) [0, 1] rfl ?_
            exact hj89 _ h
          · rw [if_pos c16] at h
            refine r_iconst X dX9_sheet_84 (v := 0) (by decide) ?_
            refine r_goto X 89 dX9_sheet_85 (by decide) ?_
            refine r_sub (L' := [(0, .ref (ea E 0)), (1, .int a1)]) [0, 1] rfl ?_
            exact hj89 _ h
        refine r_if_eq X 68 dX9_sheet_52 (by decide) (fun c21 => ?_) (fun c21 => ?_)
        · rw [if_pos c21] at h
          exact hj68 _ h
        · rw [if_neg c21] at h
          refine r_iload_n X dX9_sheet_55 3 rfl rfl ?_
          refine r_bipush X dX9_sheet_56 (v := 40) (by decide) ?_
          refine r_icmp_le X 68 dX9_sheet_58 (by decide) (fun c20 => ?_) (fun c20 => ?_)
          · rw [if_pos c20] at h
            exact hj68 _ h
          · rw [if_neg c20] at h
            refine r_aload_n X dX9_sheet_61 0 rfl rfl ?_
            refine r_ldc X dX9_sheet_62 g_873 ?_
            obtain ⟨u19, s17, e18, h⟩ := bd2_ok h
            refine kX9_errs X (ctX9_errs e18) dX9_sheet_64 lM_0 g_874 (Nat.le_of_ble_eq_true rfl) (Nat.le_of_ble_eq_true rfl) ?_
            exact s_iret X hlk hr dX9_sheet_67 h
      refine r_if_eq X 51 dX9_sheet_37 (by decide) (fun c26 => ?_) (fun c26 => ?_)
      · rw [if_pos c26] at h
        exact hj51 _ h
      · rw [if_neg c26] at h
        refine r_iload_n X dX9_sheet_40 3 rfl rfl ?_
        refine r_if_ge X 51 dX9_sheet_41 (by decide) (fun c25 => ?_) (fun c25 => ?_)
        · rw [if_pos c25] at h
          exact hj51 _ h
        · rw [if_neg c25] at h
          refine r_aload_n X dX9_sheet_44 0 rfl rfl ?_
          refine r_ldc X dX9_sheet_45 g_1035 ?_
          obtain ⟨u24, s22, e23, h⟩ := bd2_ok h
          refine kX9_errs X (ctX9_errs e23) dX9_sheet_47 lM_0 g_874 (Nat.le_of_ble_eq_true rfl) (Nat.le_of_ble_eq_true rfl) ?_
          exact s_iret X hlk hr dX9_sheet_50 h
    refine r_if_eq X 36 dX9_sheet_8 (by decide) (fun c30 => ?_) (fun c30 => ?_)
    · rw [if_pos c30] at h
      exact hj36 _ h
    · rw [if_neg c30] at h
      refine r_iload_n X dX9_sheet_11 2 rfl rfl ?_
      refine r_bipush X dX9_sheet_12 (v := 8) (by decide) ?_
      refine r_icmp_eq X 36 dX9_sheet_14 (by decide) (fun c29 => ?_) (fun c29 => ?_)
      · rw [if_pos c29] at h
        exact hj36 _ h
      · rw [if_neg c29] at h
        refine r_iload_n X dX9_sheet_17 2 rfl rfl ?_
        refine r_bipush X dX9_sheet_18 (v := 16) (by decide) ?_
        refine r_icmp_eq X 36 dX9_sheet_20 (by decide) (fun c28 => ?_) (fun c28 => ?_)
        · rw [if_pos c28] at h
          exact hj36 _ h
        · rw [if_neg c28] at h
          refine r_iload_n X dX9_sheet_23 2 rfl rfl ?_
          refine r_bipush X dX9_sheet_24 (v := 32) (by decide) ?_
          refine r_icmp_eq X 36 dX9_sheet_26 (by decide) (fun c27 => ?_) (fun c27 => ?_)
          · rw [if_pos c27] at h
            exact hj36 _ h
          · rw [if_neg c27] at h
            refine r_sub (L' := [(0, .ref (ea E 0))]) [0] rfl ?_
            exact hj29 _ h
/-! X9_put -/
theorem nX9_put : yX9_put.cls ≠ "java/lang/invoke/MethodHandle" ∧ yX9_put.cls ≠ "java/lang/invoke/VarHandle" ∧ (parseMethodDescriptor yX9_put.desc).map (fun d => d.parameters.length) = some 3 := by decide +kernel
theorem kX9_put {l : Launch} {E : EE} {p : Program} {e : Env} {ms : State} {m : MethodId} {args : Array Value} {below : List Frame} {meth : Method} {c : Code} {cc : ByteArray} {own : String} {nL pc idx d D : Nat} {Q : State → Prop} {L : List (Nat × Value)} {rest : List Value} {σ τ : St} {a1 : Int32} {a2 : Int32} {a3 : Int32} {r : Int32} {fl : List (Option Nat)} (X : Cx E layM p ms m args c cc own nL) (hM : Ct l E layM yX9_put cX9_put 4 (some .int) d [.ref (ea E 0), .int a1, .int a2, .int a3] σ (some (.int r)) τ) (hd : decode cc pc = .ok (.invokevirtual idx, 3)) (hlay : layM[0]? = some (.inl (8, fl))) (w1 : Cond.methodLink own idx yX9_put ∈ gw) (hR : d + 1 ≤ D) (hrs : (rest.map fun v => v.category).sum ≤ 8) (k : AW E layM p l e (rmD D) ms m args below meth c nL 0 0 Q (pc + 3) L (.int r :: rest) τ) : AW E layM p l e (rmD D) ms m args below meth c nL 0 0 Q pc L (.int a3 :: .int a2 :: .int a1 :: .ref (ea E 0) :: rest) σ :=
  s_callV X [.int a1, .int a2, .int a3] rest hM hd v_X9 hlay w1 g_1194 g_1195 g_77 g_1196 nX9_put rfl rfl hrs (Nat.le_of_ble_eq_true rfl) hR k
def fX9_put (a1 : Int32) (a2 : Int32) (a3 : Int32) (s0 : St) : Option (Int32 × St) :=
    bd2 (fX9_isSheet a1 s0) fun u3 s1 =>
    if u3 = 0 then
    bd2 (fX9_errs (-1000000001) s1) fun u28 s26 =>
    some (u28, s26)
    else
    bd1 (ald s1 7 4 a1) fun v5 =>
    if v5 = 0 then
    bd2 (fX9_errs (-1000000002) s1) fun u24 s22 =>
    some (u24, s22)
    else
    bd1 (ald s1 8 4 a1) fun v7 =>
    bd2 (fX9_in a2 0 (v7 - 1) s1) fun u10 s8 =>
    if u10 = 0 then
    bd2 (fX9_errs (-1000000001) s8) fun u20 s18 =>
    some (u20, s18)
    else
    bd1 (ald s8 7 4 a1) fun v12 =>
    bd2 (fX9_narrow v12 a3 s8) fun u15 s13 =>
    bd1 (ast s13 9 160 ((40 * a1) + a2) u15) fun s17 =>
    some (1, s17)
set_option maxHeartbeats 4000000 in
set_option maxRecDepth 100000 in
theorem ctX9_put {l : Launch} {E : EE} {a1 : Int32} {a2 : Int32} {a3 : Int32} {s0 : St} {r9 : Int32} {t9 : St}  (h : fX9_put a1 a2 a3 s0 = some (r9, t9)) : Ct l E layM yX9_put cX9_put 4 (some .int) 2 [.ref (ea E 0), .int a1, .int a2, .int a3] s0 (some (.int r9)) t9 := by
  refine Ct.of (by decide) (Nat.le_of_ble_eq_true rfl) ?_
  intro p e ms m below meth c X hlk hr
  have X : Cx E layM p ms m [.ref (ea E 0), .int a1, .int a2, .int a3].toArray c cX9_put RX9 4 := X
  refine r_sub (L' := [(0, .ref (ea E 0)), (1, .int a1), (2, .int a2), (3, .int a3)]) [0, 1, 2, 3] rfl ?_
  unfold fX9_put at h
  refine r_iload_n X dX9_put_0 1 rfl rfl ?_
  obtain ⟨u3, s1, e2, h⟩ := bd2_ok h
  refine kX9_isSheet X (ctX9_isSheet e2) dX9_put_1 g_1110 (Nat.le_of_ble_eq_true rfl) (Nat.le_of_ble_eq_true rfl) ?_
  refine r_if_ne X 14 dX9_put_4 (by decide) (fun c29 => ?_) (fun c29 => ?_)
  · rw [if_neg c29] at h
    refine r_aload_n X dX9_put_14 0 rfl rfl ?_
    refine r_getr X dX9_put_15 i_X9 v_X9 lM_0 17 rfl (Nat.le_of_ble_eq_true rfl) g_791 ?_
    refine r_iload_n X dX9_put_18 1 rfl rfl ?_
    obtain ⟨g4, v5, ev5, h⟩ := ld_ok h
    refine s_iald X dX9_put_19 lM_7 g4 ev5 ?_
    refine r_if_ne X 30 dX9_put_20 (by decide) (fun c25 => ?_) (fun c25 => ?_)
    · rw [if_neg c25] at h
      refine r_iload_n X dX9_put_30 2 rfl rfl ?_
      refine r_iconst X dX9_put_31 (v := 0) (by decide) ?_
      refine r_aload_n X dX9_put_32 0 rfl rfl ?_
      refine r_getr X dX9_put_33 i_X9 v_X9 lM_0 18 rfl (Nat.le_of_ble_eq_true rfl) g_792 ?_
      refine r_iload_n X dX9_put_36 1 rfl rfl ?_
      obtain ⟨g6, v7, ev7, h⟩ := ld_ok h
      refine s_iald X dX9_put_37 lM_8 g6 ev7 ?_
      refine r_iconst X dX9_put_38 (v := 1) (by decide) ?_
      refine r_isub X dX9_put_39 ?_
      obtain ⟨u10, s8, e9, h⟩ := bd2_ok h
      refine kX9_in X (ctX9_in e9) dX9_put_40 g_866 (Nat.le_of_ble_eq_true rfl) (Nat.le_of_ble_eq_true rfl) ?_
      refine r_if_ne X 53 dX9_put_43 (by decide) (fun c21 => ?_) (fun c21 => ?_)
      · rw [if_neg c21] at h
        refine r_aload_n X dX9_put_53 0 rfl rfl ?_
        refine r_getr X dX9_put_54 i_X9 v_X9 lM_0 19 rfl (Nat.le_of_ble_eq_true rfl) g_793 ?_
        refine r_bipush X dX9_put_57 (v := 40) (by decide) ?_
        refine r_iload_n X dX9_put_59 1 rfl rfl ?_
        refine r_imul X dX9_put_60 ?_
        refine r_iload_n X dX9_put_61 2 rfl rfl ?_
        refine r_iadd X dX9_put_62 ?_
        refine r_aload_n X dX9_put_63 0 rfl rfl ?_
        refine r_getr X dX9_put_64 i_X9 v_X9 lM_0 17 rfl (Nat.le_of_ble_eq_true rfl) g_791 ?_
        refine r_iload_n X dX9_put_67 1 rfl rfl ?_
        obtain ⟨g11, v12, ev12, h⟩ := ld_ok h
        refine s_iald X dX9_put_68 lM_7 g11 ev12 ?_
        refine r_iload_n X dX9_put_69 3 rfl rfl ?_
        obtain ⟨u15, s13, e14, h⟩ := bd2_ok h
        refine kX9_narrow X (ctX9_narrow e14) dX9_put_70 g_1197 (Nat.le_of_ble_eq_true rfl) (Nat.le_of_ble_eq_true rfl) ?_
        obtain ⟨g16, s17, es17, h⟩ := as_ok h
        refine s_iast X dX9_put_73 lM_9 g16 es17 ?_
        refine r_iconst X dX9_put_74 (v := 1) (by decide) ?_
        exact s_iret X hlk hr dX9_put_75 h
      · rw [if_pos c21] at h
        refine r_aload_n X dX9_put_46 0 rfl rfl ?_
        refine r_ldc X dX9_put_47 g_873 ?_
        obtain ⟨u20, s18, e19, h⟩ := bd2_ok h
        refine kX9_errs X (ctX9_errs e19) dX9_put_49 lM_0 g_874 (Nat.le_of_ble_eq_true rfl) (Nat.le_of_ble_eq_true rfl) ?_
        exact s_iret X hlk hr dX9_put_52 h
    · rw [if_pos c25] at h
      refine r_aload_n X dX9_put_23 0 rfl rfl ?_
      refine r_ldc X dX9_put_24 g_1077 ?_
      obtain ⟨u24, s22, e23, h⟩ := bd2_ok h
      refine kX9_errs X (ctX9_errs e23) dX9_put_26 lM_0 g_874 (Nat.le_of_ble_eq_true rfl) (Nat.le_of_ble_eq_true rfl) ?_
      exact s_iret X hlk hr dX9_put_29 h
  · rw [if_pos c29] at h
    refine r_aload_n X dX9_put_7 0 rfl rfl ?_
    refine r_ldc X dX9_put_8 g_873 ?_
    obtain ⟨u28, s26, e27, h⟩ := bd2_ok h
    refine kX9_errs X (ctX9_errs e27) dX9_put_10 lM_0 g_874 (Nat.le_of_ble_eq_true rfl) (Nat.le_of_ble_eq_true rfl) ?_
    exact s_iret X hlk hr dX9_put_13 h
/-! X9_move -/
theorem nX9_move : yX9_move.cls ≠ "java/lang/invoke/MethodHandle" ∧ yX9_move.cls ≠ "java/lang/invoke/VarHandle" ∧ (parseMethodDescriptor yX9_move.desc).map (fun d => d.parameters.length) = some 5 := by decide +kernel
theorem kX9_move {l : Launch} {E : EE} {p : Program} {e : Env} {ms : State} {m : MethodId} {args : Array Value} {below : List Frame} {meth : Method} {c : Code} {cc : ByteArray} {own : String} {nL pc idx d D : Nat} {Q : State → Prop} {L : List (Nat × Value)} {rest : List Value} {σ τ : St} {a1 : Int32} {a2 : Int32} {a3 : Int32} {a4 : Int32} {a5 : Int32} {r : Int32} {fl : List (Option Nat)} (X : Cx E layM p ms m args c cc own nL) (hM : Ct l E layM yX9_move cX9_move 7 (some .int) d [.ref (ea E 0), .int a1, .int a2, .int a3, .int a4, .int a5] σ (some (.int r)) τ) (hd : decode cc pc = .ok (.invokevirtual idx, 3)) (hlay : layM[0]? = some (.inl (8, fl))) (w1 : Cond.methodLink own idx yX9_move ∈ gw) (hR : d + 1 ≤ D) (hrs : (rest.map fun v => v.category).sum ≤ 8) (k : AW E layM p l e (rmD D) ms m args below meth c nL 0 0 Q (pc + 3) L (.int r :: rest) τ) : AW E layM p l e (rmD D) ms m args below meth c nL 0 0 Q pc L (.int a5 :: .int a4 :: .int a3 :: .int a2 :: .int a1 :: .ref (ea E 0) :: rest) σ :=
  s_callV X [.int a1, .int a2, .int a3, .int a4, .int a5] rest hM hd v_X9 hlay w1 g_1201 g_1202 g_77 g_1203 nX9_move rfl rfl hrs (Nat.le_of_ble_eq_true rfl) hR k
def fX9_move_119 (a1 : Int32) (a2 : Int32) (a3 : Int32) (a4 : Int32) (a5 : Int32) : Nat → Int32 → St → Option (St)
  | 0, _, _ => none
  | n + 1, a6, s0 =>
    if a5 ≤ a6 then
    some s0
    else
    bd1 (ald s0 9 160 (((40 * a1) + a2) + a6)) fun v30 =>
    bd1 (ast s0 10 40 a6 v30) fun s32 =>
    fX9_move_119 a1 a2 a3 a4 a5 n (a6 + 1) s32
def fX9_move_156 (a3 : Int32) (a4 : Int32) (a5 : Int32) : Nat → Int32 → St → Option (St)
  | 0, _, _ => none
  | n + 1, a6, s0 =>
    if a5 ≤ a6 then
    some s0
    else
    bd1 (ald s0 10 40 a6) fun v36 =>
    bd1 (ast s0 9 160 (((40 * a3) + a4) + a6) v36) fun s38 =>
    fX9_move_156 a3 a4 a5 n (a6 + 1) s38
def fX9_move (a1 : Int32) (a2 : Int32) (a3 : Int32) (a4 : Int32) (a5 : Int32) (s0 : St) : Option (Int32 × St) :=
    bd2 (fX9_isSheet a1 s0) fun u3 s1 =>
    jn (fun (s4 : St) =>
    bd2 (fX9_errs (-1000000001) s4) fun u7 s5 =>
    some (u7, s5)) fun j14 =>
    if u3 = 0 then
    j14 s1
    else
    bd2 (fX9_isSheet a3 s1) fun u10 s8 =>
    if u10 = 0 then
    j14 s8
    else
    bd1 (ald s8 7 4 a1) fun v12 =>
    jn (fun (_ : Unit) =>
    bd2 (fX9_errs (-1000000002) s8) fun u15 s13 =>
    some (u15, s13)) fun j39 =>
    if v12 = 0 then
    j39 ()
    else
    bd1 (ald s8 7 4 a3) fun v17 =>
    if v17 = 0 then
    j39 ()
    else
    bd1 (ald s8 7 4 a1) fun v19 =>
    bd1 (ald s8 7 4 a3) fun v21 =>
    if v19 = v21 then
    jn (fun (_ : Unit) =>
    bd2 (fX9_errs (-1000000001) s8) fun u24 s22 =>
    some (u24, s22)) fun j109 =>
    if a5 < 0 then
    j109 ()
    else
    if a2 < 0 then
    j109 ()
    else
    if a4 < 0 then
    j109 ()
    else
    bd1 (ald s8 8 4 a1) fun v26 =>
    if (v26 - a5) < a2 then
    j109 ()
    else
    bd1 (ald s8 8 4 a3) fun v28 =>
    if a4 ≤ (v28 - a5) then
    bd1 (fX9_move_119 a1 a2 a3 a4 a5 FU 0 s8) fun s34 =>
    bd1 (fX9_move_156 a3 a4 a5 FU 0 s34) fun s40 =>
    some (a5, s40)
    else
    j109 ()
    else
    bd2 (fX9_errs (-1000000005) s8) fun u48 s46 =>
    some (u48, s46)
set_option maxHeartbeats 4000000 in
set_option maxRecDepth 100000 in
theorem LX9_move_119 {l : Launch} {E : EE} {p : Program} {e : Env} {ms : State} {m : MethodId} {args : Array Value} {below : List Frame} {meth : Method} {c : Code} {a1 : Int32} {a2 : Int32} {a3 : Int32} {a4 : Int32} {a5 : Int32} {Q : State → Prop} (X : Cx E layM p ms m args c cX9_move RX9 7) : ∀ (n : Nat) (a6 : Int32) (s0 : St)  (t8 : St), fX9_move_119 a1 a2 a3 a4 a5 n a6 s0 = some t8 → AW E layM p l e (rmD 2) ms m args below meth c 7 0 0 Q 153 [(0, .ref (ea E 0)), (3, .int a3), (4, .int a4), (5, .int a5)] [] t8 → AW E layM p l e (rmD 2) ms m args below meth c 7 0 0 Q 119 [(0, .ref (ea E 0)), (1, .int a1), (2, .int a2), (3, .int a3), (4, .int a4), (5, .int a5), (6, .int a6)] [] s0 := by
  intro n
  induction n with
  | zero =>
    intro a6 s0 t8 h hE
    cases h
  | succ n ih =>
    intro a6 s0 t8 h hE
    rw [fX9_move_119] at h
    refine r_iload X dX9_move_119 6 rfl ?_
    refine r_iload X dX9_move_121 5 rfl ?_
    refine r_icmp_ge X 153 dX9_move_123 (by decide) (fun c33 => ?_) (fun c33 => ?_)
    · rw [if_pos c33] at h
      refine r_sub (L' := [(0, .ref (ea E 0)), (3, .int a3), (4, .int a4), (5, .int a5)]) [0, 3, 4, 5] rfl ?_
      cases h
      exact hE
    · rw [if_neg c33] at h
      refine r_aload_n X dX9_move_126 0 rfl rfl ?_
      refine r_getr X dX9_move_127 i_X9 v_X9 lM_0 20 rfl (Nat.le_of_ble_eq_true rfl) g_794 ?_
      refine r_iload X dX9_move_130 6 rfl ?_
      refine r_aload_n X dX9_move_132 0 rfl rfl ?_
      refine r_getr X dX9_move_133 i_X9 v_X9 lM_0 19 rfl (Nat.le_of_ble_eq_true rfl) g_793 ?_
      refine r_bipush X dX9_move_136 (v := 40) (by decide) ?_
      refine r_iload_n X dX9_move_138 1 rfl rfl ?_
      refine r_imul X dX9_move_139 ?_
      refine r_iload_n X dX9_move_140 2 rfl rfl ?_
      refine r_iadd X dX9_move_141 ?_
      refine r_iload X dX9_move_142 6 rfl ?_
      refine r_iadd X dX9_move_144 ?_
      obtain ⟨g29, v30, ev30, h⟩ := ld_ok h
      refine s_iald X dX9_move_145 lM_9 g29 ev30 ?_
      obtain ⟨g31, s32, es32, h⟩ := as_ok h
      refine s_iast X dX9_move_146 lM_10 g31 es32 ?_
      refine r_iinc (L' := [(0, .ref (ea E 0)), (1, .int a1), (2, .int a2), (3, .int a3), (4, .int a4), (5, .int a5), (6, .int (a6 + 1))]) (v := a6 + 1) X dX9_move_147 6 rfl rfl [1, 2, 3, 4, 5, 6, 0] rfl (Nat.le_of_ble_eq_true rfl) ?_
      refine r_goto X 119 dX9_move_150 (by decide) ?_
      exact ih _ _ _ h hE
set_option maxHeartbeats 4000000 in
set_option maxRecDepth 100000 in
theorem LX9_move_156 {l : Launch} {E : EE} {p : Program} {e : Env} {ms : State} {m : MethodId} {args : Array Value} {below : List Frame} {meth : Method} {c : Code} {a3 : Int32} {a4 : Int32} {a5 : Int32} {Q : State → Prop} (X : Cx E layM p ms m args c cX9_move RX9 7) : ∀ (n : Nat) (a6 : Int32) (s0 : St)  (t8 : St), fX9_move_156 a3 a4 a5 n a6 s0 = some t8 → AW E layM p l e (rmD 2) ms m args below meth c 7 0 0 Q 191 [(5, .int a5)] [] t8 → AW E layM p l e (rmD 2) ms m args below meth c 7 0 0 Q 156 [(0, .ref (ea E 0)), (3, .int a3), (4, .int a4), (5, .int a5), (6, .int a6)] [] s0 := by
  intro n
  induction n with
  | zero =>
    intro a6 s0 t8 h hE
    cases h
  | succ n ih =>
    intro a6 s0 t8 h hE
    rw [fX9_move_156] at h
    refine r_iload X dX9_move_156 4 rfl ?_
    refine r_iload X dX9_move_158 3 rfl ?_
    refine r_icmp_ge X 191 dX9_move_160 (by decide) (fun c39 => ?_) (fun c39 => ?_)
    · rw [if_pos c39] at h
      refine r_sub (L' := [(5, .int a5)]) [3] rfl ?_
      cases h
      exact hE
    · rw [if_neg c39] at h
      refine r_aload_n X dX9_move_163 0 rfl rfl ?_
      refine r_getr X dX9_move_164 i_X9 v_X9 lM_0 19 rfl (Nat.le_of_ble_eq_true rfl) g_793 ?_
      refine r_bipush X dX9_move_167 (v := 40) (by decide) ?_
      refine r_iload_n X dX9_move_169 1 rfl rfl ?_
      refine r_imul X dX9_move_170 ?_
      refine r_iload X dX9_move_171 2 rfl ?_
      refine r_iadd X dX9_move_173 ?_
      refine r_iload X dX9_move_174 4 rfl ?_
      refine r_iadd X dX9_move_176 ?_
      refine r_aload_n X dX9_move_177 0 rfl rfl ?_
      refine r_getr X dX9_move_178 i_X9 v_X9 lM_0 20 rfl (Nat.le_of_ble_eq_true rfl) g_794 ?_
      refine r_iload X dX9_move_181 4 rfl ?_
      obtain ⟨g35, v36, ev36, h⟩ := ld_ok h
      refine s_iald X dX9_move_183 lM_10 g35 ev36 ?_
      obtain ⟨g37, s38, es38, h⟩ := as_ok h
      refine s_iast X dX9_move_184 lM_9 g37 es38 ?_
      refine r_iinc (L' := [(0, .ref (ea E 0)), (3, .int a3), (4, .int a4), (5, .int a5), (6, .int (a6 + 1))]) (v := a6 + 1) X dX9_move_185 4 rfl rfl [1, 2, 3, 4, 0] rfl (Nat.le_of_ble_eq_true rfl) ?_
      refine r_goto X 156 dX9_move_188 (by decide) ?_
      exact ih _ _ _ h hE
set_option maxHeartbeats 4000000 in
set_option maxRecDepth 100000 in
theorem ctX9_move {l : Launch} {E : EE} {a1 : Int32} {a2 : Int32} {a3 : Int32} {a4 : Int32} {a5 : Int32} {s0 : St} {r9 : Int32} {t9 : St}  (h : fX9_move a1 a2 a3 a4 a5 s0 = some (r9, t9)) : Ct l E layM yX9_move cX9_move 7 (some .int) 2 [.ref (ea E 0), .int a1, .int a2, .int a3, .int a4, .int a5] s0 (some (.int r9)) t9 := by
  refine Ct.of (by decide) (Nat.le_of_ble_eq_true rfl) ?_
  intro p e ms m below meth c X hlk hr
  have X : Cx E layM p ms m [.ref (ea E 0), .int a1, .int a2, .int a3, .int a4, .int a5].toArray c cX9_move RX9 7 := X
  refine r_sub (L' := [(0, .ref (ea E 0)), (1, .int a1), (2, .int a2), (3, .int a3), (4, .int a4), (5, .int a5)]) [0, 1, 2, 3, 4, 5] rfl ?_
  unfold fX9_move at h
  refine r_iload_n X dX9_move_0 1 rfl rfl ?_
  obtain ⟨u3, s1, e2, h⟩ := bd2_ok h
  refine kX9_isSheet X (ctX9_isSheet e2) dX9_move_1 g_1110 (Nat.le_of_ble_eq_true rfl) (Nat.le_of_ble_eq_true rfl) ?_
  obtain ⟨j14, ej14, h⟩ := jn1_ok h
  have hj14 : ∀ (s4 : St), j14 s4 = some (r9, t9) → AW E layM p l e (rmD 2) ms m [.ref (ea E 0), .int a1, .int a2, .int a3, .int a4, .int a5].toArray below meth c 7 0 0 (MQc E layM below [.ref (ea E 0), .int a1, .int a2, .int a3, .int a4, .int a5].toArray ms (some (.int r9)) t9) 14 [(0, .ref (ea E 0))] [] s4 := by
    intro s4 h
    rw [ej14] at h
    refine r_aload_n X dX9_move_14 0 rfl rfl ?_
    refine r_ldc X dX9_move_15 g_873 ?_
    obtain ⟨u7, s5, e6, h⟩ := bd2_ok h
    refine kX9_errs X (ctX9_errs e6) dX9_move_17 lM_0 g_874 (Nat.le_of_ble_eq_true rfl) (Nat.le_of_ble_eq_true rfl) ?_
    exact s_iret X hlk hr dX9_move_20 h
  refine r_if_eq X 14 dX9_move_4 (by decide) (fun c53 => ?_) (fun c53 => ?_)
  · rw [if_pos c53] at h
    refine r_sub (L' := [(0, .ref (ea E 0))]) [0] rfl ?_
    exact hj14 _ h
  · rw [if_neg c53] at h
    refine r_iload_n X dX9_move_7 3 rfl rfl ?_
    obtain ⟨u10, s8, e9, h⟩ := bd2_ok h
    refine kX9_isSheet X (ctX9_isSheet e9) dX9_move_8 g_1110 (Nat.le_of_ble_eq_true rfl) (Nat.le_of_ble_eq_true rfl) ?_
    refine r_if_ne X 21 dX9_move_11 (by decide) (fun c52 => ?_) (fun c52 => ?_)
    · rw [if_neg c52] at h
      refine r_aload_n X dX9_move_21 0 rfl rfl ?_
      refine r_getr X dX9_move_22 i_X9 v_X9 lM_0 17 rfl (Nat.le_of_ble_eq_true rfl) g_791 ?_
      refine r_iload_n X dX9_move_25 1 rfl rfl ?_
      obtain ⟨g11, v12, ev12, h⟩ := ld_ok h
      refine s_iald X dX9_move_26 lM_7 g11 ev12 ?_
      obtain ⟨j39, ej39, h⟩ := jn1_ok h
      have hj39 : ∀ (u : Unit), j39 u = some (r9, t9) → AW E layM p l e (rmD 2) ms m [.ref (ea E 0), .int a1, .int a2, .int a3, .int a4, .int a5].toArray below meth c 7 0 0 (MQc E layM below [.ref (ea E 0), .int a1, .int a2, .int a3, .int a4, .int a5].toArray ms (some (.int r9)) t9) 39 [(0, .ref (ea E 0))] [] s8 := by
        intro u h
        rw [ej39] at h
        refine r_aload_n X dX9_move_39 0 rfl rfl ?_
        refine r_ldc X dX9_move_40 g_1077 ?_
        obtain ⟨u15, s13, e14, h⟩ := bd2_ok h
        refine kX9_errs X (ctX9_errs e14) dX9_move_42 lM_0 g_874 (Nat.le_of_ble_eq_true rfl) (Nat.le_of_ble_eq_true rfl) ?_
        exact s_iret X hlk hr dX9_move_45 h
      refine r_if_eq X 39 dX9_move_27 (by decide) (fun c51 => ?_) (fun c51 => ?_)
      · rw [if_pos c51] at h
        refine r_sub (L' := [(0, .ref (ea E 0))]) [0] rfl ?_
        exact hj39 _ h
      · rw [if_neg c51] at h
        refine r_aload_n X dX9_move_30 0 rfl rfl ?_
        refine r_getr X dX9_move_31 i_X9 v_X9 lM_0 17 rfl (Nat.le_of_ble_eq_true rfl) g_791 ?_
        refine r_iload_n X dX9_move_34 3 rfl rfl ?_
        obtain ⟨g16, v17, ev17, h⟩ := ld_ok h
        refine s_iald X dX9_move_35 lM_7 g16 ev17 ?_
        refine r_if_ne X 46 dX9_move_36 (by decide) (fun c50 => ?_) (fun c50 => ?_)
        · rw [if_neg c50] at h
          refine r_aload_n X dX9_move_46 0 rfl rfl ?_
          refine r_getr X dX9_move_47 i_X9 v_X9 lM_0 17 rfl (Nat.le_of_ble_eq_true rfl) g_791 ?_
          refine r_iload_n X dX9_move_50 1 rfl rfl ?_
          obtain ⟨g18, v19, ev19, h⟩ := ld_ok h
          refine s_iald X dX9_move_51 lM_7 g18 ev19 ?_
          refine r_aload_n X dX9_move_52 0 rfl rfl ?_
          refine r_getr X dX9_move_53 i_X9 v_X9 lM_0 17 rfl (Nat.le_of_ble_eq_true rfl) g_791 ?_
          refine r_iload_n X dX9_move_56 3 rfl rfl ?_
          obtain ⟨g20, v21, ev21, h⟩ := ld_ok h
          refine s_iald X dX9_move_57 lM_7 g20 ev21 ?_
          refine r_icmp_eq X 68 dX9_move_58 (by decide) (fun c49 => ?_) (fun c49 => ?_)
          · rw [if_pos c49] at h
            refine r_iload X dX9_move_68 5 rfl ?_
            obtain ⟨j109, ej109, h⟩ := jn1_ok h
            have hj109 : ∀ (u : Unit), j109 u = some (r9, t9) → AW E layM p l e (rmD 2) ms m [.ref (ea E 0), .int a1, .int a2, .int a3, .int a4, .int a5].toArray below meth c 7 0 0 (MQc E layM below [.ref (ea E 0), .int a1, .int a2, .int a3, .int a4, .int a5].toArray ms (some (.int r9)) t9) 109 [(0, .ref (ea E 0))] [] s8 := by
              intro u h
              rw [ej109] at h
              refine r_aload_n X dX9_move_109 0 rfl rfl ?_
              refine r_ldc X dX9_move_110 g_873 ?_
              obtain ⟨u24, s22, e23, h⟩ := bd2_ok h
              refine kX9_errs X (ctX9_errs e23) dX9_move_112 lM_0 g_874 (Nat.le_of_ble_eq_true rfl) (Nat.le_of_ble_eq_true rfl) ?_
              exact s_iret X hlk hr dX9_move_115 h
            refine r_if_lt X 109 dX9_move_70 (by decide) (fun c45 => ?_) (fun c45 => ?_)
            · rw [if_pos c45] at h
              refine r_sub (L' := [(0, .ref (ea E 0))]) [0] rfl ?_
              exact hj109 _ h
            · rw [if_neg c45] at h
              refine r_iload_n X dX9_move_73 2 rfl rfl ?_
              refine r_if_lt X 109 dX9_move_74 (by decide) (fun c44 => ?_) (fun c44 => ?_)
              · rw [if_pos c44] at h
                refine r_sub (L' := [(0, .ref (ea E 0))]) [0] rfl ?_
                exact hj109 _ h
              · rw [if_neg c44] at h
                refine r_iload X dX9_move_77 4 rfl ?_
                refine r_if_lt X 109 dX9_move_79 (by decide) (fun c43 => ?_) (fun c43 => ?_)
                · rw [if_pos c43] at h
                  refine r_sub (L' := [(0, .ref (ea E 0))]) [0] rfl ?_
                  exact hj109 _ h
                · rw [if_neg c43] at h
                  refine r_iload_n X dX9_move_82 2 rfl rfl ?_
                  refine r_aload_n X dX9_move_83 0 rfl rfl ?_
                  refine r_getr X dX9_move_84 i_X9 v_X9 lM_0 18 rfl (Nat.le_of_ble_eq_true rfl) g_792 ?_
                  refine r_iload_n X dX9_move_87 1 rfl rfl ?_
                  obtain ⟨g25, v26, ev26, h⟩ := ld_ok h
                  refine s_iald X dX9_move_88 lM_8 g25 ev26 ?_
                  refine r_iload X dX9_move_89 5 rfl ?_
                  refine r_isub X dX9_move_91 ?_
                  refine r_icmp_gt X 109 dX9_move_92 (by decide) (fun c42 => ?_) (fun c42 => ?_)
                  · rw [if_pos c42] at h
                    refine r_sub (L' := [(0, .ref (ea E 0))]) [0] rfl ?_
                    exact hj109 _ h
                  · rw [if_neg c42] at h
                    refine r_iload X dX9_move_95 4 rfl ?_
                    refine r_aload_n X dX9_move_97 0 rfl rfl ?_
                    refine r_getr X dX9_move_98 i_X9 v_X9 lM_0 18 rfl (Nat.le_of_ble_eq_true rfl) g_792 ?_
                    refine r_iload_n X dX9_move_101 3 rfl rfl ?_
                    obtain ⟨g27, v28, ev28, h⟩ := ld_ok h
                    refine s_iald X dX9_move_102 lM_8 g27 ev28 ?_
                    refine r_iload X dX9_move_103 5 rfl ?_
                    refine r_isub X dX9_move_105 ?_
                    refine r_icmp_le X 116 dX9_move_106 (by decide) (fun c41 => ?_) (fun c41 => ?_)
                    · rw [if_pos c41] at h
                      refine r_iconst X dX9_move_116 (v := 0) (by decide) ?_
                      refine r_istore (L' := [(0, .ref (ea E 0)), (1, .int a1), (2, .int a2), (3, .int a3), (4, .int a4), (5, .int a5), (6, .int 0)]) X dX9_move_117 [1, 2, 3, 4, 5, 6, 0] rfl (Nat.le_of_ble_eq_true rfl) ?_
                      obtain ⟨s34, eo, h⟩ := bd1_ok h
                      refine LX9_move_119 X FU _ _ _ eo ?_
                      refine r_iconst X dX9_move_153 (v := 0) (by decide) ?_
                      refine r_istore (L' := [(0, .ref (ea E 0)), (3, .int a3), (4, .int a4), (5, .int a5), (6, .int 0)]) X dX9_move_154 [1, 2, 3, 4, 0] rfl (Nat.le_of_ble_eq_true rfl) ?_
                      obtain ⟨s40, eo, h⟩ := bd1_ok h
                      refine LX9_move_156 X FU _ _ _ eo ?_
                      refine r_iload X dX9_move_191 0 rfl ?_
                      exact s_iret X hlk hr dX9_move_193 h
                    · rw [if_neg c41] at h
                      refine r_sub (L' := [(0, .ref (ea E 0))]) [0] rfl ?_
                      exact hj109 _ h
          · rw [if_neg c49] at h
            refine r_aload_n X dX9_move_61 0 rfl rfl ?_
            refine r_ldc X dX9_move_62 g_1013 ?_
            obtain ⟨u48, s46, e47, h⟩ := bd2_ok h
            refine kX9_errs X (ctX9_errs e47) dX9_move_64 lM_0 g_874 (Nat.le_of_ble_eq_true rfl) (Nat.le_of_ble_eq_true rfl) ?_
            exact s_iret X hlk hr dX9_move_67 h
        · rw [if_pos c50] at h
          refine r_sub (L' := [(0, .ref (ea E 0))]) [0] rfl ?_
          exact hj39 _ h
    · rw [if_pos c52] at h
      refine r_sub (L' := [(0, .ref (ea E 0))]) [0] rfl ?_
      exact hj14 _ h
/-! X9_menus -/
theorem nX9_menus : yX9_menus.cls ≠ "java/lang/invoke/MethodHandle" ∧ yX9_menus.cls ≠ "java/lang/invoke/VarHandle" ∧ (parseMethodDescriptor yX9_menus.desc).map (fun d => d.parameters.length) = some 1 := by decide +kernel
theorem kX9_menus {l : Launch} {E : EE} {p : Program} {e : Env} {ms : State} {m : MethodId} {args : Array Value} {below : List Frame} {meth : Method} {c : Code} {cc : ByteArray} {own : String} {nL pc idx d D : Nat} {Q : State → Prop} {L : List (Nat × Value)} {rest : List Value} {σ τ : St} {a1 : Int32} {r : Int32} {fl : List (Option Nat)} (X : Cx E layM p ms m args c cc own nL) (hM : Ct l E layM yX9_menus cX9_menus 3 (some .int) d [.ref (ea E 0), .int a1] σ (some (.int r)) τ) (hd : decode cc pc = .ok (.invokevirtual idx, 3)) (hlay : layM[0]? = some (.inl (8, fl))) (w1 : Cond.methodLink own idx yX9_menus ∈ gw) (hR : d + 1 ≤ D) (hrs : (rest.map fun v => v.category).sum ≤ 8) (k : AW E layM p l e (rmD D) ms m args below meth c nL 0 0 Q (pc + 3) L (.int r :: rest) τ) : AW E layM p l e (rmD D) ms m args below meth c nL 0 0 Q pc L (.int a1 :: .ref (ea E 0) :: rest) σ :=
  s_callV X [.int a1] rest hM hd v_X9 hlay w1 g_1205 g_1206 g_77 g_1207 nX9_menus rfl rfl hrs (Nat.le_of_ble_eq_true rfl) hR k
def fX9_menus_32 (a1 : Int32) : Nat → Int32 → St → Option (Int32 × St)
  | 0, _, _ => none
  | n + 1, a2, s0 =>
    bd1 (ald s0 8 4 a1) fun v7 =>
    if v7 ≤ a2 then
    some (a2, s0)
    else
    bd2 (fX9_isCourse a2 s0) fun u10 s8 =>
    if u10 = 0 then
    some (a2, s8)
    else
    bd1 (ald s8 9 160 ((40 * a1) + a2)) fun v12 =>
    bd2 (fX9_isDish v12 s8) fun u15 s13 =>
    if u15 = 0 then
    some (a2, s13)
    else
    bd1 (ald s13 9 160 ((40 * a1) + a2)) fun v17 =>
    bd1 (ast s13 1 257 (41 + a2) v17) fun s19 =>
    fX9_menus_32 a1 n (a2 + 1) s19
def fX9_menus (a1 : Int32) (s0 : St) : Option (Int32 × St) :=
    bd2 (fX9_isSheet a1 s0) fun u3 s1 =>
    if u3 = 0 then
    bd2 (fX9_errs (-1000000001) s1) fun u31 s29 =>
    some (u31, s29)
    else
    bd1 (ald s1 7 4 a1) fun v5 =>
    if v5 = 0 then
    bd2 (fX9_errs (-1000000002) s1) fun u27 s25 =>
    some (u27, s25)
    else
    bd2 (fX9_menus_32 a1 FU 0 s1) fun v24 s23 =>
    some (v24, s23)
set_option maxHeartbeats 4000000 in
set_option maxRecDepth 100000 in
theorem LX9_menus_32 {l : Launch} {E : EE} {p : Program} {e : Env} {ms : State} {m : MethodId} {args : Array Value} {below : List Frame} {meth : Method} {c : Code} {a1 : Int32} {Q : State → Prop} (X : Cx E layM p ms m args c cX9_menus RX9 3) : ∀ (n : Nat) (a2 : Int32) (s0 : St) (q2 : Int32) (t8 : St), fX9_menus_32 a1 n a2 s0 = some (q2, t8) → AW E layM p l e (rmD 2) ms m args below meth c 3 0 0 Q 92 [(2, .int q2)] [] t8 → AW E layM p l e (rmD 2) ms m args below meth c 3 0 0 Q 32 [(0, .ref (ea E 0)), (1, .int a1), (2, .int a2)] [] s0 := by
  intro n
  induction n with
  | zero =>
    intro a2 s0 q2 t8 h hE
    cases h
  | succ n ih =>
    intro a2 s0 q2 t8 h hE
    rw [fX9_menus_32] at h
    refine r_iload_n X dX9_menus_32 2 rfl rfl ?_
    refine r_aload_n X dX9_menus_33 0 rfl rfl ?_
    refine r_getr X dX9_menus_34 i_X9 v_X9 lM_0 18 rfl (Nat.le_of_ble_eq_true rfl) g_792 ?_
    refine r_iload_n X dX9_menus_37 1 rfl rfl ?_
    obtain ⟨g6, v7, ev7, h⟩ := ld_ok h
    refine s_iald X dX9_menus_38 lM_8 g6 ev7 ?_
    refine r_icmp_ge X 92 dX9_menus_39 (by decide) (fun c22 => ?_) (fun c22 => ?_)
    · rw [if_pos c22] at h
      refine r_sub (L' := [(2, .int a2)]) [2] rfl ?_
      cases h
      exact hE
    · rw [if_neg c22] at h
      refine r_iload_n X dX9_menus_42 2 rfl rfl ?_
      obtain ⟨u10, s8, e9, h⟩ := bd2_ok h
      refine kX9_isCourse X (ctX9_isCourse e9) dX9_menus_43 g_891 (Nat.le_of_ble_eq_true rfl) (Nat.le_of_ble_eq_true rfl) ?_
      refine r_if_eq X 92 dX9_menus_46 (by decide) (fun c21 => ?_) (fun c21 => ?_)
      · rw [if_pos c21] at h
        refine r_sub (L' := [(2, .int a2)]) [2] rfl ?_
        cases h
        exact hE
      · rw [if_neg c21] at h
        refine r_aload_n X dX9_menus_49 0 rfl rfl ?_
        refine r_getr X dX9_menus_50 i_X9 v_X9 lM_0 19 rfl (Nat.le_of_ble_eq_true rfl) g_793 ?_
        refine r_bipush X dX9_menus_53 (v := 40) (by decide) ?_
        refine r_iload_n X dX9_menus_55 1 rfl rfl ?_
        refine r_imul X dX9_menus_56 ?_
        refine r_iload_n X dX9_menus_57 2 rfl rfl ?_
        refine r_iadd X dX9_menus_58 ?_
        obtain ⟨g11, v12, ev12, h⟩ := ld_ok h
        refine s_iald X dX9_menus_59 lM_9 g11 ev12 ?_
        obtain ⟨u15, s13, e14, h⟩ := bd2_ok h
        refine kX9_isDish X (ctX9_isDish e14) dX9_menus_60 g_863 (Nat.le_of_ble_eq_true rfl) (Nat.le_of_ble_eq_true rfl) ?_
        refine r_if_eq X 92 dX9_menus_63 (by decide) (fun c20 => ?_) (fun c20 => ?_)
        · rw [if_pos c20] at h
          refine r_sub (L' := [(2, .int a2)]) [2] rfl ?_
          cases h
          exact hE
        · rw [if_neg c20] at h
          refine r_aload_n X dX9_menus_66 0 rfl rfl ?_
          refine r_getr X dX9_menus_67 i_X9 v_X9 lM_0 0 rfl (Nat.le_of_ble_eq_true rfl) g_774 ?_
          refine r_bipush X dX9_menus_70 (v := 41) (by decide) ?_
          refine r_iload_n X dX9_menus_72 2 rfl rfl ?_
          refine r_iadd X dX9_menus_73 ?_
          refine r_aload_n X dX9_menus_74 0 rfl rfl ?_
          refine r_getr X dX9_menus_75 i_X9 v_X9 lM_0 19 rfl (Nat.le_of_ble_eq_true rfl) g_793 ?_
          refine r_bipush X dX9_menus_78 (v := 40) (by decide) ?_
          refine r_iload_n X dX9_menus_80 1 rfl rfl ?_
          refine r_imul X dX9_menus_81 ?_
          refine r_iload_n X dX9_menus_82 2 rfl rfl ?_
          refine r_iadd X dX9_menus_83 ?_
          obtain ⟨g16, v17, ev17, h⟩ := ld_ok h
          refine s_iald X dX9_menus_84 lM_9 g16 ev17 ?_
          obtain ⟨g18, s19, es19, h⟩ := as_ok h
          refine s_iast X dX9_menus_85 lM_1 g18 es19 ?_
          refine r_iinc (L' := [(0, .ref (ea E 0)), (1, .int a1), (2, .int (a2 + 1))]) (v := a2 + 1) X dX9_menus_86 2 rfl rfl [1, 2, 0] rfl (Nat.le_of_ble_eq_true rfl) ?_
          refine r_goto X 32 dX9_menus_89 (by decide) ?_
          exact ih _ _ _ _ h hE
set_option maxHeartbeats 4000000 in
set_option maxRecDepth 100000 in
theorem ctX9_menus {l : Launch} {E : EE} {a1 : Int32} {s0 : St} {r9 : Int32} {t9 : St}  (h : fX9_menus a1 s0 = some (r9, t9)) : Ct l E layM yX9_menus cX9_menus 3 (some .int) 2 [.ref (ea E 0), .int a1] s0 (some (.int r9)) t9 := by
  refine Ct.of (by decide) (Nat.le_of_ble_eq_true rfl) ?_
  intro p e ms m below meth c X hlk hr
  have X : Cx E layM p ms m [.ref (ea E 0), .int a1].toArray c cX9_menus RX9 3 := X
  refine r_sub (L' := [(0, .ref (ea E 0)), (1, .int a1)]) [0, 1] rfl ?_
  unfold fX9_menus at h
  refine r_iload_n X dX9_menus_0 1 rfl rfl ?_
  obtain ⟨u3, s1, e2, h⟩ := bd2_ok h
  refine kX9_isSheet X (ctX9_isSheet e2) dX9_menus_1 g_1110 (Nat.le_of_ble_eq_true rfl) (Nat.le_of_ble_eq_true rfl) ?_
  refine r_if_ne X 14 dX9_menus_4 (by decide) (fun c32 => ?_) (fun c32 => ?_)
  · rw [if_neg c32] at h
    refine r_aload_n X dX9_menus_14 0 rfl rfl ?_
    refine r_getr X dX9_menus_15 i_X9 v_X9 lM_0 17 rfl (Nat.le_of_ble_eq_true rfl) g_791 ?_
    refine r_iload_n X dX9_menus_18 1 rfl rfl ?_
    obtain ⟨g4, v5, ev5, h⟩ := ld_ok h
    refine s_iald X dX9_menus_19 lM_7 g4 ev5 ?_
    refine r_if_ne X 30 dX9_menus_20 (by decide) (fun c28 => ?_) (fun c28 => ?_)
    · rw [if_neg c28] at h
      refine r_iconst X dX9_menus_30 (v := 0) (by decide) ?_
      refine r_istore_n (L' := [(0, .ref (ea E 0)), (1, .int a1), (2, .int 0)]) X dX9_menus_31 [1, 2, 0] rfl rfl (Nat.le_of_ble_eq_true rfl) ?_
      obtain ⟨v24, s23, eo, h⟩ := bd2_ok h
      refine LX9_menus_32 X FU _ _ _ _ eo ?_
      refine r_iload_n X dX9_menus_92 0 rfl rfl ?_
      exact s_iret X hlk hr dX9_menus_93 h
    · rw [if_pos c28] at h
      refine r_aload_n X dX9_menus_23 0 rfl rfl ?_
      refine r_ldc X dX9_menus_24 g_1077 ?_
      obtain ⟨u27, s25, e26, h⟩ := bd2_ok h
      refine kX9_errs X (ctX9_errs e26) dX9_menus_26 lM_0 g_874 (Nat.le_of_ble_eq_true rfl) (Nat.le_of_ble_eq_true rfl) ?_
      exact s_iret X hlk hr dX9_menus_29 h
  · rw [if_pos c32] at h
    refine r_aload_n X dX9_menus_7 0 rfl rfl ?_
    refine r_ldc X dX9_menus_8 g_873 ?_
    obtain ⟨u31, s29, e30, h⟩ := bd2_ok h
    refine kX9_errs X (ctX9_errs e30) dX9_menus_10 lM_0 g_874 (Nat.le_of_ble_eq_true rfl) (Nat.le_of_ble_eq_true rfl) ?_
    exact s_iret X hlk hr dX9_menus_13 h
/-! X9_judge -/
theorem nX9_judge : yX9_judge.cls ≠ "java/lang/invoke/MethodHandle" ∧ yX9_judge.cls ≠ "java/lang/invoke/VarHandle" ∧ (parseMethodDescriptor yX9_judge.desc).map (fun d => d.parameters.length) = some 1 := by decide +kernel
theorem kX9_judge {l : Launch} {E : EE} {p : Program} {e : Env} {ms : State} {m : MethodId} {args : Array Value} {below : List Frame} {meth : Method} {c : Code} {cc : ByteArray} {own : String} {nL pc idx d D : Nat} {Q : State → Prop} {L : List (Nat × Value)} {rest : List Value} {σ τ : St} {a1 : Int32} {r : Int32} {fl : List (Option Nat)} (X : Cx E layM p ms m args c cc own nL) (hM : Ct l E layM yX9_judge cX9_judge 3 (some .int) d [.ref (ea E 0), .int a1] σ (some (.int r)) τ) (hd : decode cc pc = .ok (.invokevirtual idx, 3)) (hlay : layM[0]? = some (.inl (8, fl))) (w1 : Cond.methodLink own idx yX9_judge ∈ gw) (hR : d + 1 ≤ D) (hrs : (rest.map fun v => v.category).sum ≤ 8) (k : AW E layM p l e (rmD D) ms m args below meth c nL 0 0 Q (pc + 3) L (.int r :: rest) τ) : AW E layM p l e (rmD D) ms m args below meth c nL 0 0 Q pc L (.int a1 :: .ref (ea E 0) :: rest) σ :=
  s_callV X [.int a1] rest hM hd v_X9 hlay w1 g_1209 g_1210 g_77 g_1211 nX9_judge rfl rfl hrs (Nat.le_of_ble_eq_true rfl) hR k
def fX9_judge_32 (a1 : Int32) : Nat → Int32 → St → Option (Int32 × St)
  | 0, _, _ => none
  | n + 1, a2, s0 =>
    bd1 (ald s0 1 257 2) fun v7 =>
    if v7 ≤ a2 then
    some (a2, s0)
    else
    bd1 (ald s0 8 4 a1) fun v9 =>
    if v9 ≤ a2 then
    some (a2, s0)
    else
    bd1 (ald s0 9 160 ((40 * a1) + a2)) fun v11 =>
    bd2 (fX9_its a2 2 s0) fun u14 s12 =>
    if v11 = u14 then
    fX9_judge_32 a1 n (a2 + 1) s12
    else
    some (a2, s12)
def fX9_judge (a1 : Int32) (s0 : St) : Option (Int32 × St) :=
    bd2 (fX9_isSheet a1 s0) fun u3 s1 =>
    if u3 = 0 then
    bd2 (fX9_errs (-1000000001) s1) fun u32 s30 =>
    some (u32, s30)
    else
    bd1 (ald s1 7 4 a1) fun v5 =>
    if v5 = 0 then
    bd2 (fX9_errs (-1000000002) s1) fun u28 s26 =>
    some (u28, s26)
    else
    bd2 (fX9_judge_32 a1 FU 0 s1) fun v19 s18 =>
    bd1 (ald s18 1 257 2) fun v21 =>
    jn (fun (_ : Unit) =>
    some (v19, s18)) fun j102 =>
    if v19 = v21 then
    bd1 (ald s18 8 4 a1) fun v23 =>
    if v19 = v23 then
    some ((-1), s18)
    else
    j102 ()
    else
    j102 ()
set_option maxHeartbeats 4000000 in
set_option maxRecDepth 100000 in
theorem LX9_judge_32 {l : Launch} {E : EE} {p : Program} {e : Env} {ms : State} {m : MethodId} {args : Array Value} {below : List Frame} {meth : Method} {c : Code} {a1 : Int32} {Q : State → Prop} (X : Cx E layM p ms m args c cX9_judge RX9 3) : ∀ (n : Nat) (a2 : Int32) (s0 : St) (q2 : Int32) (t8 : St), fX9_judge_32 a1 n a2 s0 = some (q2, t8) → AW E layM p l e (rmD 2) ms m args below meth c 3 0 0 Q 78 [(0, .ref (ea E 0)), (1, .int a1), (2, .int q2)] [] t8 → AW E layM p l e (rmD 2) ms m args below meth c 3 0 0 Q 32 [(0, .ref (ea E 0)), (1, .int a1), (2, .int a2)] [] s0 := by
  intro n
  induction n with
  | zero =>
    intro a2 s0 q2 t8 h hE
    cases h
  | succ n ih =>
    intro a2 s0 q2 t8 h hE
    rw [fX9_judge_32] at h
    refine r_iload_n X dX9_judge_32 2 rfl rfl ?_
    refine r_aload_n X dX9_judge_33 0 rfl rfl ?_
    refine r_getr X dX9_judge_34 i_X9 v_X9 lM_0 0 rfl (Nat.le_of_ble_eq_true rfl) g_774 ?_
    refine r_iconst X dX9_judge_37 (v := 2) (by decide) ?_
    obtain ⟨g6, v7, ev7, h⟩ := ld_ok h
    refine s_iald X dX9_judge_38 lM_1 g6 ev7 ?_
    refine r_icmp_ge X 78 dX9_judge_39 (by decide) (fun c17 => ?_) (fun c17 => ?_)
    · rw [if_pos c17] at h
      cases h
      exact hE
    · rw [if_neg c17] at h
      refine r_iload_n X dX9_judge_42 2 rfl rfl ?_
      refine r_aload_n X dX9_judge_43 0 rfl rfl ?_
      refine r_getr X dX9_judge_44 i_X9 v_X9 lM_0 18 rfl (Nat.le_of_ble_eq_true rfl) g_792 ?_
      refine r_iload_n X dX9_judge_47 1 rfl rfl ?_
      obtain ⟨g8, v9, ev9, h⟩ := ld_ok h
      refine s_iald X dX9_judge_48 lM_8 g8 ev9 ?_
      refine r_icmp_ge X 78 dX9_judge_49 (by decide) (fun c16 => ?_) (fun c16 => ?_)
      · rw [if_pos c16] at h
        cases h
        exact hE
      · rw [if_neg c16] at h
        refine r_aload_n X dX9_judge_52 0 rfl rfl ?_
        refine r_getr X dX9_judge_53 i_X9 v_X9 lM_0 19 rfl (Nat.le_of_ble_eq_true rfl) g_793 ?_
        refine r_bipush X dX9_judge_56 (v := 40) (by decide) ?_
        refine r_iload_n X dX9_judge_58 1 rfl rfl ?_
        refine r_imul X dX9_judge_59 ?_
        refine r_iload_n X dX9_judge_60 2 rfl rfl ?_
        refine r_iadd X dX9_judge_61 ?_
        obtain ⟨g10, v11, ev11, h⟩ := ld_ok h
        refine s_iald X dX9_judge_62 lM_9 g10 ev11 ?_
        refine r_aload_n X dX9_judge_63 0 rfl rfl ?_
        refine r_iload_n X dX9_judge_64 2 rfl rfl ?_
        refine r_iconst X dX9_judge_65 (v := 2) (by decide) ?_
        obtain ⟨u14, s12, e13, h⟩ := bd2_ok h
        refine kX9_its X (ctX9_its e13) dX9_judge_66 lM_0 g_916 (Nat.le_of_ble_eq_true rfl) (Nat.le_of_ble_eq_true rfl) ?_
        refine r_icmp_ne X 78 dX9_judge_69 (by decide) (fun c15 => ?_) (fun c15 => ?_)
        · rw [if_neg c15] at h
          cases h
          exact hE
        · rw [if_pos c15] at h
          refine r_iinc (L' := [(0, .ref (ea E 0)), (1, .int a1), (2, .int (a2 + 1))]) (v := a2 + 1) X dX9_judge_72 2 rfl rfl [1, 2, 0] rfl (Nat.le_of_ble_eq_true rfl) ?_
          refine r_goto X 32 dX9_judge_75 (by decide) ?_
          exact ih _ _ _ _ h hE
set_option maxHeartbeats 4000000 in
set_option maxRecDepth 100000 in
theorem ctX9_judge {l : Launch} {E : EE} {a1 : Int32} {s0 : St} {r9 : Int32} {t9 : St}  (h : fX9_judge a1 s0 = some (r9, t9)) : Ct l E layM yX9_judge cX9_judge 3 (some .int) 2 [.ref (ea E 0), .int a1] s0 (some (.int r9)) t9 := by
  refine Ct.of (by decide) (Nat.le_of_ble_eq_true rfl) ?_
  intro p e ms m below meth c X hlk hr
  have X : Cx E layM p ms m [.ref (ea E 0), .int a1].toArray c cX9_judge RX9 3 := X
  refine r_sub (L' := [(0, .ref (ea E 0)), (1, .int a1)]) [0, 1] rfl ?_
  unfold fX9_judge at h
  refine r_iload_n X dX9_judge_0 1 rfl rfl ?_
  obtain ⟨u3, s1, e2, h⟩ := bd2_ok h
  refine kX9_isSheet X (ctX9_isSheet e2) dX9_judge_1 g_1110 (Nat.le_of_ble_eq_true rfl) (Nat.le_of_ble_eq_true rfl) ?_
  refine r_if_ne X 14 dX9_judge_4 (by decide) (fun c33 => ?_) (fun c33 => ?_)
  · rw [if_neg c33] at h
    refine r_aload_n X dX9_judge_14 0 rfl rfl ?_
    refine r_getr X dX9_judge_15 i_X9 v_X9 lM_0 17 rfl (Nat.le_of_ble_eq_true rfl) g_791 ?_
    refine r_iload_n X dX9_judge_18 1 rfl rfl ?_
    obtain ⟨g4, v5, ev5, h⟩ := ld_ok h
    refine s_iald X dX9_judge_19 lM_7 g4 ev5 ?_
    refine r_if_ne X 30 dX9_judge_20 (by decide) (fun c29 => ?_) (fun c29 => ?_)
    · rw [if_neg c29] at h
      refine r_iconst X dX9_judge_30 (v := 0) (by decide) ?_
      refine r_istore_n (L' := [(0, .ref (ea E 0)), (1, .int a1), (2, .int 0)]) X dX9_judge_31 [1, 2, 0] rfl rfl (Nat.le_of_ble_eq_true rfl) ?_
      obtain ⟨v19, s18, eo, h⟩ := bd2_ok h
      refine LX9_judge_32 X FU _ _ _ _ eo ?_
      refine r_iload_n X dX9_judge_78 2 rfl rfl ?_
      refine r_aload_n X dX9_judge_79 0 rfl rfl ?_
      refine r_getr X dX9_judge_80 i_X9 v_X9 lM_0 0 rfl (Nat.le_of_ble_eq_true rfl) g_774 ?_
      refine r_iconst X dX9_judge_83 (v := 2) (by decide) ?_
      obtain ⟨g20, v21, ev21, h⟩ := ld_ok h
      refine s_iald X dX9_judge_84 lM_1 g20 ev21 ?_
      obtain ⟨j102, ej102, h⟩ := jn1_ok h
      have hj102 : ∀ (u : Unit), j102 u = some (r9, t9) → AW E layM p l e (rmD 2) ms m [.ref (ea E 0), .int a1].toArray below meth c 3 0 0 (MQc E layM below [.ref (ea E 0), .int a1].toArray ms (some (.int r9)) t9) 102 [(2, .int v19)] [] s18 := by
        intro u h
        rw [ej102] at h
        refine r_iload_n X dX9_judge_102 0 rfl rfl ?_
        exact s_iret X hlk hr dX9_judge_103 h
      refine r_icmp_ne X 102 dX9_judge_85 (by decide) (fun c25 => ?_) (fun c25 => ?_)
      · rw [if_neg c25] at h
        refine r_sub (L' := [(2, .int v19)]) [2] rfl ?_
        exact hj102 _ h
      · rw [if_pos c25] at h
        refine r_iload_n X dX9_judge_88 2 rfl rfl ?_
        refine r_aload_n X dX9_judge_89 0 rfl rfl ?_
        refine r_getr X dX9_judge_90 i_X9 v_X9 lM_0 18 rfl (Nat.le_of_ble_eq_true rfl) g_792 ?_
        refine r_iload_n X dX9_judge_93 1 rfl rfl ?_
        obtain ⟨g22, v23, ev23, h⟩ := ld_ok h
        refine s_iald X dX9_judge_94 lM_8 g22 ev23 ?_
        refine r_icmp_ne X 102 dX9_judge_95 (by decide) (fun c24 => ?_) (fun c24 => ?_)
        · rw [if_neg c24] at h
          refine r_sub (L' := [(2, .int v19)]) [2] rfl ?_
          exact hj102 _ h
        · rw [if_pos c24] at h
          refine r_iconst X dX9_judge_98 (v := (-1)) (by decide) ?_
          refine r_goto X 103 dX9_judge_99 (by decide) ?_
          exact s_iret X hlk hr dX9_judge_103 h
    · rw [if_pos c29] at h
      refine r_aload_n X dX9_judge_23 0 rfl rfl ?_
      refine r_ldc X dX9_judge_24 g_1077 ?_
      obtain ⟨u28, s26, e27, h⟩ := bd2_ok h
      refine kX9_errs X (ctX9_errs e27) dX9_judge_26 lM_0 g_874 (Nat.le_of_ble_eq_true rfl) (Nat.le_of_ble_eq_true rfl) ?_
      exact s_iret X hlk hr dX9_judge_29 h
  · rw [if_pos c33] at h
    refine r_aload_n X dX9_judge_7 0 rfl rfl ?_
    refine r_ldc X dX9_judge_8 g_873 ?_
    obtain ⟨u32, s30, e31, h⟩ := bd2_ok h
    refine kX9_errs X (ctX9_errs e31) dX9_judge_10 lM_0 g_874 (Nat.le_of_ble_eq_true rfl) (Nat.le_of_ble_eq_true rfl) ?_
    exact s_iret X hlk hr dX9_judge_13 h
/-! X9_image -/
theorem nX9_image : yX9_image.cls ≠ "java/lang/invoke/MethodHandle" ∧ yX9_image.cls ≠ "java/lang/invoke/VarHandle" ∧ (parseMethodDescriptor yX9_image.desc).map (fun d => d.parameters.length) = some 0 := by decide +kernel
theorem kX9_image {l : Launch} {E : EE} {p : Program} {e : Env} {ms : State} {m : MethodId} {args : Array Value} {below : List Frame} {meth : Method} {c : Code} {cc : ByteArray} {own : String} {nL pc idx d D : Nat} {Q : State → Prop} {L : List (Nat × Value)} {rest : List Value} {σ τ : St}  {r : Int32} {fl : List (Option Nat)} (X : Cx E layM p ms m args c cc own nL) (hM : Ct l E layM yX9_image cX9_image 1 (some .int) d [.ref (ea E 0)] σ (some (.int r)) τ) (hd : decode cc pc = .ok (.invokevirtual idx, 3)) (hlay : layM[0]? = some (.inl (8, fl))) (w1 : Cond.methodLink own idx yX9_image ∈ gw) (hR : d + 1 ≤ D) (hrs : (rest.map fun v => v.category).sum ≤ 8) (k : AW E layM p l e (rmD D) ms m args below meth c nL 0 0 Q (pc + 3) L (.int r :: rest) τ) : AW E layM p l e (rmD D) ms m args below meth c nL 0 0 Q pc L (.ref (ea E 0) :: rest) σ :=
  s_callV X [] rest hM hd v_X9 hlay w1 g_1213 g_1214 g_77 g_1215 nX9_image rfl rfl hrs (Nat.le_of_ble_eq_true rfl) hR k
def fX9_image  (s0 : St) : Option (Int32 × St) :=
    bd1 (fX9_moveAll 1 257 2 257 s0) fun s1 =>
    bd1 (ptf s1 0 4 1) fun s3 =>
    bd1 (ptf s3 0 5 ((s3 0 5) + 1)) fun s4 =>
    some (s4 0 5, s4)
set_option maxHeartbeats 4000000 in
set_option maxRecDepth 100000 in
theorem ctX9_image {l : Launch} {E : EE}  {s0 : St} {r9 : Int32} {t9 : St}  (h : fX9_image  s0 = some (r9, t9)) : Ct l E layM yX9_image cX9_image 1 (some .int) 1 [.ref (ea E 0)] s0 (some (.int r9)) t9 := by
  refine Ct.of (by decide) (Nat.le_of_ble_eq_true rfl) ?_
  intro p e ms m below meth c X hlk hr
  have X : Cx E layM p ms m [.ref (ea E 0)].toArray c cX9_image RX9 1 := X
  refine r_sub (L' := [(0, .ref (ea E 0))]) [0] rfl ?_
  unfold fX9_image at h
  refine r_aload_n X dX9_image_0 0 rfl rfl ?_
  refine r_aload_n X dX9_image_1 0 rfl rfl ?_
  refine r_getr X dX9_image_2 i_X9 v_X9 lM_0 0 rfl (Nat.le_of_ble_eq_true rfl) g_774 ?_
  refine r_aload_n X dX9_image_5 0 rfl rfl ?_
  refine r_getr X dX9_image_6 i_X9 v_X9 lM_0 1 rfl (Nat.le_of_ble_eq_true rfl) g_775 ?_
  obtain ⟨s1, e2, h⟩ := bd1_ok h
  refine kX9_moveAll X (ctX9_moveAll lM_1 lM_2 e2) dX9_image_9 lM_0 g_1027 (Nat.le_of_ble_eq_true rfl) (Nat.le_of_ble_eq_true rfl) ?_
  refine r_aload_n X dX9_image_12 0 rfl rfl ?_
  refine r_iconst X dX9_image_13 (v := 1) (by decide) ?_
  obtain ⟨s3, es3, h⟩ := pt_ok h
  refine s_puti X dX9_image_14 i_X9 tyX9_ok nmX9 v_X9 lM_0 4 rfl (Nat.le_of_ble_eq_true rfl) g_778 rfl rfl (by decide) es3 ?_
  refine r_aload_n X dX9_image_17 0 rfl rfl ?_
  refine r_dup X dX9_image_18 rfl ?_
  refine r_geti X dX9_image_19 i_X9 v_X9 lM_0 5 rfl (Nat.le_of_ble_eq_true rfl) g_779 ?_
  refine r_iconst X dX9_image_22 (v := 1) (by decide) ?_
  refine r_iadd X dX9_image_23 ?_
  obtain ⟨s4, es4, h⟩ := pt_ok h
  refine s_puti X dX9_image_24 i_X9 tyX9_ok nmX9 v_X9 lM_0 5 rfl (Nat.le_of_ble_eq_true rfl) g_779 rfl rfl ⟨rfl, rfl⟩ es4 ?_
  refine r_aload_n X dX9_image_27 0 rfl rfl ?_
  refine r_geti X dX9_image_28 i_X9 v_X9 lM_0 5 rfl (Nat.le_of_ble_eq_true rfl) g_779 ?_
  exact s_iret X hlk hr dX9_image_31 h
/-! X9_restore -/
theorem nX9_restore : yX9_restore.cls ≠ "java/lang/invoke/MethodHandle" ∧ yX9_restore.cls ≠ "java/lang/invoke/VarHandle" ∧ (parseMethodDescriptor yX9_restore.desc).map (fun d => d.parameters.length) = some 0 := by decide +kernel
theorem kX9_restore {l : Launch} {E : EE} {p : Program} {e : Env} {ms : State} {m : MethodId} {args : Array Value} {below : List Frame} {meth : Method} {c : Code} {cc : ByteArray} {own : String} {nL pc idx d D : Nat} {Q : State → Prop} {L : List (Nat × Value)} {rest : List Value} {σ τ : St}  {r : Int32} {fl : List (Option Nat)} (X : Cx E layM p ms m args c cc own nL) (hM : Ct l E layM yX9_restore cX9_restore 1 (some .int) d [.ref (ea E 0)] σ (some (.int r)) τ) (hd : decode cc pc = .ok (.invokevirtual idx, 3)) (hlay : layM[0]? = some (.inl (8, fl))) (w1 : Cond.methodLink own idx yX9_restore ∈ gw) (hR : d + 1 ≤ D) (hrs : (rest.map fun v => v.category).sum ≤ 8) (k : AW E layM p l e (rmD D) ms m args below meth c nL 0 0 Q (pc + 3) L (.int r :: rest) τ) : AW E layM p l e (rmD D) ms m args below meth c nL 0 0 Q pc L (.ref (ea E 0) :: rest) σ :=
  s_callV X [] rest hM hd v_X9 hlay w1 g_1217 g_1218 g_77 g_1219 nX9_restore rfl rfl hrs (Nat.le_of_ble_eq_true rfl) hR k
def fX9_restore  (s0 : St) : Option (Int32 × St) :=
    if (s0 0 4) = 0 then
    bd2 (fX9_errs (-1000000002) s0) fun u9 s7 =>
    some (u9, s7)
    else
    bd1 (fX9_moveAll 2 257 1 257 s0) fun s1 =>
    bd1 (fX9_forgets  s1) fun s3 =>
    bd1 (ald s3 1 257 0) fun v6 =>
    some (v6, s3)
set_option maxHeartbeats 4000000 in
set_option maxRecDepth 100000 in
theorem ctX9_restore {l : Launch} {E : EE}  {s0 : St} {r9 : Int32} {t9 : St}  (h : fX9_restore  s0 = some (r9, t9)) : Ct l E layM yX9_restore cX9_restore 1 (some .int) 1 [.ref (ea E 0)] s0 (some (.int r9)) t9 := by
  refine Ct.of (by decide) (Nat.le_of_ble_eq_true rfl) ?_
  intro p e ms m below meth c X hlk hr
  have X : Cx E layM p ms m [.ref (ea E 0)].toArray c cX9_restore RX9 1 := X
  refine r_sub (L' := [(0, .ref (ea E 0))]) [0] rfl ?_
  unfold fX9_restore at h
  refine r_aload_n X dX9_restore_0 0 rfl rfl ?_
  refine r_geti X dX9_restore_1 i_X9 v_X9 lM_0 4 rfl (Nat.le_of_ble_eq_true rfl) g_778 ?_
  refine r_if_ne X 14 dX9_restore_4 (by decide) (fun c10 => ?_) (fun c10 => ?_)
  · rw [if_neg c10] at h
    refine r_aload_n X dX9_restore_14 0 rfl rfl ?_
    refine r_aload_n X dX9_restore_15 0 rfl rfl ?_
    refine r_getr X dX9_restore_16 i_X9 v_X9 lM_0 1 rfl (Nat.le_of_ble_eq_true rfl) g_775 ?_
    refine r_aload_n X dX9_restore_19 0 rfl rfl ?_
    refine r_getr X dX9_restore_20 i_X9 v_X9 lM_0 0 rfl (Nat.le_of_ble_eq_true rfl) g_774 ?_
    obtain ⟨s1, e2, h⟩ := bd1_ok h
    refine kX9_moveAll X (ctX9_moveAll lM_2 lM_1 e2) dX9_restore_23 lM_0 g_1027 (Nat.le_of_ble_eq_true rfl) (Nat.le_of_ble_eq_true rfl) ?_
    refine r_aload_n X dX9_restore_26 0 rfl rfl ?_
    obtain ⟨s3, e4, h⟩ := bd1_ok h
    refine kX9_forgets X (ctX9_forgets e4) dX9_restore_27 lM_0 g_770 (Nat.le_of_ble_eq_true rfl) (Nat.le_of_ble_eq_true rfl) ?_
    refine r_aload_n X dX9_restore_30 0 rfl rfl ?_
    refine r_getr X dX9_restore_31 i_X9 v_X9 lM_0 0 rfl (Nat.le_of_ble_eq_true rfl) g_774 ?_
    refine r_iconst X dX9_restore_34 (v := 0) (by decide) ?_
    obtain ⟨g5, v6, ev6, h⟩ := ld_ok h
    refine s_iald X dX9_restore_35 lM_1 g5 ev6 ?_
    exact s_iret X hlk hr dX9_restore_36 h
  · rw [if_pos c10] at h
    refine r_aload_n X dX9_restore_7 0 rfl rfl ?_
    refine r_ldc X dX9_restore_8 g_1077 ?_
    obtain ⟨u9, s7, e8, h⟩ := bd2_ok h
    refine kX9_errs X (ctX9_errs e8) dX9_restore_10 lM_0 g_874 (Nat.le_of_ble_eq_true rfl) (Nat.le_of_ble_eq_true rfl) ?_
    exact s_iret X hlk hr dX9_restore_13 h
/-! X9_tell -/
theorem nX9_tell : yX9_tell.cls ≠ "java/lang/invoke/MethodHandle" ∧ yX9_tell.cls ≠ "java/lang/invoke/VarHandle" ∧ (parseMethodDescriptor yX9_tell.desc).map (fun d => d.parameters.length) = some 1 := by decide +kernel
theorem kX9_tell {l : Launch} {E : EE} {p : Program} {e : Env} {ms : State} {m : MethodId} {args : Array Value} {below : List Frame} {meth : Method} {c : Code} {cc : ByteArray} {own : String} {nL pc idx d D : Nat} {Q : State → Prop} {L : List (Nat × Value)} {rest : List Value} {σ τ : St} {a1 : Int32} {r : Int32} {fl : List (Option Nat)} (X : Cx E layM p ms m args c cc own nL) (hM : Ct l E layM yX9_tell cX9_tell 2 (some .int) d [.ref (ea E 0), .int a1] σ (some (.int r)) τ) (hd : decode cc pc = .ok (.invokevirtual idx, 3)) (hlay : layM[0]? = some (.inl (8, fl))) (w1 : Cond.methodLink own idx yX9_tell ∈ gw) (hR : d + 1 ≤ D) (hrs : (rest.map fun v => v.category).sum ≤ 8) (k : AW E layM p l e (rmD D) ms m args below meth c nL 0 0 Q (pc + 3) L (.int r :: rest) τ) : AW E layM p l e (rmD D) ms m args below meth c nL 0 0 Q pc L (.int a1 :: .ref (ea E 0) :: rest) σ :=
  s_callV X [.int a1] rest hM hd v_X9 hlay w1 g_1221 g_1222 g_77 g_1223 nX9_tell rfl rfl hrs (Nat.le_of_ble_eq_true rfl) hR k
def fX9_tell (a1 : Int32) (s0 : St) : Option (Int32 × St) :=
    bd1 (ald s0 1 257 6) fun v2 =>
    if v2 = 20 then
    bd2 (fX9_errs (-1000000004) s0) fun u15 s13 =>
    some (u15, s13)
    else
    bd1 (ald s0 1 257 6) fun v4 =>
    bd1 (ast s0 1 257 (137 + v4) a1) fun s6 =>
    bd1 (ald s6 1 257 6) fun v8 =>
    bd1 (ast s6 1 257 6 (v8 + 1)) fun s10 =>
    bd1 (ald s10 1 257 6) fun v12 =>
    some (v12, s10)
set_option maxHeartbeats 4000000 in
set_option maxRecDepth 100000 in
theorem ctX9_tell {l : Launch} {E : EE} {a1 : Int32} {s0 : St} {r9 : Int32} {t9 : St}  (h : fX9_tell a1 s0 = some (r9, t9)) : Ct l E layM yX9_tell cX9_tell 2 (some .int) 1 [.ref (ea E 0), .int a1] s0 (some (.int r9)) t9 := by
  refine Ct.of (by decide) (Nat.le_of_ble_eq_true rfl) ?_
  intro p e ms m below meth c X hlk hr
  have X : Cx E layM p ms m [.ref (ea E 0), .int a1].toArray c cX9_tell RX9 2 := X
  refine r_sub (L' := [(0, .ref (ea E 0)), (1, .int a1)]) [0, 1] rfl ?_
  unfold fX9_tell at h
  refine r_aload_n X dX9_tell_0 0 rfl rfl ?_
  refine r_getr X dX9_tell_1 i_X9 v_X9 lM_0 0 rfl (Nat.le_of_ble_eq_true rfl) g_774 ?_
  refine r_bipush X dX9_tell_4 (v := 6) (by decide) ?_
  obtain ⟨g1, v2, ev2, h⟩ := ld_ok h
  refine s_iald X dX9_tell_6 lM_1 g1 ev2 ?_
  refine r_bipush X dX9_tell_7 (v := 20) (by decide) ?_
  refine r_icmp_ne X 19 dX9_tell_9 (by decide) (fun c16 => ?_) (fun c16 => ?_)
  · rw [if_neg c16] at h
    refine r_aload_n X dX9_tell_19 0 rfl rfl ?_
    refine r_getr X dX9_tell_20 i_X9 v_X9 lM_0 0 rfl (Nat.le_of_ble_eq_true rfl) g_774 ?_
    refine r_sipush X dX9_tell_23 (v := 137) (by decide) ?_
    refine r_aload_n X dX9_tell_26 0 rfl rfl ?_
    refine r_getr X dX9_tell_27 i_X9 v_X9 lM_0 0 rfl (Nat.le_of_ble_eq_true rfl) g_774 ?_
    refine r_bipush X dX9_tell_30 (v := 6) (by decide) ?_
    obtain ⟨g3, v4, ev4, h⟩ := ld_ok h
    refine s_iald X dX9_tell_32 lM_1 g3 ev4 ?_
    refine r_iadd X dX9_tell_33 ?_
    refine r_iload_n X dX9_tell_34 1 rfl rfl ?_
    obtain ⟨g5, s6, es6, h⟩ := as_ok h
    refine s_iast X dX9_tell_35 lM_1 g5 es6 ?_
    refine r_aload_n X dX9_tell_36 0 rfl rfl ?_
    refine r_getr X dX9_tell_37 i_X9 v_X9 lM_0 0 rfl (Nat.le_of_ble_eq_true rfl) g_774 ?_
    refine r_bipush X dX9_tell_40 (v := 6) (by decide) ?_
    refine r_dup2 X dX9_tell_42 rfl rfl ?_
    obtain ⟨g7, v8, ev8, h⟩ := ld_ok h
    refine s_iald X dX9_tell_43 lM_1 g7 ev8 ?_
    refine r_iconst X dX9_tell_44 (v := 1) (by decide) ?_
    refine r_iadd X dX9_tell_45 ?_
    obtain ⟨g9, s10, es10, h⟩ := as_ok h
    refine s_iast X dX9_tell_46 lM_1 g9 es10 ?_
    refine r_aload_n X dX9_tell_47 0 rfl rfl ?_
    refine r_getr X dX9_tell_48 i_X9 v_X9 lM_0 0 rfl (Nat.le_of_ble_eq_true rfl) g_774 ?_
    refine r_bipush X dX9_tell_51 (v := 6) (by decide) ?_
    obtain ⟨g11, v12, ev12, h⟩ := ld_ok h
    refine s_iald X dX9_tell_53 lM_1 g11 ev12 ?_
    exact s_iret X hlk hr dX9_tell_54 h
  · rw [if_pos c16] at h
    refine r_aload_n X dX9_tell_12 0 rfl rfl ?_
    refine r_ldc X dX9_tell_13 g_903 ?_
    obtain ⟨u15, s13, e14, h⟩ := bd2_ok h
    refine kX9_errs X (ctX9_errs e14) dX9_tell_15 lM_0 g_874 (Nat.le_of_ble_eq_true rfl) (Nat.le_of_ble_eq_true rfl) ?_
    exact s_iret X hlk hr dX9_tell_18 h
/-! X9_check -/
theorem nX9_check : yX9_check.cls ≠ "java/lang/invoke/MethodHandle" ∧ yX9_check.cls ≠ "java/lang/invoke/VarHandle" ∧ (parseMethodDescriptor yX9_check.desc).map (fun d => d.parameters.length) = some 0 := by decide +kernel
theorem kX9_check {l : Launch} {E : EE} {p : Program} {e : Env} {ms : State} {m : MethodId} {args : Array Value} {below : List Frame} {meth : Method} {c : Code} {cc : ByteArray} {own : String} {nL pc idx d D : Nat} {Q : State → Prop} {L : List (Nat × Value)} {rest : List Value} {σ τ : St}  {r : Int32} {fl : List (Option Nat)} (X : Cx E layM p ms m args c cc own nL) (hM : Ct l E layM yX9_check cX9_check 4 (some .int) d [.ref (ea E 0)] σ (some (.int r)) τ) (hd : decode cc pc = .ok (.invokevirtual idx, 3)) (hlay : layM[0]? = some (.inl (8, fl))) (w1 : Cond.methodLink own idx yX9_check ∈ gw) (hR : d + 1 ≤ D) (hrs : (rest.map fun v => v.category).sum ≤ 8) (k : AW E layM p l e (rmD D) ms m args below meth c nL 0 0 Q (pc + 3) L (.int r :: rest) τ) : AW E layM p l e (rmD D) ms m args below meth c nL 0 0 Q pc L (.ref (ea E 0) :: rest) σ :=
  s_callV X [] rest hM hd v_X9 hlay w1 g_1225 g_1226 g_77 g_1227 nX9_check rfl rfl hrs (Nat.le_of_ble_eq_true rfl) hR k
def fX9_check_32 (a1 : Int32) : Nat → Int32 → Int32 → St → Option (Int32 × Int32 × St)
  | 0, _, _, _ => none
  | n + 1, a2, a3, s0 =>
    if a1 ≤ a2 then
    some (a2, a3, s0)
    else
    if a3 = 0 then
    some (a2, a3, s0)
    else
    bd1 (fX9_oneDay  s0) fun s7 =>
    bd1 (ald s7 1 257 4) fun v10 =>
    bd1 (ald s7 1 257 (137 + a2)) fun v12 =>
    jn (fun (w13 : Int32) =>
    jn (fun (w14 : Int32) =>
    fX9_check_32 a1 n (a2 + w14) w13 s7) fun j80 =>
    if w13 = 0 then
    j80 0
    else
    j80 1) fun j69 =>
    if v10 = v12 then
    j69 1
    else
    j69 0
def fX9_check  (s0 : St) : Option (Int32 × St) :=
    bd1 (ald s0 1 257 6) fun v2 =>
    bd1 (ast s0 1 257 6 0) fun s4 =>
    bd1 (fX9_moveAll 1 257 3 257 s4) fun s5 =>
    bd3 (fX9_check_32 v2 FU 0 1 s5) fun v20 v21 s19 =>
    bd1 (fX9_moveAll 3 257 1 257 s19) fun s22 =>
    if v21 = 0 then
    some (1 + v20, s22)
    else
    some (0, s22)
set_option maxHeartbeats 4000000 in
set_option maxRecDepth 100000 in
theorem LX9_check_32 {l : Launch} {E : EE} {p : Program} {e : Env} {ms : State} {m : MethodId} {args : Array Value} {below : List Frame} {meth : Method} {c : Code} {a1 : Int32} {Q : State → Prop} (X : Cx E layM p ms m args c cX9_check RX9 4) : ∀ (n : Nat) (a2 : Int32) (a3 : Int32) (s0 : St) (q2 : Int32) (q3 : Int32) (t8 : St), fX9_check_32 a1 n a2 a3 s0 = some (q2, q3, t8) → AW E layM p l e (rmD 110) ms m args below meth c 4 0 0 Q 85 [(0, .ref (ea E 0)), (2, .int q2), (3, .int q3)] [] t8 → AW E layM p l e (rmD 110) ms m args below meth c 4 0 0 Q 32 [(0, .ref (ea E 0)), (1, .int a1), (2, .int a2), (3, .int a3)] [] s0 := by
  intro n
  induction n with
  | zero =>
    intro a2 a3 s0 q2 q3 t8 h hE
    cases h
  | succ n ih =>
    intro a2 a3 s0 q2 q3 t8 h hE
    rw [fX9_check_32] at h
    refine r_iload_n X dX9_check_32 2 rfl rfl ?_
    refine r_iload_n X dX9_check_33 1 rfl rfl ?_
    refine r_icmp_ge X 85 dX9_check_34 (by decide) (fun c18 => ?_) (fun c18 => ?_)
    · rw [if_pos c18] at h
      refine r_sub (L' := [(0, .ref (ea E 0)), (2, .int a2), (3, .int a3)]) [0, 2, 3] rfl ?_
      cases h
      exact hE
    · rw [if_neg c18] at h
      refine r_iload_n X dX9_check_37 3 rfl rfl ?_
      refine r_if_eq X 85 dX9_check_38 (by decide) (fun c17 => ?_) (fun c17 => ?_)
      · rw [if_pos c17] at h
        refine r_sub (L' := [(0, .ref (ea E 0)), (2, .int a2), (3, .int a3)]) [0, 2, 3] rfl ?_
        cases h
        exact hE
      · rw [if_neg c17] at h
        refine r_aload_n X dX9_check_41 0 rfl rfl ?_
        obtain ⟨s7, e8, h⟩ := bd1_ok h
        refine kX9_oneDay X (ctX9_oneDay e8) dX9_check_42 lM_0 g_1040 (Nat.le_of_ble_eq_true rfl) (Nat.le_of_ble_eq_true rfl) ?_
        refine r_aload_n X dX9_check_45 0 rfl rfl ?_
        refine r_getr X dX9_check_46 i_X9 v_X9 lM_0 0 rfl (Nat.le_of_ble_eq_true rfl) g_774 ?_
        refine r_iconst X dX9_check_49 (v := 4) (by decide) ?_
        obtain ⟨g9, v10, ev10, h⟩ := ld_ok h
        refine s_iald X dX9_check_50 lM_1 g9 ev10 ?_
        refine r_aload_n X dX9_check_51 0 rfl rfl ?_
        refine r_getr X dX9_check_52 i_X9 v_X9 lM_0 0 rfl (Nat.le_of_ble_eq_true rfl) g_774 ?_
        refine r_sipush X dX9_check_55 (v := 137) (by decide) ?_
        refine r_iload_n X dX9_check_58 2 rfl rfl ?_
        refine r_iadd X dX9_check_59 ?_
        obtain ⟨g11, v12, ev12, h⟩ := ld_ok h
        refine s_iald X dX9_check_60 lM_1 g11 ev12 ?_
        obtain ⟨j69, ej69, h⟩ := jn1_ok h
        have hj69 : ∀ (w13 : Int32), j69 w13 = some (q2, q3, t8) → AW E layM p l e (rmD 110) ms m args below meth c 4 0 0 Q 69 [(0, .ref (ea E 0)), (1, .int a1), (2, .int a2)] [.int w13] s7 := by
          intro w13 h
          rw [ej69] at h
          refine r_istore_n (L' := [(0, .ref (ea E 0)), (1, .int a1), (2, .int a2), (3, .int w13)]) X dX9_check_69 [1, 2, 3, 0] rfl rfl (Nat.le_of_ble_eq_true rfl) ?_
          refine r_iload_n X dX9_check_70 2 rfl rfl ?_
          refine r_iload_n X dX9_check_71 3 rfl rfl ?_
          obtain ⟨j80, ej80, h⟩ := jn1_ok h
          have hj80 : ∀ (w14 : Int32), j80 w14 = some (q2, q3, t8) → AW E layM p l e (rmD 110) ms m args below meth c 4 0 0 Q 80 [(0, .ref (ea E 0)), (1, .int a1), (3, .int w13)] [.int w14, .int a2] s7 := by
            intro w14 h
            rw [ej80] at h
            refine r_iadd X dX9_check_80 ?_
            refine r_istore_n (L' := [(0, .ref (ea E 0)), (1, .int a1), (2, .int (a2 + w14)), (3, .int w13)]) X dX9_check_81 [1, 2, 0, 3] rfl rfl (Nat.le_of_ble_eq_true rfl) ?_
            refine r_goto X 32 dX9_check_82 (by decide) ?_
            exact ih _ _ _ _ _ _ h hE
          refine r_if_eq X 79 dX9_check_72 (by decide) (fun c15 => ?_) (fun c15 => ?_)
          · rw [if_pos c15] at h
            refine r_iconst X dX9_check_79 (v := 0) (by decide) ?_
            refine r_sub (L' := [(0, .ref (ea E 0)), (1, .int a1), (3, .int w13)]) [0, 1, 3] rfl ?_
            exact hj80 _ h
          · rw [if_neg c15] at h
            refine r_iconst X dX9_check_75 (v := 1) (by decide) ?_
            refine r_goto X 80 dX9_check_76 (by decide) ?_
            refine r_sub (L' := [(0, .ref (ea E 0)), (1, .int a1), (3, .int w13)]) [0, 1, 3] rfl ?_
            exact hj80 _ h
        refine r_icmp_ne X 68 dX9_check_61 (by decide) (fun c16 => ?_) (fun c16 => ?_)
        · rw [if_neg c16] at h
          refine r_iconst X dX9_check_68 (v := 0) (by decide) ?_
          refine r_sub (L' := [(0, .ref (ea E 0)), (1, .int a1), (2, .int a2)]) [0, 1, 2] rfl ?_
          exact hj69 _ h
        · rw [if_pos c16] at h
          refine r_iconst X dX9_check_64 (v := 1) (by decide) ?_
          refine r_goto X 69 dX9_check_65 (by decide) ?_
          refine r_sub (L' := [(0, .ref (ea E 0)), (1, .int a1), (2, .int a2)]) [0, 1, 2] rfl ?_
          exact hj69 _ h
set_option maxHeartbeats 4000000 in
set_option maxRecDepth 100000 in
theorem ctX9_check {l : Launch} {E : EE}  {s0 : St} {r9 : Int32} {t9 : St}  (h : fX9_check  s0 = some (r9, t9)) : Ct l E layM yX9_check cX9_check 4 (some .int) 110 [.ref (ea E 0)] s0 (some (.int r9)) t9 := by
  refine Ct.of (by decide) (Nat.le_of_ble_eq_true rfl) ?_
  intro p e ms m below meth c X hlk hr
  have X : Cx E layM p ms m [.ref (ea E 0)].toArray c cX9_check RX9 4 := X
  refine r_sub (L' := [(0, .ref (ea E 0))]) [0] rfl ?_
  unfold fX9_check at h
  refine r_aload_n X dX9_check_0 0 rfl rfl ?_
  refine r_getr X dX9_check_1 i_X9 v_X9 lM_0 0 rfl (Nat.le_of_ble_eq_true rfl) g_774 ?_
  refine r_bipush X dX9_check_4 (v := 6) (by decide) ?_
  obtain ⟨g1, v2, ev2, h⟩ := ld_ok h
  refine s_iald X dX9_check_6 lM_1 g1 ev2 ?_
  refine r_istore_n (L' := [(0, .ref (ea E 0)), (1, .int v2)]) X dX9_check_7 [1, 0] rfl rfl (Nat.le_of_ble_eq_true rfl) ?_
  refine r_aload_n X dX9_check_8 0 rfl rfl ?_
  refine r_getr X dX9_check_9 i_X9 v_X9 lM_0 0 rfl (Nat.le_of_ble_eq_true rfl) g_774 ?_
  refine r_bipush X dX9_check_12 (v := 6) (by decide) ?_
  refine r_iconst X dX9_check_14 (v := 0) (by decide) ?_
  obtain ⟨g3, s4, es4, h⟩ := as_ok h
  refine s_iast X dX9_check_15 lM_1 g3 es4 ?_
  refine r_aload_n X dX9_check_16 0 rfl rfl ?_
  refine r_aload_n X dX9_check_17 0 rfl rfl ?_
  refine r_getr X dX9_check_18 i_X9 v_X9 lM_0 0 rfl (Nat.le_of_ble_eq_true rfl) g_774 ?_
  refine r_aload_n X dX9_check_21 0 rfl rfl ?_
  refine r_getr X dX9_check_22 i_X9 v_X9 lM_0 2 rfl (Nat.le_of_ble_eq_true rfl) g_776 ?_
  obtain ⟨s5, e6, h⟩ := bd1_ok h
  refine kX9_moveAll X (ctX9_moveAll lM_1 lM_3 e6) dX9_check_25 lM_0 g_1027 (Nat.le_of_ble_eq_true rfl) (Nat.le_of_ble_eq_true rfl) ?_
  refine r_iconst X dX9_check_28 (v := 0) (by decide) ?_
  refine r_istore_n (L' := [(0, .ref (ea E 0)), (1, .int v2), (2, .int 0)]) X dX9_check_29 [1, 2, 0] rfl rfl (Nat.le_of_ble_eq_true rfl) ?_
  refine r_iconst X dX9_check_30 (v := 1) (by decide) ?_
  refine r_istore_n (L' := [(0, .ref (ea E 0)), (1, .int v2), (2, .int 0), (3, .int 1)]) X dX9_check_31 [1, 2, 3, 0] rfl rfl (Nat.le_of_ble_eq_true rfl) ?_
  obtain ⟨v20, v21, s19, eo, h⟩ := bd3_ok h
  refine LX9_check_32 X FU _ _ _ _ _ _ eo ?_
  refine r_aload_n X dX9_check_85 0 rfl rfl ?_
  refine r_aload_n X dX9_check_86 0 rfl rfl ?_
  refine r_getr X dX9_check_87 i_X9 v_X9 lM_0 2 rfl (Nat.le_of_ble_eq_true rfl) g_776 ?_
  refine r_aload_n X dX9_check_90 0 rfl rfl ?_
  refine r_getr X dX9_check_91 i_X9 v_X9 lM_0 0 rfl (Nat.le_of_ble_eq_true rfl) g_774 ?_
  obtain ⟨s22, e23, h⟩ := bd1_ok h
  refine kX9_moveAll X (ctX9_moveAll lM_3 lM_1 e23) dX9_check_94 lM_0 g_1027 (Nat.le_of_ble_eq_true rfl) (Nat.le_of_ble_eq_true rfl) ?_
  refine r_iload_n X dX9_check_97 2 rfl rfl ?_
  refine r_if_eq X 105 dX9_check_98 (by decide) (fun c24 => ?_) (fun c24 => ?_)
  · rw [if_pos c24] at h
    refine r_iconst X dX9_check_105 (v := 1) (by decide) ?_
    refine r_iload_n X dX9_check_106 1 rfl rfl ?_
    refine r_iadd X dX9_check_107 ?_
    exact s_iret X hlk hr dX9_check_108 h
  · rw [if_neg c24] at h
    refine r_iconst X dX9_check_101 (v := 0) (by decide) ?_
    refine r_goto X 108 dX9_check_102 (by decide) ?_
    exact s_iret X hlk hr dX9_check_108 h
