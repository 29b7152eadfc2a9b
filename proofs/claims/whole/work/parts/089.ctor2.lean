def wVoices (cI cB : ClassId) (f : Nat → Nat) : va_W := [((f 0), .inr (5, [.ref (f 1), .int 0, .int 0, .int 0])),
  ((f 1), .inr (3, [.ref (f 2), .int 0])),
  ((f 2), .inl (cI, 40, .inl z0))]
def wWhole (cI cB : ClassId) (f : Nat → Nat) : va_W := [((f 0), .inr (6, [.ref (f 1), .ref (f 11), .ref (f 13), .ref (f 15), .ref (f 17), .int 1])),
  ((f 1), .inr (0, [.ref (f 2), .ref (f 3), .ref (f 4), .ref (f 5), .ref (f 6), .ref (f 7), .ref (f 8), .ref (f 9), .ref (f 10), .int 12, .int 0, .int 0, .int 0])),
  ((f 2), .inl (cI, 16, .inl hSw)),
  ((f 3), .inl (cI, 16, .inl hFt)),
  ((f 4), .inl (cI, 6, .inl hSv)),
  ((f 5), .inl (cI, 8, .inl z0)),
  ((f 6), .inl (cI, 8, .inl z0)),
  ((f 7), .inl (cI, 8, .inl z0)),
  ((f 8), .inl (cI, 8, .inl z0)),
  ((f 9), .inl (cI, 8, .inl z0)),
  ((f 10), .inl (cI, 8, .inl z0)),
  ((f 11), .inr (3, [.ref (f 12), .int 0])),
  ((f 12), .inl (cI, 50, .inl z0)),
  ((f 13), .inr (3, [.ref (f 14), .int 0])),
  ((f 14), .inl (cI, 20, .inl z0)),
  ((f 15), .inr (3, [.ref (f 16), .int 0])),
  ((f 16), .inl (cI, 50, .inl z0)),
  ((f 17), .inr (3, [.ref (f 18), .int 0])),
  ((f 18), .inl (cI, 50, .inl z0))]
def wReader (cI cB : ClassId) (r1 : Nat) (f : Nat → Nat) : va_W := [((f 0), .inr (2, [.ref (f 1), .ref r1, .int 0, .int 0, .int 0])),
  ((f 1), .inr (3, [.ref (f 2), .int 0])),
  ((f 2), .inl (cI, 50, .inl z0))]
def wLaws (cI cB : ClassId) (r1 r2 : Nat) (f : Nat → Nat) : va_W := [((f 0), .inr (1, [.ref r1, .ref r2, .ref (f 1), .ref (f 2)])),
  ((f 1), .inl (cI, 50, .inl z0)),
  ((f 2), .inl (cB, 1800, .inl m1))]
def rmVoices : Room := { frames := 2, cells := 2, slots := 42, locals := 60 }
set_option maxHeartbeats 1000000 in
set_option maxRecDepth 100000 in
theorem i_Voices {l : Launch} {D : va_G} {cI cB cS : ClassId} {h0 : Nat} (sz : Nat) : Nt l D (tyL cI cB cS) yX6_init cX6_init 1 rmVoices (fun _ => True) [.ref h0] [(h0, .inr (5, [.null, .int 0, .int 0, .int 0]))] sz (fun f => f 0 = h0) (wVoices cI cB) := by
  refine Nt.of (by decide) (Nat.le_of_ble_eq_true rfl) ?_ sz
  intro p e s m below meth c A X hlocks hr hin hPp
  have X : Cy D A (tyL cI cB cS) p s m [.ref h0].toArray c cX6_init RX6 1 := X
  refine q_sub (L' := [(0, .ref h0)]) [0] rfl ?_
  refine q_aload_n X dX6_init_0 0 rfl rfl ?_
  refine q_objInit X h_256 h_86 h_87 (Nat.le_of_ble_eq_true rfl) (Nat.le_of_ble_eq_true rfl) dX6_init_1 ?_
  refine q_aload_n X dX6_init_4 0 rfl rfl ?_
  refine q_new X i_X4 tyX4_ok h_257 h_154 h_70 v_X4 df_X4 (by constructor <;> exact Nat.le_of_ble_eq_true rfl) dX6_init_5 (fun q5_1 => ?_)
  refine q_dup X dX6_init_8 rfl ?_
  refine q_bipush X dX6_init_9 (v := 40) (by decide) ?_
  refine q_callEI X (b := q5_1) [.int 40] [.ref q5_1, .ref h0] (i_Row40 (cB := cB) (cS := cS)) dX6_init_11 h_258 h_156 h_70 h_157 rfl nX4_init rfl rfl (Nat.le_of_ble_eq_true rfl) ?_ ?_ (wr := [(h0, .inr (5, [.null, .int 0, .int 0, .int 0]))]) ?_
  · constructor <;> exact Nat.le_of_ble_eq_true rfl
  · constructor <;> exact Nat.le_of_ble_eq_true rfl
  intro f11_2 hf
  subst hf
  refine q_ws (ws' := ([(h0, .inr (5, [.null, .int 0, .int 0, .int 0]))]) ++ wRow cI cB 40 f11_2) rfl ?_
  refine q_putF (q0 := 0) X dX6_init_14 i_X6 tyX6_ok nmX6 v_X6 rfl 0 (Nat.le_of_ble_eq_true rfl) h_259 rfl rfl hin rfl rfl rfl (Nat.le_of_ble_eq_true rfl) (ws' := ([(h0, .inr (5, [.ref (f11_2 0), .int 0, .int 0, .int 0]))]) ++ wRow cI cB 40 f11_2) rfl ?_
  refine q_aload_n X dX6_init_17 0 rfl rfl ?_
  refine q_iconst X dX6_init_18 (v := 0) (by decide) ?_
  refine q_put (q0 := 0) X dX6_init_19 i_X6 tyX6_ok nmX6 v_X6 rfl 1 (Nat.le_of_ble_eq_true rfl) h_261 rfl rfl rfl rfl (Nat.le_of_ble_eq_true rfl) (ws' := ([(h0, .inr (5, [.ref (f11_2 0), .int 0, .int 0, .int 0]))]) ++ wRow cI cB 40 f11_2) rfl ?_
  refine q_aload_n X dX6_init_22 0 rfl rfl ?_
  refine q_iconst X dX6_init_23 (v := 0) (by decide) ?_
  refine q_put (q0 := 0) X dX6_init_24 i_X6 tyX6_ok nmX6 v_X6 rfl 2 (Nat.le_of_ble_eq_true rfl) h_262 rfl rfl rfl rfl (Nat.le_of_ble_eq_true rfl) (ws' := ([(h0, .inr (5, [.ref (f11_2 0), .int 0, .int 0, .int 0]))]) ++ wRow cI cB 40 f11_2) rfl ?_
  refine q_aload_n X dX6_init_27 0 rfl rfl ?_
  refine q_iconst X dX6_init_28 (v := 0) (by decide) ?_
  refine q_put (q0 := 0) X dX6_init_29 i_X6 tyX6_ok nmX6 v_X6 rfl 3 (Nat.le_of_ble_eq_true rfl) h_263 rfl rfl rfl rfl (Nat.le_of_ble_eq_true rfl) (ws' := ([(h0, .inr (5, [.ref (f11_2 0), .int 0, .int 0, .int 0]))]) ++ wRow cI cB 40 f11_2) rfl ?_
  exact q_vretI X hlocks hr dX6_init_32 (fun k => ([h0, (f11_2 0), (f11_2 1)] : List Nat).getD k 0) rfl rfl (by constructor <;> exact Nat.le_of_ble_eq_true rfl)
def rmWhole : Room := { frames := 2, cells := 18, slots := 277, locals := 60 }
set_option maxHeartbeats 1000000 in
set_option maxRecDepth 100000 in
theorem i_Whole {l : Launch} {D : va_G} {cI cB cS : ClassId} {h0 : Nat} (sz : Nat) : Nt l D (tyL cI cB cS) yX7_init cX7_init 1 rmWhole (fun _ => True) [.ref h0] [(h0, .inr (6, [.null, .null, .null, .null, .null, .int 0]))] sz (fun f => f 0 = h0) (wWhole cI cB) := by
  refine Nt.of (by decide) (Nat.le_of_ble_eq_true rfl) ?_ sz
  intro p e s m below meth c A X hlocks hr hin hPp
  have X : Cy D A (tyL cI cB cS) p s m [.ref h0].toArray c cX7_init RX7 1 := X
  refine q_sub (L' := [(0, .ref h0)]) [0] rfl ?_
  refine q_aload_n X dX7_init_0 0 rfl rfl ?_
  refine q_objInit X h_93 h_86 h_87 (Nat.le_of_ble_eq_true rfl) (Nat.le_of_ble_eq_true rfl) dX7_init_1 ?_
  refine q_aload_n X dX7_init_4 0 rfl rfl ?_
  refine q_new X i_X0 tyX0_ok h_94 h_95 h_69 v_X0 df_X0 (by constructor <;> exact Nat.le_of_ble_eq_true rfl) dX7_init_5 (fun q5_1 => ?_)
  refine q_dup X dX7_init_8 rfl ?_
  refine q_callEI X (b := q5_1) [] [.ref q5_1, .ref h0] (i_House (cB := cB) (cS := cS)) dX7_init_9 h_96 h_97 h_69 h_98 rfl nX0_init rfl rfl (Nat.le_of_ble_eq_true rfl) ?_ ?_ (wr := [(h0, .inr (6, [.null, .null, .null, .null, .null, .int 0]))]) ?_
  · constructor <;> exact Nat.le_of_ble_eq_true rfl
  · constructor <;> exact Nat.le_of_ble_eq_true rfl
  intro f9_2 hf
  subst hf
  refine q_ws (ws' := ([(h0, .inr (6, [.null, .null, .null, .null, .null, .int 0]))]) ++ wHouse cI cB f9_2) rfl ?_
  refine q_putF (q0 := 0) X dX7_init_12 i_X7 tyX7_ok nmX7 v_X7 rfl 0 (Nat.le_of_ble_eq_true rfl) h_176 rfl rfl hin rfl rfl rfl (Nat.le_of_ble_eq_true rfl) (ws' := ([(h0, .inr (6, [.ref (f9_2 0), .null, .null, .null, .null, .int 0]))]) ++ wHouse cI cB f9_2) rfl ?_
  refine q_aload_n X dX7_init_15 0 rfl rfl ?_
  refine q_new X i_X4 tyX4_ok h_153 h_154 h_70 v_X4 df_X4 (by constructor <;> exact Nat.le_of_ble_eq_true rfl) dX7_init_16 (fun q16_3 => ?_)
  refine q_dup X dX7_init_19 rfl ?_
  refine q_bipush X dX7_init_20 (v := 50) (by decide) ?_
  refine q_callEI X (b := q16_3) [.int 50] [.ref q16_3, .ref h0] (i_Row50 (cB := cB) (cS := cS)) dX7_init_22 h_155 h_156 h_70 h_157 rfl nX4_init rfl rfl (Nat.le_of_ble_eq_true rfl) ?_ ?_ (wr := ([(h0, .inr (6, [.ref (f9_2 0), .null, .null, .null, .null, .int 0]))]) ++ wHouse cI cB f9_2) ?_
  · constructor <;> exact Nat.le_of_ble_eq_true rfl
  · constructor <;> exact Nat.le_of_ble_eq_true rfl
  intro f22_4 hf
  subst hf
  refine q_ws (ws' := (([(h0, .inr (6, [.ref (f9_2 0), .null, .null, .null, .null, .int 0]))]) ++ wHouse cI cB f9_2) ++ wRow cI cB 50 f22_4) rfl ?_
  refine q_putF (q0 := 0) X dX7_init_25 i_X7 tyX7_ok nmX7 v_X7 rfl 1 (Nat.le_of_ble_eq_true rfl) h_178 rfl rfl hin rfl rfl rfl (Nat.le_of_ble_eq_true rfl) (ws' := (([(h0, .inr (6, [.ref (f9_2 0), .ref (f22_4 0), .null, .null, .null, .int 0]))]) ++ wHouse cI cB f9_2) ++ wRow cI cB 50 f22_4) rfl ?_
  refine q_aload_n X dX7_init_28 0 rfl rfl ?_
  refine q_new X i_X4 tyX4_ok h_153 h_154 h_70 v_X4 df_X4 (by constructor <;> exact Nat.le_of_ble_eq_true rfl) dX7_init_29 (fun q29_5 => ?_)
  refine q_dup X dX7_init_32 rfl ?_
  refine q_bipush X dX7_init_33 (v := 20) (by decide) ?_
  refine q_callEI X (b := q29_5) [.int 20] [.ref q29_5, .ref h0] (i_Row20 (cB := cB) (cS := cS)) dX7_init_35 h_155 h_156 h_70 h_157 rfl nX4_init rfl rfl (Nat.le_of_ble_eq_true rfl) ?_ ?_ (wr := (([(h0, .inr (6, [.ref (f9_2 0), .ref (f22_4 0), .null, .null, .null, .int 0]))]) ++ wHouse cI cB f9_2) ++ wRow cI cB 50 f22_4) ?_
  · constructor <;> exact Nat.le_of_ble_eq_true rfl
  · constructor <;> exact Nat.le_of_ble_eq_true rfl
  intro f35_6 hf
  subst hf
  refine q_ws (ws' := ((([(h0, .inr (6, [.ref (f9_2 0), .ref (f22_4 0), .null, .null, .null, .int 0]))]) ++ wHouse cI cB f9_2) ++ wRow cI cB 50 f22_4) ++ wRow cI cB 20 f35_6) rfl ?_
  refine q_putF (q0 := 0) X dX7_init_38 i_X7 tyX7_ok nmX7 v_X7 rfl 2 (Nat.le_of_ble_eq_true rfl) h_180 rfl rfl hin rfl rfl rfl (Nat.le_of_ble_eq_true rfl) (ws' := ((([(h0, .inr (6, [.ref (f9_2 0), .ref (f22_4 0), .ref (f35_6 0), .null, .null, .int 0]))]) ++ wHouse cI cB f9_2) ++ wRow cI cB 50 f22_4) ++ wRow cI cB 20 f35_6) rfl ?_
  refine q_aload_n X dX7_init_41 0 rfl rfl ?_
  refine q_new X i_X4 tyX4_ok h_153 h_154 h_70 v_X4 df_X4 (by constructor <;> exact Nat.le_of_ble_eq_true rfl) dX7_init_42 (fun q42_7 => ?_)
  refine q_dup X dX7_init_45 rfl ?_
  refine q_bipush X dX7_init_46 (v := 50) (by decide) ?_
  refine q_callEI X (b := q42_7) [.int 50] [.ref q42_7, .ref h0] (i_Row50 (cB := cB) (cS := cS)) dX7_init_48 h_155 h_156 h_70 h_157 rfl nX4_init rfl rfl (Nat.le_of_ble_eq_true rfl) ?_ ?_ (wr := ((([(h0, .inr (6, [.ref (f9_2 0), .ref (f22_4 0), .ref (f35_6 0), .null, .null, .int 0]))]) ++ wHouse cI cB f9_2) ++ wRow cI cB 50 f22_4) ++ wRow cI cB 20 f35_6) ?_
  · constructor <;> exact Nat.le_of_ble_eq_true rfl
  · constructor <;> exact Nat.le_of_ble_eq_true rfl
  intro f48_8 hf
  subst hf
  refine q_ws (ws' := (((([(h0, .inr (6, [.ref (f9_2 0), .ref (f22_4 0), .ref (f35_6 0), .null, .null, .int 0]))]) ++ wHouse cI cB f9_2) ++ wRow cI cB 50 f22_4) ++ wRow cI cB 20 f35_6) ++ wRow cI cB 50 f48_8) rfl ?_
  refine q_putF (q0 := 0) X dX7_init_51 i_X7 tyX7_ok nmX7 v_X7 rfl 3 (Nat.le_of_ble_eq_true rfl) h_183 rfl rfl hin rfl rfl rfl (Nat.le_of_ble_eq_true rfl) (ws' := (((([(h0, .inr (6, [.ref (f9_2 0), .ref (f22_4 0), .ref (f35_6 0), .ref (f48_8 0), .null, .int 0]))]) ++ wHouse cI cB f9_2) ++ wRow cI cB 50 f22_4) ++ wRow cI cB 20 f35_6) ++ wRow cI cB 50 f48_8) rfl ?_
  refine q_aload_n X dX7_init_54 0 rfl rfl ?_
  refine q_new X i_X4 tyX4_ok h_153 h_154 h_70 v_X4 df_X4 (by constructor <;> exact Nat.le_of_ble_eq_true rfl) dX7_init_55 (fun q55_9 => ?_)
  refine q_dup X dX7_init_58 rfl ?_
  refine q_bipush X dX7_init_59 (v := 50) (by decide) ?_
  refine q_callEI X (b := q55_9) [.int 50] [.ref q55_9, .ref h0] (i_Row50 (cB := cB) (cS := cS)) dX7_init_61 h_155 h_156 h_70 h_157 rfl nX4_init rfl rfl (Nat.le_of_ble_eq_true rfl) ?_ ?_ (wr := (((([(h0, .inr (6, [.ref (f9_2 0), .ref (f22_4 0), .ref (f35_6 0), .ref (f48_8 0), .null, .int 0]))]) ++ wHouse cI cB f9_2) ++ wRow cI cB 50 f22_4) ++ wRow cI cB 20 f35_6) ++ wRow cI cB 50 f48_8) ?_
  · constructor <;> exact Nat.le_of_ble_eq_true rfl
  · constructor <;> exact Nat.le_of_ble_eq_true rfl
  intro f61_10 hf
  subst hf
  refine q_ws (ws' := ((((([(h0, .inr (6, [.ref (f9_2 0), .ref (f22_4 0), .ref (f35_6 0), .ref (f48_8 0), .null, .int 0]))]) ++ wHouse cI cB f9_2) ++ wRow cI cB 50 f22_4) ++ wRow cI cB 20 f35_6) ++ wRow cI cB 50 f48_8) ++ wRow cI cB 50 f61_10) rfl ?_
  refine q_putF (q0 := 0) X dX7_init_64 i_X7 tyX7_ok nmX7 v_X7 rfl 4 (Nat.le_of_ble_eq_true rfl) h_185 rfl rfl hin rfl rfl rfl (Nat.le_of_ble_eq_true rfl) (ws' := ((((([(h0, .inr (6, [.ref (f9_2 0), .ref (f22_4 0), .ref (f35_6 0), .ref (f48_8 0), .ref (f61_10 0), .int 0]))]) ++ wHouse cI cB f9_2) ++ wRow cI cB 50 f22_4) ++ wRow cI cB 20 f35_6) ++ wRow cI cB 50 f48_8) ++ wRow cI cB 50 f61_10) rfl ?_
  refine q_aload_n X dX7_init_67 0 rfl rfl ?_
  refine q_iconst X dX7_init_68 (v := 1) (by decide) ?_
  refine q_put (q0 := 0) X dX7_init_69 i_X7 tyX7_ok nmX7 v_X7 rfl 5 (Nat.le_of_ble_eq_true rfl) h_186 rfl rfl rfl rfl (Nat.le_of_ble_eq_true rfl) (ws' := ((((([(h0, .inr (6, [.ref (f9_2 0), .ref (f22_4 0), .ref (f35_6 0), .ref (f48_8 0), .ref (f61_10 0), .int 1]))]) ++ wHouse cI cB f9_2) ++ wRow cI cB 50 f22_4) ++ wRow cI cB 20 f35_6) ++ wRow cI cB 50 f48_8) ++ wRow cI cB 50 f61_10) rfl ?_
  exact q_vretI X hlocks hr dX7_init_72 (fun k => ([h0, (f9_2 0), (f9_2 1), (f9_2 2), (f9_2 3), (f9_2 4), (f9_2 5), (f9_2 6), (f9_2 7), (f9_2 8), (f9_2 9), (f22_4 0), (f22_4 1), (f35_6 0), (f35_6 1), (f48_8 0), (f48_8 1), (f61_10 0), (f61_10 1)] : List Nat).getD k 0) rfl rfl (by constructor <;> exact Nat.le_of_ble_eq_true rfl)
def rmReader : Room := { frames := 2, cells := 2, slots := 52, locals := 60 }
set_option maxHeartbeats 1000000 in
set_option maxRecDepth 100000 in
theorem i_Reader {l : Launch} {D : va_G} {cI cB cS : ClassId} {r1 : Nat} {h0 : Nat} (sz : Nat) : Nt l D (tyL cI cB cS) yX3_init cX3_init 2 rmReader (fun _ => True) [.ref h0, .ref r1] [(h0, .inr (2, [.null, .null, .int 0, .int 0, .int 0]))] sz (fun f => f 0 = h0) (wReader cI cB r1) := by
  refine Nt.of (by decide) (Nat.le_of_ble_eq_true rfl) ?_ sz
  intro p e s m below meth c A X hlocks hr hin hPp
  have X : Cy D A (tyL cI cB cS) p s m [.ref h0, .ref r1].toArray c cX3_init RX3 2 := X
  refine q_sub (L' := [(0, .ref h0), (1, .ref r1)]) [0, 1] rfl ?_
  refine q_aload_n X dX3_init_0 0 rfl rfl ?_
  refine q_objInit X h_231 h_86 h_87 (Nat.le_of_ble_eq_true rfl) (Nat.le_of_ble_eq_true rfl) dX3_init_1 ?_
  refine q_aload_n X dX3_init_4 0 rfl rfl ?_
  refine q_new X i_X4 tyX4_ok h_232 h_154 h_70 v_X4 df_X4 (by constructor <;> exact Nat.le_of_ble_eq_true rfl) dX3_init_5 (fun q5_1 => ?_)
  refine q_dup X dX3_init_8 rfl ?_
  refine q_bipush X dX3_init_9 (v := 50) (by decide) ?_
  refine q_callEI X (b := q5_1) [.int 50] [.ref q5_1, .ref h0] (i_Row50 (cB := cB) (cS := cS)) dX3_init_11 h_233 h_156 h_70 h_157 rfl nX4_init rfl rfl (Nat.le_of_ble_eq_true rfl) ?_ ?_ (wr := [(h0, .inr (2, [.null, .null, .int 0, .int 0, .int 0]))]) ?_
  · constructor <;> exact Nat.le_of_ble_eq_true rfl
  · constructor <;> exact Nat.le_of_ble_eq_true rfl
  intro f11_2 hf
  subst hf
  refine q_ws (ws' := ([(h0, .inr (2, [.null, .null, .int 0, .int 0, .int 0]))]) ++ wRow cI cB 50 f11_2) rfl ?_
  refine q_putF (q0 := 0) X dX3_init_14 i_X3 tyX3_ok nmX3 v_X3 rfl 0 (Nat.le_of_ble_eq_true rfl) h_234 rfl rfl hin rfl rfl rfl (Nat.le_of_ble_eq_true rfl) (ws' := ([(h0, .inr (2, [.ref (f11_2 0), .null, .int 0, .int 0, .int 0]))]) ++ wRow cI cB 50 f11_2) rfl ?_
  refine q_aload_n X dX3_init_17 0 rfl rfl ?_
  refine q_iconst X dX3_init_18 (v := 0) (by decide) ?_
  refine q_put (q0 := 0) X dX3_init_19 i_X3 tyX3_ok nmX3 v_X3 rfl 2 (Nat.le_of_ble_eq_true rfl) h_237 rfl rfl rfl rfl (Nat.le_of_ble_eq_true rfl) (ws' := ([(h0, .inr (2, [.ref (f11_2 0), .null, .int 0, .int 0, .int 0]))]) ++ wRow cI cB 50 f11_2) rfl ?_
  refine q_aload_n X dX3_init_22 0 rfl rfl ?_
  refine q_iconst X dX3_init_23 (v := 0) (by decide) ?_
  refine q_put (q0 := 0) X dX3_init_24 i_X3 tyX3_ok nmX3 v_X3 rfl 3 (Nat.le_of_ble_eq_true rfl) h_238 rfl rfl rfl rfl (Nat.le_of_ble_eq_true rfl) (ws' := ([(h0, .inr (2, [.ref (f11_2 0), .null, .int 0, .int 0, .int 0]))]) ++ wRow cI cB 50 f11_2) rfl ?_
  refine q_aload_n X dX3_init_27 0 rfl rfl ?_
  refine q_iconst X dX3_init_28 (v := 0) (by decide) ?_
  refine q_put (q0 := 0) X dX3_init_29 i_X3 tyX3_ok nmX3 v_X3 rfl 4 (Nat.le_of_ble_eq_true rfl) h_239 rfl rfl rfl rfl (Nat.le_of_ble_eq_true rfl) (ws' := ([(h0, .inr (2, [.ref (f11_2 0), .null, .int 0, .int 0, .int 0]))]) ++ wRow cI cB 50 f11_2) rfl ?_
  refine q_aload_n X dX3_init_32 0 rfl rfl ?_
  refine q_aload_n X dX3_init_33 1 rfl rfl ?_
  refine q_putF (q0 := 0) X dX3_init_34 i_X3 tyX3_ok nmX3 v_X3 rfl 1 (Nat.le_of_ble_eq_true rfl) h_236 rfl rfl hin rfl rfl rfl (Nat.le_of_ble_eq_true rfl) (ws' := ([(h0, .inr (2, [.ref (f11_2 0), .ref r1, .int 0, .int 0, .int 0]))]) ++ wRow cI cB 50 f11_2) rfl ?_
  exact q_vretI X hlocks hr dX3_init_37 (fun k => ([h0, (f11_2 0), (f11_2 1)] : List Nat).getD k 0) rfl rfl (by constructor <;> exact Nat.le_of_ble_eq_true rfl)
def rmLaws : Room := { frames := 2, cells := 2, slots := 1850, locals := 60 }
set_option maxHeartbeats 1000000 in
set_option maxRecDepth 100000 in
theorem i_Laws {l : Launch} {D : va_G} {cI cB cS : ClassId} {r1 r2 : Nat} {h0 : Nat} (sz : Nat) : Nt l D (tyL cI cB cS) yX2_init cX2_init 3 rmLaws (fun _ => True) [.ref h0, .ref r1, .ref r2] [(h0, .inr (1, [.null, .null, .null, .null]))] sz (fun f => f 0 = h0) (wLaws cI cB r1 r2) := by
  refine Nt.of (by decide) (Nat.le_of_ble_eq_true rfl) ?_ sz
  intro p e s m below meth c A X hlocks hr hin hPp
  have X : Cy D A (tyL cI cB cS) p s m [.ref h0, .ref r1, .ref r2].toArray c cX2_init RX2 3 := X
  refine q_sub (L' := [(0, .ref h0), (1, .ref r1), (2, .ref r2)]) [0, 1, 2] rfl ?_
  refine q_aload_n X dX2_init_0 0 rfl rfl ?_
  refine q_objInit X h_208 h_86 h_87 (Nat.le_of_ble_eq_true rfl) (Nat.le_of_ble_eq_true rfl) dX2_init_1 ?_
  refine q_aload_n X dX2_init_4 0 rfl rfl ?_
  refine q_bipush X dX2_init_5 (v := 50) (by decide) ?_
  refine q_newa (atype := .int) (cA := cI) X h_152 rfl 0 rfl (50, .inl z0) (fun _ => rfl) (by decide) (N := 50) (by decide) (by decide) (by constructor <;> exact Nat.le_of_ble_eq_true rfl) dX2_init_7 (fun q7 => ?_)
  refine q_ws (ws' := [(h0, .inr (1, [.null, .null, .null, .null])), (q7, .inl (cI, 50, .inl z0))]) rfl ?_
  refine q_putF (q0 := 0) X dX2_init_9 i_X2 tyX2_ok nmX2 v_X2 rfl 2 (Nat.le_of_ble_eq_true rfl) h_214 rfl rfl hin rfl rfl rfl (Nat.le_of_ble_eq_true rfl) (ws' := [(h0, .inr (1, [.null, .null, .ref q7, .null])), (q7, .inl (cI, 50, .inl z0))]) rfl ?_
  refine q_aload_n X dX2_init_12 0 rfl rfl ?_
  refine q_sipush X dX2_init_13 (v := 1800) (by decide) ?_
  refine q_newa (atype := .byte) (cA := cB) X h_225 rfl 1 rfl (1800, .inl z0) (fun _ => rfl) (by decide) (N := 1800) (by decide) (by decide) (by constructor <;> exact Nat.le_of_ble_eq_true rfl) dX2_init_16 (fun q16 => ?_)
  refine q_ws (ws' := [(h0, .inr (1, [.null, .null, .ref q7, .null])), (q7, .inl (cI, 50, .inl z0)), (q16, .inl (cB, 1800, .inl z0))]) rfl ?_
  refine q_putF (q0 := 0) X dX2_init_18 i_X2 tyX2_ok nmX2 v_X2 rfl 3 (Nat.le_of_ble_eq_true rfl) h_215 rfl rfl hin rfl rfl rfl (Nat.le_of_ble_eq_true rfl) (ws' := [(h0, .inr (1, [.null, .null, .ref q7, .ref q16])), (q7, .inl (cI, 50, .inl z0)), (q16, .inl (cB, 1800, .inl z0))]) rfl ?_
  refine q_aload_n X dX2_init_21 0 rfl rfl ?_
  refine q_aload_n X dX2_init_22 1 rfl rfl ?_
  refine q_putF (q0 := 0) X dX2_init_23 i_X2 tyX2_ok nmX2 v_X2 rfl 0 (Nat.le_of_ble_eq_true rfl) h_212 rfl rfl hin rfl rfl rfl (Nat.le_of_ble_eq_true rfl) (ws' := [(h0, .inr (1, [.ref r1, .null, .ref q7, .ref q16])), (q7, .inl (cI, 50, .inl z0)), (q16, .inl (cB, 1800, .inl z0))]) rfl ?_
  refine q_aload_n X dX2_init_26 0 rfl rfl ?_
  refine q_aload_n X dX2_init_27 2 rfl rfl ?_
  refine q_putF (q0 := 0) X dX2_init_28 i_X2 tyX2_ok nmX2 v_X2 rfl 1 (Nat.le_of_ble_eq_true rfl) h_213 rfl rfl hin rfl rfl rfl (Nat.le_of_ble_eq_true rfl) (ws' := [(h0, .inr (1, [.ref r1, .ref r2, .ref q7, .ref q16])), (q7, .inl (cI, 50, .inl z0)), (q16, .inl (cB, 1800, .inl z0))]) rfl ?_
  refine q_aload_n X dX2_init_31 0 rfl rfl ?_
  refine q_get (q0 := 0) (v := .ref q16) X dX2_init_32 i_X2 v_X2 rfl 3 (Nat.le_of_ble_eq_true rfl) h_215 rfl ?_
  refine q_iconst X dX2_init_35 (v := (-1)) (by decide) ?_
  refine q_callS X [.ref q16, .int (-1)] [] (c_fill (cI := cI) (cS := cS)) dX2_init_36 h_209 h_210 h_73 h_211 nJ7_fill_031fb rfl rfl (Nat.le_of_ble_eq_true rfl) (by constructor <;> exact Nat.le_of_ble_eq_true rfl) (by constructor <;> exact Nat.le_of_ble_eq_true rfl) (fun _ _ _ _ h => h) (fun _ _ => trivial) [2] [0, 1] (by decide) rfl (wr := [(h0, .inr (1, [.ref r1, .ref r2, .ref q7, .ref q16])), (q7, .inl (cI, 50, .inl z0))]) rfl (by decide) (by decide) (fun f hf => ?_)
  subst hf
  refine q_ws (ws' := [(h0, .inr (1, [.ref r1, .ref r2, .ref q7, .ref (f 0)])), (q7, .inl (cI, 50, .inl z0)), ((f 0), .inl (cB, 1800, .inl m1))]) rfl ?_
  exact q_vretI X hlocks hr dX2_init_39 (fun k => ([h0, q7, (f 0)] : List Nat).getD k 0) rfl rfl (by constructor <;> exact Nat.le_of_ble_eq_true rfl)
