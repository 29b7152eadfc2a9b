def rmRow50 : Room := { frames := 1, cells := 1, slots := 50, locals := 20 }
set_option maxHeartbeats 1000000 in
set_option maxRecDepth 100000 in
theorem i_Row50 {l : Launch} {D : va_G} {cI cB cS : ClassId} {h0 : Nat} (sz : Nat) : Nt l D (tyL cI cB cS) yX4_init cX4_init 2 rmRow50 (fun _ => True) [.ref h0, .int 50] [(h0, .inr (3, [.null, .int 0]))] sz (fun f => f 0 = h0) (wRow cI cB 50) := by
  refine Nt.of (by decide) (Nat.le_of_ble_eq_true rfl) ?_ sz
  intro p e s m below meth c A X hlocks hr hin hPp
  have X : Cy D A (tyL cI cB cS) p s m [.ref h0, .int 50].toArray c cX4_init RX4 2 := X
  refine q_sub (L' := [(0, .ref h0), (1, .int 50)]) [0, 1] rfl ?_
  refine q_aload_n X dX4_init_0 0 rfl rfl ?_
  refine q_objInit X h_158 h_86 h_87 (Nat.le_of_ble_eq_true rfl) (Nat.le_of_ble_eq_true rfl) dX4_init_1 ?_
  refine q_aload_n X dX4_init_4 0 rfl rfl ?_
  refine q_iconst X dX4_init_5 (v := 0) (by decide) ?_
  refine q_put (q0 := 0) X dX4_init_6 i_X4 tyX4_ok nmX4 v_X4 rfl 1 (Nat.le_of_ble_eq_true rfl) h_166 rfl rfl rfl rfl (Nat.le_of_ble_eq_true rfl) (ws' := [(h0, .inr (3, [.null, .int 0]))]) rfl ?_
  refine q_aload_n X dX4_init_9 0 rfl rfl ?_
  refine q_iconst X dX4_init_10 (v := 0) (by decide) ?_
  refine q_iload_n X dX4_init_11 1 rfl rfl ?_
  refine q_mmax X dX4_init_12 h_159 h_160 h_71 h_161 (Nat.le_of_ble_eq_true rfl) (Nat.le_of_ble_eq_true rfl) (by constructor <;> exact Nat.le_of_ble_eq_true rfl) (v := 50) (by decide) ?_
  refine q_newa (atype := .int) (cA := cI) X h_152 rfl 0 rfl (50, .inl z0) (fun _ => rfl) (by decide) (N := 50) (by decide) (by decide) (by constructor <;> exact Nat.le_of_ble_eq_true rfl) dX4_init_15 (fun q15 => ?_)
  refine q_ws (ws' := [(h0, .inr (3, [.null, .int 0])), (q15, .inl (cI, 50, .inl z0))]) rfl ?_
  refine q_putF (q0 := 0) X dX4_init_17 i_X4 tyX4_ok nmX4 v_X4 rfl 0 (Nat.le_of_ble_eq_true rfl) h_162 rfl rfl hin rfl rfl rfl (Nat.le_of_ble_eq_true rfl) (ws' := [(h0, .inr (3, [.ref q15, .int 0])), (q15, .inl (cI, 50, .inl z0))]) rfl ?_
  exact q_vretI X hlocks hr dX4_init_20 (fun k => ([h0, q15] : List Nat).getD k 0) rfl rfl (by constructor <;> exact Nat.le_of_ble_eq_true rfl)
def rmRow20 : Room := { frames := 1, cells := 1, slots := 20, locals := 20 }
set_option maxHeartbeats 1000000 in
set_option maxRecDepth 100000 in
theorem i_Row20 {l : Launch} {D : va_G} {cI cB cS : ClassId} {h0 : Nat} (sz : Nat) : Nt l D (tyL cI cB cS) yX4_init cX4_init 2 rmRow20 (fun _ => True) [.ref h0, .int 20] [(h0, .inr (3, [.null, .int 0]))] sz (fun f => f 0 = h0) (wRow cI cB 20) := by
  refine Nt.of (by decide) (Nat.le_of_ble_eq_true rfl) ?_ sz
  intro p e s m below meth c A X hlocks hr hin hPp
  have X : Cy D A (tyL cI cB cS) p s m [.ref h0, .int 20].toArray c cX4_init RX4 2 := X
  refine q_sub (L' := [(0, .ref h0), (1, .int 20)]) [0, 1] rfl ?_
  refine q_aload_n X dX4_init_0 0 rfl rfl ?_
  refine q_objInit X h_158 h_86 h_87 (Nat.le_of_ble_eq_true rfl) (Nat.le_of_ble_eq_true rfl) dX4_init_1 ?_
  refine q_aload_n X dX4_init_4 0 rfl rfl ?_
  refine q_iconst X dX4_init_5 (v := 0) (by decide) ?_
  refine q_put (q0 := 0) X dX4_init_6 i_X4 tyX4_ok nmX4 v_X4 rfl 1 (Nat.le_of_ble_eq_true rfl) h_166 rfl rfl rfl rfl (Nat.le_of_ble_eq_true rfl) (ws' := [(h0, .inr (3, [.null, .int 0]))]) rfl ?_
  refine q_aload_n X dX4_init_9 0 rfl rfl ?_
  refine q_iconst X dX4_init_10 (v := 0) (by decide) ?_
  refine q_iload_n X dX4_init_11 1 rfl rfl ?_
  refine q_mmax X dX4_init_12 h_159 h_160 h_71 h_161 (Nat.le_of_ble_eq_true rfl) (Nat.le_of_ble_eq_true rfl) (by constructor <;> exact Nat.le_of_ble_eq_true rfl) (v := 20) (by decide) ?_
  refine q_newa (atype := .int) (cA := cI) X h_152 rfl 0 rfl (20, .inl z0) (fun _ => rfl) (by decide) (N := 20) (by decide) (by decide) (by constructor <;> exact Nat.le_of_ble_eq_true rfl) dX4_init_15 (fun q15 => ?_)
  refine q_ws (ws' := [(h0, .inr (3, [.null, .int 0])), (q15, .inl (cI, 20, .inl z0))]) rfl ?_
  refine q_putF (q0 := 0) X dX4_init_17 i_X4 tyX4_ok nmX4 v_X4 rfl 0 (Nat.le_of_ble_eq_true rfl) h_162 rfl rfl hin rfl rfl rfl (Nat.le_of_ble_eq_true rfl) (ws' := [(h0, .inr (3, [.ref q15, .int 0])), (q15, .inl (cI, 20, .inl z0))]) rfl ?_
  exact q_vretI X hlocks hr dX4_init_20 (fun k => ([h0, q15] : List Nat).getD k 0) rfl rfl (by constructor <;> exact Nat.le_of_ble_eq_true rfl)
def rmRow40 : Room := { frames := 1, cells := 1, slots := 40, locals := 20 }
set_option maxHeartbeats 1000000 in
set_option maxRecDepth 100000 in
theorem i_Row40 {l : Launch} {D : va_G} {cI cB cS : ClassId} {h0 : Nat} (sz : Nat) : Nt l D (tyL cI cB cS) yX4_init cX4_init 2 rmRow40 (fun _ => True) [.ref h0, .int 40] [(h0, .inr (3, [.null, .int 0]))] sz (fun f => f 0 = h0) (wRow cI cB 40) := by
  refine Nt.of (by decide) (Nat.le_of_ble_eq_true rfl) ?_ sz
  intro p e s m below meth c A X hlocks hr hin hPp
  have X : Cy D A (tyL cI cB cS) p s m [.ref h0, .int 40].toArray c cX4_init RX4 2 := X
  refine q_sub (L' := [(0, .ref h0), (1, .int 40)]) [0, 1] rfl ?_
  refine q_aload_n X dX4_init_0 0 rfl rfl ?_
  refine q_objInit X h_158 h_86 h_87 (Nat.le_of_ble_eq_true rfl) (Nat.le_of_ble_eq_true rfl) dX4_init_1 ?_
  refine q_aload_n X dX4_init_4 0 rfl rfl ?_
  refine q_iconst X dX4_init_5 (v := 0) (by decide) ?_
  refine q_put (q0 := 0) X dX4_init_6 i_X4 tyX4_ok nmX4 v_X4 rfl 1 (Nat.le_of_ble_eq_true rfl) h_166 rfl rfl rfl rfl (Nat.le_of_ble_eq_true rfl) (ws' := [(h0, .inr (3, [.null, .int 0]))]) rfl ?_
  refine q_aload_n X dX4_init_9 0 rfl rfl ?_
  refine q_iconst X dX4_init_10 (v := 0) (by decide) ?_
  refine q_iload_n X dX4_init_11 1 rfl rfl ?_
  refine q_mmax X dX4_init_12 h_159 h_160 h_71 h_161 (Nat.le_of_ble_eq_true rfl) (Nat.le_of_ble_eq_true rfl) (by constructor <;> exact Nat.le_of_ble_eq_true rfl) (v := 40) (by decide) ?_
  refine q_newa (atype := .int) (cA := cI) X h_152 rfl 0 rfl (40, .inl z0) (fun _ => rfl) (by decide) (N := 40) (by decide) (by decide) (by constructor <;> exact Nat.le_of_ble_eq_true rfl) dX4_init_15 (fun q15 => ?_)
  refine q_ws (ws' := [(h0, .inr (3, [.null, .int 0])), (q15, .inl (cI, 40, .inl z0))]) rfl ?_
  refine q_putF (q0 := 0) X dX4_init_17 i_X4 tyX4_ok nmX4 v_X4 rfl 0 (Nat.le_of_ble_eq_true rfl) h_162 rfl rfl hin rfl rfl rfl (Nat.le_of_ble_eq_true rfl) (ws' := [(h0, .inr (3, [.ref q15, .int 0])), (q15, .inl (cI, 40, .inl z0))]) rfl ?_
  exact q_vretI X hlocks hr dX4_init_20 (fun k => ([h0, q15] : List Nat).getD k 0) rfl rfl (by constructor <;> exact Nat.le_of_ble_eq_true rfl)
def rmSheet : Room := { frames := 1, cells := 1, slots := 40, locals := 20 }
set_option maxHeartbeats 1000000 in
set_option maxRecDepth 100000 in
theorem i_Sheet {l : Launch} {D : va_G} {cI cB cS : ClassId} {h0 : Nat} (sz : Nat) : Nt l D (tyL cI cB cS) yX5_init cX5_init 1 rmSheet (fun _ => True) [.ref h0] [(h0, .inr (4, [.null, .int 0, .int 0]))] sz (fun f => f 0 = h0) (wSheet cI cB) := by
  refine Nt.of (by decide) (Nat.le_of_ble_eq_true rfl) ?_ sz
  intro p e s m below meth c A X hlocks hr hin hPp
  have X : Cy D A (tyL cI cB cS) p s m [.ref h0].toArray c cX5_init RX5 1 := X
  refine q_sub (L' := [(0, .ref h0)]) [0] rfl ?_
  refine q_aload_n X dX5_init_0 0 rfl rfl ?_
  refine q_objInit X h_279 h_86 h_87 (Nat.le_of_ble_eq_true rfl) (Nat.le_of_ble_eq_true rfl) dX5_init_1 ?_
  refine q_aload_n X dX5_init_4 0 rfl rfl ?_
  refine q_bipush X dX5_init_5 (v := 40) (by decide) ?_
  refine q_newa (atype := .int) (cA := cI) X h_152 rfl 0 rfl (40, .inl z0) (fun _ => rfl) (by decide) (N := 40) (by decide) (by decide) (by constructor <;> exact Nat.le_of_ble_eq_true rfl) dX5_init_7 (fun q7 => ?_)
  refine q_ws (ws' := [(h0, .inr (4, [.null, .int 0, .int 0])), (q7, .inl (cI, 40, .inl z0))]) rfl ?_
  refine q_putF (q0 := 0) X dX5_init_9 i_X5 tyX5_ok nmX5 v_X5 rfl 0 (Nat.le_of_ble_eq_true rfl) h_280 rfl rfl hin rfl rfl rfl (Nat.le_of_ble_eq_true rfl) (ws' := [(h0, .inr (4, [.ref q7, .int 0, .int 0])), (q7, .inl (cI, 40, .inl z0))]) rfl ?_
  refine q_aload_n X dX5_init_12 0 rfl rfl ?_
  refine q_iconst X dX5_init_13 (v := 0) (by decide) ?_
  refine q_put (q0 := 0) X dX5_init_14 i_X5 tyX5_ok nmX5 v_X5 rfl 1 (Nat.le_of_ble_eq_true rfl) h_282 rfl rfl rfl rfl (Nat.le_of_ble_eq_true rfl) (ws' := [(h0, .inr (4, [.ref q7, .int 0, .int 0])), (q7, .inl (cI, 40, .inl z0))]) rfl ?_
  refine q_aload_n X dX5_init_17 0 rfl rfl ?_
  refine q_iconst X dX5_init_18 (v := 0) (by decide) ?_
  refine q_put (q0 := 0) X dX5_init_19 i_X5 tyX5_ok nmX5 v_X5 rfl 2 (Nat.le_of_ble_eq_true rfl) h_284 rfl rfl rfl rfl (Nat.le_of_ble_eq_true rfl) (ws' := [(h0, .inr (4, [.ref q7, .int 0, .int 0])), (q7, .inl (cI, 40, .inl z0))]) rfl ?_
  exact q_vretI X hlocks hr dX5_init_22 (fun k => ([h0, q7] : List Nat).getD k 0) rfl rfl (by constructor <;> exact Nat.le_of_ble_eq_true rfl)
def hA_1 : Nat → Int32 := upd z0 0 0
def hA_2 : Nat → Int32 := upd z0 0 3
def hA_3 : Nat → Int32 := upd hA_1 1 1
def hA_4 : Nat → Int32 := upd hA_2 1 3
def hA_5 : Nat → Int32 := upd hA_3 2 2
def hA_6 : Nat → Int32 := upd hA_4 2 3
def hA_7 : Nat → Int32 := upd hA_5 3 3
def hA_8 : Nat → Int32 := upd hA_6 3 3
def hA_9 : Nat → Int32 := upd hA_7 4 4
def hA_10 : Nat → Int32 := upd hA_8 4 3
def hA_11 : Nat → Int32 := upd hA_9 5 5
def hA_12 : Nat → Int32 := upd hA_10 5 3
def hA_13 : Nat → Int32 := upd hA_11 6 6
def hA_14 : Nat → Int32 := upd hA_12 6 3
def hA_15 : Nat → Int32 := upd hA_13 7 7
def hA_16 : Nat → Int32 := upd hA_14 7 3
def hA_17 : Nat → Int32 := upd hA_15 8 8
def hA_18 : Nat → Int32 := upd hA_16 8 3
def hA_19 : Nat → Int32 := upd hA_17 9 9
def hA_20 : Nat → Int32 := upd hA_18 9 3
def hA_21 : Nat → Int32 := upd hA_19 10 0
def hA_22 : Nat → Int32 := upd hA_20 10 3
def hA_23 : Nat → Int32 := upd hA_21 11 1
def hA_24 : Nat → Int32 := upd hA_22 11 3
def hA_25 : Nat → Int32 := upd hA_23 12 2
def hA_26 : Nat → Int32 := upd hA_24 12 3
def hA_27 : Nat → Int32 := upd hA_25 13 3
def hA_28 : Nat → Int32 := upd hA_26 13 3
def hA_29 : Nat → Int32 := upd hA_27 14 4
def hA_30 : Nat → Int32 := upd hA_28 14 3
def hA_31 : Nat → Int32 := upd hA_29 15 5
def hA_32 : Nat → Int32 := upd hA_30 15 3
def hA_33 : Nat → Int32 := upd z0 0 0
def hA_34 : Nat → Int32 := upd hA_33 1 1
def hA_35 : Nat → Int32 := upd hA_34 2 2
def hA_36 : Nat → Int32 := upd hA_35 3 3
def hA_37 : Nat → Int32 := upd hA_36 4 4
def hA_38 : Nat → Int32 := upd hA_37 5 5
abbrev hSw : Nat → Int32 := hA_31
abbrev hFt : Nat → Int32 := hA_32
abbrev hSv : Nat → Int32 := hA_38
def wHouse (cI cB : ClassId) (f : Nat → Nat) : va_W := [((f 0), .inr (0, [.ref (f 1), .ref (f 2), .ref (f 3), .ref (f 4), .ref (f 5), .ref (f 6), .ref (f 7), .ref (f 8), .ref (f 9), .int 12, .int 0, .int 0, .int 0])),
  ((f 1), .inl (cI, 16, .inl hSw)),
  ((f 2), .inl (cI, 16, .inl hFt)),
  ((f 3), .inl (cI, 6, .inl hSv)),
  ((f 4), .inl (cI, 8, .inl z0)),
  ((f 5), .inl (cI, 8, .inl z0)),
  ((f 6), .inl (cI, 8, .inl z0)),
  ((f 7), .inl (cI, 8, .inl z0)),
  ((f 8), .inl (cI, 8, .inl z0)),
  ((f 9), .inl (cI, 8, .inl z0))]
def rmHouse : Room := { frames := 1, cells := 9, slots := 86, locals := 20 }
set_option maxHeartbeats 1000000 in
set_option maxRecDepth 100000 in
theorem i_House {l : Launch} {D : va_G} {cI cB cS : ClassId} {h0 : Nat} (sz : Nat) : Nt l D (tyL cI cB cS) yX0_init cX0_init 2 rmHouse (fun _ => True) [.ref h0] [(h0, .inr (0, [.null, .null, .null, .null, .null, .null, .null, .null, .null, .int 0, .int 0, .int 0, .int 0]))] sz (fun f => f 0 = h0) (wHouse cI cB) := by
  refine Nt.of (by decide) (Nat.le_of_ble_eq_true rfl) ?_ sz
  intro p e s m below meth c A X hlocks hr hin hPp
  have X : Cy D A (tyL cI cB cS) p s m [.ref h0].toArray c cX0_init RX0 2 := X
  refine q_sub (L' := [(0, .ref h0)]) [0] rfl ?_
  refine q_aload_n X dX0_init_0 0 rfl rfl ?_
  refine q_objInit X h_99 h_86 h_87 (Nat.le_of_ble_eq_true rfl) (Nat.le_of_ble_eq_true rfl) dX0_init_1 ?_
  refine q_aload_n X dX0_init_4 0 rfl rfl ?_
  refine q_bipush X dX0_init_5 (v := 16) (by decide) ?_
  refine q_newa (atype := .int) (cA := cI) X h_152 rfl 0 rfl (16, .inl z0) (fun _ => rfl) (by decide) (N := 16) (by decide) (by decide) (by constructor <;> exact Nat.le_of_ble_eq_true rfl) dX0_init_7 (fun q7 => ?_)
  refine q_ws (ws' := [(h0, .inr (0, [.null, .null, .null, .null, .null, .null, .null, .null, .null, .int 0, .int 0, .int 0, .int 0])), (q7, .inl (cI, 16, .inl z0))]) rfl ?_
  refine q_putF (q0 := 0) X dX0_init_9 i_X0 tyX0_ok nmX0 v_X0 rfl 0 (Nat.le_of_ble_eq_true rfl) h_100 rfl rfl hin rfl rfl rfl (Nat.le_of_ble_eq_true rfl) (ws' := [(h0, .inr (0, [.ref q7, .null, .null, .null, .null, .null, .null, .null, .null, .int 0, .int 0, .int 0, .int 0])), (q7, .inl (cI, 16, .inl z0))]) rfl ?_
  refine q_aload_n X dX0_init_12 0 rfl rfl ?_
  refine q_bipush X dX0_init_13 (v := 16) (by decide) ?_
  refine q_newa (atype := .int) (cA := cI) X h_152 rfl 0 rfl (16, .inl z0) (fun _ => rfl) (by decide) (N := 16) (by decide) (by decide) (by constructor <;> exact Nat.le_of_ble_eq_true rfl) dX0_init_15 (fun q15 => ?_)
  refine q_ws (ws' := [(h0, .inr (0, [.ref q7, .null, .null, .null, .null, .null, .null, .null, .null, .int 0, .int 0, .int 0, .int 0])), (q7, .inl (cI, 16, .inl z0)), (q15, .inl (cI, 16, .inl z0))]) rfl ?_
  refine q_putF (q0 := 0) X dX0_init_17 i_X0 tyX0_ok nmX0 v_X0 rfl 1 (Nat.le_of_ble_eq_true rfl) h_102 rfl rfl hin rfl rfl rfl (Nat.le_of_ble_eq_true rfl) (ws' := [(h0, .inr (0, [.ref q7, .ref q15, .null, .null, .null, .null, .null, .null, .null, .int 0, .int 0, .int 0, .int 0])), (q7, .inl (cI, 16, .inl z0)), (q15, .inl (cI, 16, .inl z0))]) rfl ?_
  refine q_aload_n X dX0_init_20 0 rfl rfl ?_
  refine q_bipush X dX0_init_21 (v := 6) (by decide) ?_
  refine q_newa (atype := .int) (cA := cI) X h_152 rfl 0 rfl (6, .inl z0) (fun _ => rfl) (by decide) (N := 6) (by decide) (by decide) (by constructor <;> exact Nat.le_of_ble_eq_true rfl) dX0_init_23 (fun q23 => ?_)
  refine q_ws (ws' := [(h0, .inr (0, [.ref q7, .ref q15, .null, .null, .null, .null, .null, .null, .null, .int 0, .int 0, .int 0, .int 0])), (q7, .inl (cI, 16, .inl z0)), (q15, .inl (cI, 16, .inl z0)), (q23, .inl (cI, 6, .inl z0))]) rfl ?_
  refine q_putF (q0 := 0) X dX0_init_25 i_X0 tyX0_ok nmX0 v_X0 rfl 2 (Nat.le_of_ble_eq_true rfl) h_104 rfl rfl hin rfl rfl rfl (Nat.le_of_ble_eq_true rfl) (ws' := [(h0, .inr (0, [.ref q7, .ref q15, .ref q23, .null, .null, .null, .null, .null, .null, .int 0, .int 0, .int 0, .int 0])), (q7, .inl (cI, 16, .inl z0)), (q15, .inl (cI, 16, .inl z0)), (q23, .inl (cI, 6, .inl z0))]) rfl ?_
  refine q_aload_n X dX0_init_28 0 rfl rfl ?_
  refine q_bipush X dX0_init_29 (v := 8) (by decide) ?_
  refine q_newa (atype := .int) (cA := cI) X h_152 rfl 0 rfl (8, .inl z0) (fun _ => rfl) (by decide) (N := 8) (by decide) (by decide) (by constructor <;> exact Nat.le_of_ble_eq_true rfl) dX0_init_31 (fun q31 => ?_)
  refine q_ws (ws' := [(h0, .inr (0, [.ref q7, .ref q15, .ref q23, .null, .null, .null, .null, .null, .null, .int 0, .int 0, .int 0, .int 0])), (q7, .inl (cI, 16, .inl z0)), (q15, .inl (cI, 16, .inl z0)), (q23, .inl (cI, 6, .inl z0)), (q31, .inl (cI, 8, .inl z0))]) rfl ?_
  refine q_putF (q0 := 0) X dX0_init_33 i_X0 tyX0_ok nmX0 v_X0 rfl 3 (Nat.le_of_ble_eq_true rfl) h_106 rfl rfl hin rfl rfl rfl (Nat.le_of_ble_eq_true rfl) (ws' := [(h0, .inr (0, [.ref q7, .ref q15, .ref q23, .ref q31, .null, .null, .null, .null, .null, .int 0, .int 0, .int 0, .int 0])), (q7, .inl (cI, 16, .inl z0)), (q15, .inl (cI, 16, .inl z0)), (q23, .inl (cI, 6, .inl z0)), (q31, .inl (cI, 8, .inl z0))]) rfl ?_
  refine q_aload_n X dX0_init_36 0 rfl rfl ?_
  refine q_bipush X dX0_init_37 (v := 8) (by decide) ?_
  refine q_newa (atype := .int) (cA := cI) X h_152 rfl 0 rfl (8, .inl z0) (fun _ => rfl) (by decide) (N := 8) (by decide) (by decide) (by constructor <;> exact Nat.le_of_ble_eq_true rfl) dX0_init_39 (fun q39 => ?_)
  refine q_ws (ws' := [(h0, .inr (0, [.ref q7, .ref q15, .ref q23, .ref q31, .null, .null, .null, .null, .null, .int 0, .int 0, .int 0, .int 0])), (q7, .inl (cI, 16, .inl z0)), (q15, .inl (cI, 16, .inl z0)), (q23, .inl (cI, 6, .inl z0)), (q31, .inl (cI, 8, .inl z0)), (q39, .inl (cI, 8, .inl z0))]) rfl ?_
  refine q_putF (q0 := 0) X dX0_init_41 i_X0 tyX0_ok nmX0 v_X0 rfl 4 (Nat.le_of_ble_eq_true rfl) h_108 rfl rfl hin rfl rfl rfl (Nat.le_of_ble_eq_true rfl) (ws' := [(h0, .inr (0, [.ref q7, .ref q15, .ref q23, .ref q31, .ref q39, .null, .null, .null, .null, .int 0, .int 0, .int 0, .int 0])), (q7, .inl (cI, 16, .inl z0)), (q15, .inl (cI, 16, .inl z0)), (q23, .inl (cI, 6, .inl z0)), (q31, .inl (cI, 8, .inl z0)), (q39, .inl (cI, 8, .inl z0))]) rfl ?_
  refine q_aload_n X dX0_init_44 0 rfl rfl ?_
  refine q_bipush X dX0_init_45 (v := 8) (by decide) ?_
  refine q_newa (atype := .int) (cA := cI) X h_152 rfl 0 rfl (8, .inl z0) (fun _ => rfl) (by decide) (N := 8) (by decide) (by decide) (by constructor <;> exact Nat.le_of_ble_eq_true rfl) dX0_init_47 (fun q47 => ?_)
  refine q_ws (ws' := [(h0, .inr (0, [.ref q7, .ref q15, .ref q23, .ref q31, .ref q39, .null, .null, .null, .null, .int 0, .int 0, .int 0, .int 0])), (q7, .inl (cI, 16, .inl z0)), (q15, .inl (cI, 16, .inl z0)), (q23, .inl (cI, 6, .inl z0)), (q31, .inl (cI, 8, .inl z0)), (q39, .inl (cI, 8, .inl z0)), (q47, .inl (cI, 8, .inl z0))]) rfl ?_
  refine q_putF (q0 := 0) X dX0_init_49 i_X0 tyX0_ok nmX0 v_X0 rfl 5 (Nat.le_of_ble_eq_true rfl) h_110 rfl rfl hin rfl rfl rfl (Nat.le_of_ble_eq_true rfl) (ws' := [(h0, .inr (0, [.ref q7, .ref q15, .ref q23, .ref q31, .ref q39, .ref q47, .null, .null, .null, .int 0, .int 0, .int 0, .int 0])), (q7, .inl (cI, 16, .inl z0)), (q15, .inl (cI, 16, .inl z0)), (q23, .inl (cI, 6, .inl z0)), (q31, .inl (cI, 8, .inl z0)), (q39, .inl (cI, 8, .inl z0)), (q47, .inl (cI, 8, .inl z0))]) rfl ?_
  refine q_aload_n X dX0_init_52 0 rfl rfl ?_
  refine q_bipush X dX0_init_53 (v := 8) (by decide) ?_
  refine q_newa (atype := .int) (cA := cI) X h_152 rfl 0 rfl (8, .inl z0) (fun _ => rfl) (by decide) (N := 8) (by decide) (by decide) (by constructor <;> exact Nat.le_of_ble_eq_true rfl) dX0_init_55 (fun q55 => ?_)
  refine q_ws (ws' := [(h0, .inr (0, [.ref q7, .ref q15, .ref q23, .ref q31, .ref q39, .ref q47, .null, .null, .null, .int 0, .int 0, .int 0, .int 0])), (q7, .inl (cI, 16, .inl z0)), (q15, .inl (cI, 16, .inl z0)), (q23, .inl (cI, 6, .inl z0)), (q31, .inl (cI, 8, .inl z0)), (q39, .inl (cI, 8, .inl z0)), (q47, .inl (cI, 8, .inl z0)), (q55, .inl (cI, 8, .inl z0))]) rfl ?_
  refine q_putF (q0 := 0) X dX0_init_57 i_X0 tyX0_ok nmX0 v_X0 rfl 6 (Nat.le_of_ble_eq_true rfl) h_112 rfl rfl hin rfl rfl rfl (Nat.le_of_ble_eq_true rfl) (ws' := [(h0, .inr (0, [.ref q7, .ref q15, .ref q23, .ref q31, .ref q39, .ref q47, .ref q55, .null, .null, .int 0, .int 0, .int 0, .int 0])), (q7, .inl (cI, 16, .inl z0)), (q15, .inl (cI, 16, .inl z0)), (q23, .inl (cI, 6, .inl z0)), (q31, .inl (cI, 8, .inl z0)), (q39, .inl (cI, 8, .inl z0)), (q47, .inl (cI, 8, .inl z0)), (q55, .inl (cI, 8, .inl z0))]) rfl ?_
  refine q_aload_n X dX0_init_60 0 rfl rfl ?_
  refine q_bipush X dX0_init_61 (v := 8) (by decide) ?_
  refine q_newa (atype := .int) (cA := cI) X h_152 rfl 0 rfl (8, .inl z0) (fun _ => rfl) (by decide) (N := 8) (by decide) (by decide) (by constructor <;> exact Nat.le_of_ble_eq_true rfl) dX0_init_63 (fun q63 => ?_)
  refine q_ws (ws' := [(h0, .inr (0, [.ref q7, .ref q15, .ref q23, .ref q31, .ref q39, .ref q47, .ref q55, .null, .null, .int 0, .int 0, .int 0, .int 0])), (q7, .inl (cI, 16, .inl z0)), (q15, .inl (cI, 16, .inl z0)), (q23, .inl (cI, 6, .inl z0)), (q31, .inl (cI, 8, .inl z0)), (q39, .inl (cI, 8, .inl z0)), (q47, .inl (cI, 8, .inl z0)), (q55, .inl (cI, 8, .inl z0)), (q63, .inl (cI, 8, .inl z0))]) rfl ?_
  refine q_putF (q0 := 0) X dX0_init_65 i_X0 tyX0_ok nmX0 v_X0 rfl 7 (Nat.le_of_ble_eq_true rfl) h_114 rfl rfl hin rfl rfl rfl (Nat.le_of_ble_eq_true rfl) (ws' := [(h0, .inr (0, [.ref q7, .ref q15, .ref q23, .ref q31, .ref q39, .ref q47, .ref q55, .ref q63, .null, .int 0, .int 0, .int 0, .int 0])), (q7, .inl (cI, 16, .inl z0)), (q15, .inl (cI, 16, .inl z0)), (q23, .inl (cI, 6, .inl z0)), (q31, .inl (cI, 8, .inl z0)), (q39, .inl (cI, 8, .inl z0)), (q47, .inl (cI, 8, .inl z0)), (q55, .inl (cI, 8, .inl z0)), (q63, .inl (cI, 8, .inl z0))]) rfl ?_
  refine q_aload_n X dX0_init_68 0 rfl rfl ?_
  refine q_bipush X dX0_init_69 (v := 8) (by decide) ?_
  refine q_newa (atype := .int) (cA := cI) X h_152 rfl 0 rfl (8, .inl z0) (fun _ => rfl) (by decide) (N := 8) (by decide) (by decide) (by constructor <;> exact Nat.le_of_ble_eq_true rfl) dX0_init_71 (fun q71 => ?_)
  refine q_ws (ws' := [(h0, .inr (0, [.ref q7, .ref q15, .ref q23, .ref q31, .ref q39, .ref q47, .ref q55, .ref q63, .null, .int 0, .int 0, .int 0, .int 0])), (q7, .inl (cI, 16, .inl z0)), (q15, .inl (cI, 16, .inl z0)), (q23, .inl (cI, 6, .inl z0)), (q31, .inl (cI, 8, .inl z0)), (q39, .inl (cI, 8, .inl z0)), (q47, .inl (cI, 8, .inl z0)), (q55, .inl (cI, 8, .inl z0)), (q63, .inl (cI, 8, .inl z0)), (q71, .inl (cI, 8, .inl z0))]) rfl ?_
  refine q_putF (q0 := 0) X dX0_init_73 i_X0 tyX0_ok nmX0 v_X0 rfl 8 (Nat.le_of_ble_eq_true rfl) h_116 rfl rfl hin rfl rfl rfl (Nat.le_of_ble_eq_true rfl) (ws' := [(h0, .inr (0, [.ref q7, .ref q15, .ref q23, .ref q31, .ref q39, .ref q47, .ref q55, .ref q63, .ref q71, .int 0, .int 0, .int 0, .int 0])), (q7, .inl (cI, 16, .inl z0)), (q15, .inl (cI, 16, .inl z0)), (q23, .inl (cI, 6, .inl z0)), (q31, .inl (cI, 8, .inl z0)), (q39, .inl (cI, 8, .inl z0)), (q47, .inl (cI, 8, .inl z0)), (q55, .inl (cI, 8, .inl z0)), (q63, .inl (cI, 8, .inl z0)), (q71, .inl (cI, 8, .inl z0))]) rfl ?_
  refine q_aload_n X dX0_init_76 0 rfl rfl ?_
  refine q_bipush X dX0_init_77 (v := 12) (by decide) ?_
  refine q_put (q0 := 0) X dX0_init_79 i_X0 tyX0_ok nmX0 v_X0 rfl 9 (Nat.le_of_ble_eq_true rfl) h_117 rfl rfl rfl rfl (Nat.le_of_ble_eq_true rfl) (ws' := [(h0, .inr (0, [.ref q7, .ref q15, .ref q23, .ref q31, .ref q39, .ref q47, .ref q55, .ref q63, .ref q71, .int 12, .int 0, .int 0, .int 0])), (q7, .inl (cI, 16, .inl z0)), (q15, .inl (cI, 16, .inl z0)), (q23, .inl (cI, 6, .inl z0)), (q31, .inl (cI, 8, .inl z0)), (q39, .inl (cI, 8, .inl z0)), (q47, .inl (cI, 8, .inl z0)), (q55, .inl (cI, 8, .inl z0)), (q63, .inl (cI, 8, .inl z0)), (q71, .inl (cI, 8, .inl z0))]) rfl ?_
  refine q_aload_n X dX0_init_82 0 rfl rfl ?_
  refine q_iconst X dX0_init_83 (v := 0) (by decide) ?_
  refine q_put (q0 := 0) X dX0_init_84 i_X0 tyX0_ok nmX0 v_X0 rfl 10 (Nat.le_of_ble_eq_true rfl) h_119 rfl rfl rfl rfl (Nat.le_of_ble_eq_true rfl) (ws' := [(h0, .inr (0, [.ref q7, .ref q15, .ref q23, .ref q31, .ref q39, .ref q47, .ref q55, .ref q63, .ref q71, .int 12, .int 0, .int 0, .int 0])), (q7, .inl (cI, 16, .inl z0)), (q15, .inl (cI, 16, .inl z0)), (q23, .inl (cI, 6, .inl z0)), (q31, .inl (cI, 8, .inl z0)), (q39, .inl (cI, 8, .inl z0)), (q47, .inl (cI, 8, .inl z0)), (q55, .inl (cI, 8, .inl z0)), (q63, .inl (cI, 8, .inl z0)), (q71, .inl (cI, 8, .inl z0))]) rfl ?_
  refine q_aload_n X dX0_init_87 0 rfl rfl ?_
  refine q_iconst X dX0_init_88 (v := 0) (by decide) ?_
  refine q_put (q0 := 0) X dX0_init_89 i_X0 tyX0_ok nmX0 v_X0 rfl 11 (Nat.le_of_ble_eq_true rfl) h_121 rfl rfl rfl rfl (Nat.le_of_ble_eq_true rfl) (ws' := [(h0, .inr (0, [.ref q7, .ref q15, .ref q23, .ref q31, .ref q39, .ref q47, .ref q55, .ref q63, .ref q71, .int 12, .int 0, .int 0, .int 0])), (q7, .inl (cI, 16, .inl z0)), (q15, .inl (cI, 16, .inl z0)), (q23, .inl (cI, 6, .inl z0)), (q31, .inl (cI, 8, .inl z0)), (q39, .inl (cI, 8, .inl z0)), (q47, .inl (cI, 8, .inl z0)), (q55, .inl (cI, 8, .inl z0)), (q63, .inl (cI, 8, .inl z0)), (q71, .inl (cI, 8, .inl z0))]) rfl ?_
  refine q_aload_n X dX0_init_92 0 rfl rfl ?_
  refine q_iconst X dX0_init_93 (v := 0) (by decide) ?_
  refine q_put (q0 := 0) X dX0_init_94 i_X0 tyX0_ok nmX0 v_X0 rfl 12 (Nat.le_of_ble_eq_true rfl) h_123 rfl rfl rfl rfl (Nat.le_of_ble_eq_true rfl) (ws' := [(h0, .inr (0, [.ref q7, .ref q15, .ref q23, .ref q31, .ref q39, .ref q47, .ref q55, .ref q63, .ref q71, .int 12, .int 0, .int 0, .int 0])), (q7, .inl (cI, 16, .inl z0)), (q15, .inl (cI, 16, .inl z0)), (q23, .inl (cI, 6, .inl z0)), (q31, .inl (cI, 8, .inl z0)), (q39, .inl (cI, 8, .inl z0)), (q47, .inl (cI, 8, .inl z0)), (q55, .inl (cI, 8, .inl z0)), (q63, .inl (cI, 8, .inl z0)), (q71, .inl (cI, 8, .inl z0))]) rfl ?_
  refine q_iconst X dX0_init_97 (v := 0) (by decide) ?_
  refine q_istore_n (L' := [(0, .ref h0), (1, .int 0)]) X dX0_init_98 [1, 0] rfl rfl (Nat.le_of_ble_eq_true rfl) ?_
  refine q_iload_n X dX0_init_99 1 rfl rfl ?_
  refine q_bipush X dX0_init_100 (v := 16) (by decide) ?_
  refine q_icmp_ge X 128 dX0_init_102 (by decide) (fun h => absurd h (by decide)) (fun _ => ?_)
  refine q_aload_n X dX0_init_105 0 rfl rfl ?_
  refine q_get (q0 := 0) (v := .ref q7) X dX0_init_106 i_X0 v_X0 rfl 0 (Nat.le_of_ble_eq_true rfl) h_100 rfl ?_
  refine q_iload_n X dX0_init_109 1 rfl rfl ?_
  refine q_iload_n X dX0_init_110 1 rfl rfl ?_
  refine q_bipush X dX0_init_111 (v := 10) (by decide) ?_
  refine q_irem X dX0_init_113 (by decide) (v := 0) (by decide) ?_
  refine q_iast (q0 := 1) X 0 dX0_init_114 rfl rfl (by unfold vp_in; decide) (kk := 0) (by decide) (ws' := [(h0, .inr (0, [.ref q7, .ref q15, .ref q23, .ref q31, .ref q39, .ref q47, .ref q55, .ref q63, .ref q71, .int 12, .int 0, .int 0, .int 0])), (q7, .inl (cI, 16, .inl hA_1)), (q15, .inl (cI, 16, .inl z0)), (q23, .inl (cI, 6, .inl z0)), (q31, .inl (cI, 8, .inl z0)), (q39, .inl (cI, 8, .inl z0)), (q47, .inl (cI, 8, .inl z0)), (q55, .inl (cI, 8, .inl z0)), (q63, .inl (cI, 8, .inl z0)), (q71, .inl (cI, 8, .inl z0))]) rfl ?_
  refine q_aload_n X dX0_init_115 0 rfl rfl ?_
  refine q_get (q0 := 0) (v := .ref q15) X dX0_init_116 i_X0 v_X0 rfl 1 (Nat.le_of_ble_eq_true rfl) h_102 rfl ?_
  refine q_iload_n X dX0_init_119 1 rfl rfl ?_
  refine q_iconst X dX0_init_120 (v := 3) (by decide) ?_
  refine q_iast (q0 := 2) X 0 dX0_init_121 rfl rfl (by unfold vp_in; decide) (kk := 0) (by decide) (ws' := [(h0, .inr (0, [.ref q7, .ref q15, .ref q23, .ref q31, .ref q39, .ref q47, .ref q55, .ref q63, .ref q71, .int 12, .int 0, .int 0, .int 0])), (q7, .inl (cI, 16, .inl hA_1)), (q15, .inl (cI, 16, .inl hA_2)), (q23, .inl (cI, 6, .inl z0)), (q31, .inl (cI, 8, .inl z0)), (q39, .inl (cI, 8, .inl z0)), (q47, .inl (cI, 8, .inl z0)), (q55, .inl (cI, 8, .inl z0)), (q63, .inl (cI, 8, .inl z0)), (q71, .inl (cI, 8, .inl z0))]) rfl ?_
  refine q_iinc (L' := [(0, .ref h0), (1, .int 1)]) (v := 1) X dX0_init_122 1 rfl (by decide) [1, 0] rfl (Nat.le_of_ble_eq_true rfl) ?_
  refine q_goto X 99 dX0_init_125 (by decide) ?_
  refine q_iload_n X dX0_init_99 1 rfl rfl ?_
  refine q_bipush X dX0_init_100 (v := 16) (by decide) ?_
  refine q_icmp_ge X 128 dX0_init_102 (by decide) (fun h => absurd h (by decide)) (fun _ => ?_)
  refine q_aload_n X dX0_init_105 0 rfl rfl ?_
  refine q_get (q0 := 0) (v := .ref q7) X dX0_init_106 i_X0 v_X0 rfl 0 (Nat.le_of_ble_eq_true rfl) h_100 rfl ?_
  refine q_iload_n X dX0_init_109 1 rfl rfl ?_
  refine q_iload_n X dX0_init_110 1 rfl rfl ?_
  refine q_bipush X dX0_init_111 (v := 10) (by decide) ?_
  refine q_irem X dX0_init_113 (by decide) (v := 1) (by decide) ?_
  refine q_iast (q0 := 1) X 0 dX0_init_114 rfl rfl (by unfold vp_in; decide) (kk := 1) (by decide) (ws' := [(h0, .inr (0, [.ref q7, .ref q15, .ref q23, .ref q31, .ref q39, .ref q47, .ref q55, .ref q63, .ref q71, .int 12, .int 0, .int 0, .int 0])), (q7, .inl (cI, 16, .inl hA_3)), (q15, .inl (cI, 16, .inl hA_2)), (q23, .inl (cI, 6, .inl z0)), (q31, .inl (cI, 8, .inl z0)), (q39, .inl (cI, 8, .inl z0)), (q47, .inl (cI, 8, .inl z0)), (q55, .inl (cI, 8, .inl z0)), (q63, .inl (cI, 8, .inl z0)), (q71, .inl (cI, 8, .inl z0))]) rfl ?_
  refine q_aload_n X dX0_init_115 0 rfl rfl ?_
  refine q_get (q0 := 0) (v := .ref q15) X dX0_init_116 i_X0 v_X0 rfl 1 (Nat.le_of_ble_eq_true rfl) h_102 rfl ?_
  refine q_iload_n X dX0_init_119 1 rfl rfl ?_
  refine q_iconst X dX0_init_120 (v := 3) (by decide) ?_
  refine q_iast (q0 := 2) X 0 dX0_init_121 rfl rfl (by unfold vp_in; decide) (kk := 1) (by decide) (ws' := [(h0, .inr (0, [.ref q7, .ref q15, .ref q23, .ref q31, .ref q39, .ref q47, .ref q55, .ref q63, .ref q71, .int 12, .int 0, .int 0, .int 0])), (q7, .inl (cI, 16, .inl hA_3)), (q15, .inl (cI, 16, .inl hA_4)), (q23, .inl (cI, 6, .inl z0)), (q31, .inl (cI, 8, .inl z0)), (q39, .inl (cI, 8, .inl z0)), (q47, .inl (cI, 8, .inl z0)), (q55, .inl (cI, 8, .inl z0)), (q63, .inl (cI, 8, .inl z0)), (q71, .inl (cI, 8, .inl z0))]) rfl ?_
  refine q_iinc (L' := [(0, .ref h0), (1, .int 2)]) (v := 2) X dX0_init_122 1 rfl (by decide) [1, 0] rfl (Nat.le_of_ble_eq_true rfl) ?_
  refine q_goto X 99 dX0_init_125 (by decide) ?_
  refine q_iload_n X dX0_init_99 1 rfl rfl ?_
  refine q_bipush X dX0_init_100 (v := 16) (by decide) ?_
  refine q_icmp_ge X 128 dX0_init_102 (by decide) (fun h => absurd h (by decide)) (fun _ => ?_)
  refine q_aload_n X dX0_init_105 0 rfl rfl ?_
  refine q_get (q0 := 0) (v := .ref q7) X dX0_init_106 i_X0 v_X0 rfl 0 (Nat.le_of_ble_eq_true rfl) h_100 rfl ?_
  refine q_iload_n X dX0_init_109 1 rfl rfl ?_
  refine q_iload_n X dX0_init_110 1 rfl rfl ?_
  refine q_bipush X dX0_init_111 (v := 10) (by decide) ?_
  refine q_irem X dX0_init_113 (by decide) (v := 2) (by decide) ?_
  refine q_iast (q0 := 1) X 0 dX0_init_114 rfl rfl (by unfold vp_in; decide) (kk := 2) (by decide) (ws' := [(h0, .inr (0, [.ref q7, .ref q15, .ref q23, .ref q31, .ref q39, .ref q47, .ref q55, .ref q63, .ref q71, .int 12, .int 0, .int 0, .int 0])), (q7, .inl (cI, 16, .inl hA_5)), (q15, .inl (cI, 16, .inl hA_4)), (q23, .inl (cI, 6, .inl z0)), (q31, .inl (cI, 8, .inl z0)), (q39, .inl (cI, 8, .inl z0)), (q47, .inl (cI, 8, .inl z0)), (q55, .inl (cI, 8, .inl z0)), (q63, .inl (cI, 8, .inl z0)), (q71, .inl (cI, 8, .inl z0))]) rfl ?_
  refine q_aload_n X dX0_init_115 0 rfl rfl ?_
  refine q_get (q0 := 0) (v := .ref q15) X dX0_init_116 i_X0 v_X0 rfl 1 (Nat.le_of_ble_eq_true rfl) h_102 rfl ?_
  refine q_iload_n X dX0_init_119 1 rfl rfl ?_
  refine q_iconst X dX0_init_120 (v := 3) (by decide) ?_
  refine q_iast (q0 := 2) X 0 dX0_init_121 rfl rfl (by unfold vp_in; decide) (kk := 2) (by decide) (ws' := [(h0, .inr (0, [.ref q7, .ref q15, .ref q23, .ref q31, .ref q39, .ref q47, .ref q55, .ref q63, .ref q71, .int 12, .int 0, .int 0, .int 0])), (q7, .inl (cI, 16, .inl hA_5)), (q15, .inl (cI, 16, .inl hA_6)), (q23, .inl (cI, 6, .inl z0)), (q31, .inl (cI, 8, .inl z0)), (q39, .inl (cI, 8, .inl z0)), (q47, .inl (cI, 8, .inl z0)), (q55, .inl (cI, 8, .inl z0)), (q63, .inl (cI, 8, .inl z0)), (q71, .inl (cI, 8, .inl z0))]) rfl ?_
  refine q_iinc (L' := [(0, .ref h0), (1, .int 3)]) (v := 3) X dX0_init_122 1 rfl (by decide) [1, 0] rfl (Nat.le_of_ble_eq_true rfl) ?_
  refine q_goto X 99 dX0_init_125 (by decide) ?_
  refine q_iload_n X dX0_init_99 1 rfl rfl ?_
  refine q_bipush X dX0_init_100 (v := 16) (by decide) ?_
  refine q_icmp_ge X 128 dX0_init_102 (by decide) (fun h => absurd h (by decide)) (fun _ => ?_)
  refine q_aload_n X dX0_init_105 0 rfl rfl ?_
  refine q_get (q0 := 0) (v := .ref q7) X dX0_init_106 i_X0 v_X0 rfl 0 (Nat.le_of_ble_eq_true rfl) h_100 rfl ?_
  refine q_iload_n X dX0_init_109 1 rfl rfl ?_
  refine q_iload_n X dX0_init_110 1 rfl rfl ?_
  refine q_bipush X dX0_init_111 (v := 10) (by decide) ?_
  refine q_irem X dX0_init_113 (by decide) (v := 3) (by decide) ?_
  refine q_iast (q0 := 1) X 0 dX0_init_114 rfl rfl (by unfold vp_in; decide) (kk := 3) (by decide) (ws' := [(h0, .inr (0, [.ref q7, .ref q15, .ref q23, .ref q31, .ref q39, .ref q47, .ref q55, .ref q63, .ref q71, .int 12, .int 0, .int 0, .int 0])), (q7, .inl (cI, 16, .inl hA_7)), (q15, .inl (cI, 16, .inl hA_6)), (q23, .inl (cI, 6, .inl z0)), (q31, .inl (cI, 8, .inl z0)), (q39, .inl (cI, 8, .inl z0)), (q47, .inl (cI, 8, .inl z0)), (q55, .inl (cI, 8, .inl z0)), (q63, .inl (cI, 8, .inl z0)), (q71, .inl (cI, 8, .inl z0))]) rfl ?_
  refine q_aload_n X dX0_init_115 0 rfl rfl ?_
  refine q_get (q0 := 0) (v := .ref q15) X dX0_init_116 i_X0 v_X0 rfl 1 (Nat.le_of_ble_eq_true rfl) h_102 rfl ?_
  refine q_iload_n X dX0_init_119 1 rfl rfl ?_
  refine q_iconst X dX0_init_120 (v := 3) (by decide) ?_
  refine q_iast (q0 := 2) X 0 dX0_init_121 rfl rfl (by unfold vp_in; decide) (kk := 3) (by decide) (ws' := [(h0, .inr (0, [.ref q7, .ref q15, .ref q23, .ref q31, .ref q39, .ref q47, .ref q55, .ref q63, .ref q71, .int 12, .int 0, .int 0, .int 0])), (q7, .inl (cI, 16, .inl hA_7)), (q15, .inl (cI, 16, .inl hA_8)), (q23, .inl (cI, 6, .inl z0)), (q31, .inl (cI, 8, .inl z0)), (q39, .inl (cI, 8, .inl z0)), (q47, .inl (cI, 8, .inl z0)), (q55, .inl (cI, 8, .inl z0)), (q63, .inl (cI, 8, .inl z0)), (q71, .inl (cI, 8, .inl z0))]) rfl ?_
  refine q_iinc (L' := [(0, .ref h0), (1, .int 4)]) (v := 4) X dX0_init_122 1 rfl (by decide) [1, 0] rfl (Nat.le_of_ble_eq_true rfl) ?_
  refine q_goto X 99 dX0_init_125 (by decide) ?_
  refine q_iload_n X dX0_init_99 1 rfl rfl ?_
  refine q_bipush X dX0_init_100 (v := 16) (by decide) ?_
  refine q_icmp_ge X 128 dX0_init_102 (by decide) (fun h => absurd h (by decide)) (fun _ => ?_)
  refine q_aload_n X dX0_init_105 0 rfl rfl ?_
  refine q_get (q0 := 0) (v := .ref q7) X dX0_init_106 i_X0 v_X0 rfl 0 (Nat.le_of_ble_eq_true rfl) h_100 rfl ?_
  refine q_iload_n X dX0_init_109 1 rfl rfl ?_
  refine q_iload_n X dX0_init_110 1 rfl rfl ?_
  refine q_bipush X dX0_init_111 (v := 10) (by decide) ?_
  refine q_irem X dX0_init_113 (by decide) (v := 4) (by decide) ?_
  refine q_iast (q0 := 1) X 0 dX0_init_114 rfl rfl (by unfold vp_in; decide) (kk := 4) (by decide) (ws' := [(h0, .inr (0, [.ref q7, .ref q15, .ref q23, .ref q31, .ref q39, .ref q47, .ref q55, .ref q63, .ref q71, .int 12, .int 0, .int 0, .int 0])), (q7, .inl (cI, 16, .inl hA_9)), (q15, .inl (cI, 16, .inl hA_8)), (q23, .inl (cI, 6, .inl z0)), (q31, .inl (cI, 8, .inl z0)), (q39, .inl (cI, 8, .inl z0)), (q47, .inl (cI, 8, .inl z0)), (q55, .inl (cI, 8, .inl z0)), (q63, .inl (cI, 8, .inl z0)), (q71, .inl (cI, 8, .inl z0))]) rfl ?_
  refine q_aload_n X dX0_init_115 0 rfl rfl ?_
  refine q_get (q0 := 0) (v := .ref q15) X dX0_init_116 i_X0 v_X0 rfl 1 (Nat.le_of_ble_eq_true rfl) h_102 rfl ?_
  refine q_iload_n X dX0_init_119 1 rfl rfl ?_
  refine q_iconst X dX0_init_120 (v := 3) (by decide) ?_
  refine q_iast (q0 := 2) X 0 dX0_init_121 rfl rfl (by unfold vp_in; decide) (kk := 4) (by decide) (ws' := [(h0, .inr (0, [.ref q7, .ref q15, .ref q23, .ref q31, .ref q39, .ref q47, .ref q55, .ref q63, .ref q71, .int 12, .int 0, .int 0, .int 0])), (q7, .inl (cI, 16, .inl hA_9)), (q15, .inl (cI, 16, .inl hA_10)), (q23, .inl (cI, 6, .inl z0)), (q31, .inl (cI, 8, .inl z0)), (q39, .inl (cI, 8, .inl z0)), (q47, .inl (cI, 8, .inl z0)), (q55, .inl (cI, 8, .inl z0)), (q63, .inl (cI, 8, .inl z0)), (q71, .inl (cI, 8, .inl z0))]) rfl ?_
  refine q_iinc (L' := [(0, .ref h0), (1, .int 5)]) (v := 5) X dX0_init_122 1 rfl (by decide) [1, 0] rfl (Nat.le_of_ble_eq_true rfl) ?_
  refine q_goto X 99 dX0_init_125 (by decide) ?_
  refine q_iload_n X dX0_init_99 1 rfl rfl ?_
  refine q_bipush X dX0_init_100 (v := 16) (by decide) ?_
  refine q_icmp_ge X 128 dX0_init_102 (by decide) (fun h => absurd h (by decide)) (fun _ => ?_)
  refine q_aload_n X dX0_init_105 0 rfl rfl ?_
  refine q_get (q0 := 0) (v := .ref q7) X dX0_init_106 i_X0 v_X0 rfl 0 (Nat.le_of_ble_eq_true rfl) h_100 rfl ?_
  refine q_iload_n X dX0_init_109 1 rfl rfl ?_
  refine q_iload_n X dX0_init_110 1 rfl rfl ?_
  refine q_bipush X dX0_init_111 (v := 10) (by decide) ?_
  refine q_irem X dX0_init_113 (by decide) (v := 5) (by decide) ?_
  refine q_iast (q0 := 1) X 0 dX0_init_114 rfl rfl (by unfold vp_in; decide) (kk := 5) (by decide) (ws' := [(h0, .inr (0, [.ref q7, .ref q15, .ref q23, .ref q31, .ref q39, .ref q47, .ref q55, .ref q63, .ref q71, .int 12, .int 0, .int 0, .int 0])), (q7, .inl (cI, 16, .inl hA_11)), (q15, .inl (cI, 16, .inl hA_10)), (q23, .inl (cI, 6, .inl z0)), (q31, .inl (cI, 8, .inl z0)), (q39, .inl (cI, 8, .inl z0)), (q47, .inl (cI, 8, .inl z0)), (q55, .inl (cI, 8, .inl z0)), (q63, .inl (cI, 8, .inl z0)), (q71, .inl (cI, 8, .inl z0))]) rfl ?_
  refine q_aload_n X dX0_init_115 0 rfl rfl ?_
  refine q_get (q0 := 0) (v := .ref q15) X dX0_init_116 i_X0 v_X0 rfl 1 (Nat.le_of_ble_eq_true rfl) h_102 rfl ?_
  refine q_iload_n X dX0_init_119 1 rfl rfl ?_
  refine q_iconst X dX0_init_120 (v := 3) (by decide) ?_
  refine q_iast (q0 := 2) X 0 dX0_init_121 rfl rfl (by unfold vp_in; decide) (kk := 5) (by decide) (ws' := [(h0, .inr (0, [.ref q7, .ref q15, .ref q23, .ref q31, .ref q39, .ref q47, .ref q55, .ref q63, .ref q71, .int 12, .int 0, .int 0, .int 0])), (q7, .inl (cI, 16, .inl hA_11)), (q15, .inl (cI, 16, .inl hA_12)), (q23, .inl (cI, 6, .inl z0)), (q31, .inl (cI, 8, .inl z0)), (q39, .inl (cI, 8, .inl z0)), (q47, .inl (cI, 8, .inl z0)), (q55, .inl (cI, 8, .inl z0)), (q63, .inl (cI, 8, .inl z0)), (q71, .inl (cI, 8, .inl z0))]) rfl ?_
  refine q_iinc (L' := [(0, .ref h0), (1, .int 6)]) (v := 6) X dX0_init_122 1 rfl (by decide) [1, 0] rfl (Nat.le_of_ble_eq_true rfl) ?_
  refine q_goto X 99 dX0_init_125 (by decide) ?_
  refine q_iload_n X dX0_init_99 1 rfl rfl ?_
  refine q_bipush X dX0_init_100 (v := 16) (by decide) ?_
  refine q_icmp_ge X 128 dX0_init_102 (by decide) (fun h => absurd h (by decide)) (fun _ => ?_)
  refine q_aload_n X dX0_init_105 0 rfl rfl ?_
  refine q_get (q0 := 0) (v := .ref q7) X dX0_init_106 i_X0 v_X0 rfl 0 (Nat.le_of_ble_eq_true rfl) h_100 rfl ?_
  refine q_iload_n X dX0_init_109 1 rfl rfl ?_
  refine q_iload_n X dX0_init_110 1 rfl rfl ?_
  refine q_bipush X dX0_init_111 (v := 10) (by decide) ?_
  refine q_irem X dX0_init_113 (by decide) (v := 6) (by decide) ?_
  refine q_iast (q0 := 1) X 0 dX0_init_114 rfl rfl (by unfold vp_in; decide) (kk := 6) (by decide) (ws' := [(h0, .inr (0, [.ref q7, .ref q15, .ref q23, .ref q31, .ref q39, .ref q47, .ref q55, .ref q63, .ref q71, .int 12, .int 0, .int 0, .int 0])), (q7, .inl (cI, 16, .inl hA_13)), (q15, .inl (cI, 16, .inl hA_12)), (q23, .inl (cI, 6, .inl z0)), (q31, .inl (cI, 8, .inl z0)), (q39, .inl (cI, 8, .inl z0)), (q47, .inl (cI, 8, .inl z0)), (q55, .inl (cI, 8, .inl z0)), (q63, .inl (cI, 8, .inl z0)), (q71, .inl (cI, 8, .inl z0))]) rfl ?_
  refine q_aload_n X dX0_init_115 0 rfl rfl ?_
  refine q_get (q0 := 0) (v := .ref q15) X dX0_init_116 i_X0 v_X0 rfl 1 (Nat.le_of_ble_eq_true rfl) h_102 rfl ?_
  refine q_iload_n X dX0_init_119 1 rfl rfl ?_
  refine q_iconst X dX0_init_120 (v := 3) (by decide) ?_
  refine q_iast (q0 := 2) X 0 dX0_init_121 rfl rfl (by unfold vp_in; decide) (kk := 6) (by decide) (ws' := [(h0, .inr (0, [.ref q7, .ref q15, .ref q23, .ref q31, .ref q39, .ref q47, .ref q55, .ref q63, .ref q71, .int 12, .int 0, .int 0, .int 0])), (q7, .inl (cI, 16, .inl hA_13)), (q15, .inl (cI, 16, .inl hA_14)), (q23, .inl (cI, 6, .inl z0)), (q31, .inl (cI, 8, .inl z0)), (q39, .inl (cI, 8, .inl z0)), (q47, .inl (cI, 8, .inl z0)), (q55, .inl (cI, 8, .inl z0)), (q63, .inl (cI, 8, .inl z0)), (q71, .inl (cI, 8, .inl z0))]) rfl ?_
  refine q_iinc (L' := [(0, .ref h0), (1, .int 7)]) (v := 7) X dX0_init_122 1 rfl (by decide) [1, 0] rfl (Nat.le_of_ble_eq_true rfl) ?_
  refine q_goto X 99 dX0_init_125 (by decide) ?_
  refine q_iload_n X dX0_init_99 1 rfl rfl ?_
  refine q_bipush X dX0_init_100 (v := 16) (by decide) ?_
  refine q_icmp_ge X 128 dX0_init_102 (by decide) (fun h => absurd h (by decide)) (fun _ => ?_)
  refine q_aload_n X dX0_init_105 0 rfl rfl ?_
  refine q_get (q0 := 0) (v := .ref q7) X dX0_init_106 i_X0 v_X0 rfl 0 (Nat.le_of_ble_eq_true rfl) h_100 rfl ?_
  refine q_iload_n X dX0_init_109 1 rfl rfl ?_
  refine q_iload_n X dX0_init_110 1 rfl rfl ?_
  refine q_bipush X dX0_init_111 (v := 10) (by decide) ?_
  refine q_irem X dX0_init_113 (by decide) (v := 7) (by decide) ?_
  refine q_iast (q0 := 1) X 0 dX0_init_114 rfl rfl (by unfold vp_in; decide) (kk := 7) (by decide) (ws' := [(h0, .inr (0, [.ref q7, .ref q15, .ref q23, .ref q31, .ref q39, .ref q47, .ref q55, .ref q63, .ref q71, .int 12, .int 0, .int 0, .int 0])), (q7, .inl (cI, 16, .inl hA_15)), (q15, .inl (cI, 16, .inl hA_14)), (q23, .inl (cI, 6, .inl z0)), (q31, .inl (cI, 8, .inl z0)), (q39, .inl (cI, 8, .inl z0)), (q47, .inl (cI, 8, .inl z0)), (q55, .inl (cI, 8, .inl z0)), (q63, .inl (cI, 8, .inl z0)), (q71, .inl (cI, 8, .inl z0))]) rfl ?_
  refine q_aload_n X dX0_init_115 0 rfl rfl ?_
  refine q_get (q0 := 0) (v := .ref q15) X dX0_init_116 i_X0 v_X0 rfl 1 (Nat.le_of_ble_eq_true rfl) h_102 rfl ?_
  refine q_iload_n X dX0_init_119 1 rfl rfl ?_
  refine q_iconst X dX0_init_120 (v := 3) (by decide) ?_
  refine q_iast (q0 := 2) X 0 dX0_init_121 rfl rfl (by unfold vp_in; decide) (kk := 7) (by decide) (ws' := [(h0, .inr (0, [.ref q7, .ref q15, .ref q23, .ref q31, .ref q39, .ref q47, .ref q55, .ref q63, .ref q71, .int 12, .int 0, .int 0, .int 0])), (q7, .inl (cI, 16, .inl hA_15)), (q15, .inl (cI, 16, .inl hA_16)), (q23, .inl (cI, 6, .inl z0)), (q31, .inl (cI, 8, .inl z0)), (q39, .inl (cI, 8, .inl z0)), (q47, .inl (cI, 8, .inl z0)), (q55, .inl (cI, 8, .inl z0)), (q63, .inl (cI, 8, .inl z0)), (q71, .inl (cI, 8, .inl z0))]) rfl ?_
  refine q_iinc (L' := [(0, .ref h0), (1, .int 8)]) (v := 8) X dX0_init_122 1 rfl (by decide) [1, 0] rfl (Nat.le_of_ble_eq_true rfl) ?_
  refine q_goto X 99 dX0_init_125 (by decide) ?_
  refine q_iload_n X dX0_init_99 1 rfl rfl ?_
  refine q_bipush X dX0_init_100 (v := 16) (by decide) ?_
  refine q_icmp_ge X 128 dX0_init_102 (by decide) (fun h => absurd h (by decide)) (fun _ => ?_)
  refine q_aload_n X dX0_init_105 0 rfl rfl ?_
  refine q_get (q0 := 0) (v := .ref q7) X dX0_init_106 i_X0 v_X0 rfl 0 (Nat.le_of_ble_eq_true rfl) h_100 rfl ?_
  refine q_iload_n X dX0_init_109 1 rfl rfl ?_
  refine q_iload_n X dX0_init_110 1 rfl rfl ?_
  refine q_bipush X dX0_init_111 (v := 10) (by decide) ?_
  refine q_irem X dX0_init_113 (by decide) (v := 8) (by decide) ?_
  refine q_iast (q0 := 1) X 0 dX0_init_114 rfl rfl (by unfold vp_in; decide) (kk := 8) (by decide) (ws' := [(h0, .inr (0, [.ref q7, .ref q15, .ref q23, .ref q31, .ref q39, .ref q47, .ref q55, .ref q63, .ref q71, .int 12, .int 0, .int 0, .int 0])), (q7, .inl (cI, 16, .inl hA_17)), (q15, .inl (cI, 16, .inl hA_16)), (q23, .inl (cI, 6, .inl z0)), (q31, .inl (cI, 8, .inl z0)), (q39, .inl (cI, 8, .inl z0)), (q47, .inl (cI, 8, .inl z0)), (q55, .inl (cI, 8, .inl z0)), (q63, .inl (cI, 8, .inl z0)), (q71, .inl (cI, 8, .inl z0))]) rfl ?_
  refine q_aload_n X dX0_init_115 0 rfl rfl ?_
  refine q_get (q0 := 0) (v := .ref q15) X dX0_init_116 i_X0 v_X0 rfl 1 (Nat.le_of_ble_eq_true rfl) h_102 rfl ?_
  refine q_iload_n X dX0_init_119 1 rfl rfl ?_
  refine q_iconst X dX0_init_120 (v := 3) (by decide) ?_
  refine q_iast (q0 := 2) X 0 dX0_init_121 rfl rfl (by unfold vp_in; decide) (kk := 8) (by decide) (ws' := [(h0, .inr (0, [.ref q7, .ref q15, .ref q23, .ref q31, .ref q39, .ref q47, .ref q55, .ref q63, .ref q71, .int 12, .int 0, .int 0, .int 0])), (q7, .inl (cI, 16, .inl hA_17)), (q15, .inl (cI, 16, .inl hA_18)), (q23, .inl (cI, 6, .inl z0)), (q31, .inl (cI, 8, .inl z0)), (q39, .inl (cI, 8, .inl z0)), (q47, .inl (cI, 8, .inl z0)), (q55, .inl (cI, 8, .inl z0)), (q63, .inl (cI, 8, .inl z0)), (q71, .inl (cI, 8, .inl z0))]) rfl ?_
  refine q_iinc (L' := [(0, .ref h0), (1, .int 9)]) (v := 9) X dX0_init_122 1 rfl (by decide) [1, 0] rfl (Nat.le_of_ble_eq_true rfl) ?_
  refine q_goto X 99 dX0_init_125 (by decide) ?_
  refine q_iload_n X dX0_init_99 1 rfl rfl ?_
  refine q_bipush X dX0_init_100 (v := 16) (by decide) ?_
  refine q_icmp_ge X 128 dX0_init_102 (by decide) (fun h => absurd h (by decide)) (fun _ => ?_)
  refine q_aload_n X dX0_init_105 0 rfl rfl ?_
  refine q_get (q0 := 0) (v := .ref q7) X dX0_init_106 i_X0 v_X0 rfl 0 (Nat.le_of_ble_eq_true rfl) h_100 rfl ?_
  refine q_iload_n X dX0_init_109 1 rfl rfl ?_
  refine q_iload_n X dX0_init_110 1 rfl rfl ?_
  refine q_bipush X dX0_init_111 (v := 10) (by decide) ?_
  refine q_irem X dX0_init_113 (by decide) (v := 9) (by decide) ?_
  refine q_iast (q0 := 1) X 0 dX0_init_114 rfl rfl (by unfold vp_in; decide) (kk := 9) (by decide) (ws' := [(h0, .inr (0, [.ref q7, .ref q15, .ref q23, .ref q31, .ref q39, .ref q47, .ref q55, .ref q63, .ref q71, .int 12, .int 0, .int 0, .int 0])), (q7, .inl (cI, 16, .inl hA_19)), (q15, .inl (cI, 16, .inl hA_18)), (q23, .inl (cI, 6, .inl z0)), (q31, .inl (cI, 8, .inl z0)), (q39, .inl (cI, 8, .inl z0)), (q47, .inl (cI, 8, .inl z0)), (q55, .inl (cI, 8, .inl z0)), (q63, .inl (cI, 8, .inl z0)), (q71, .inl (cI, 8, .inl z0))]) rfl ?_
  refine q_aload_n X dX0_init_115 0 rfl rfl ?_
  refine q_get (q0 := 0) (v := .ref q15) X dX0_init_116 i_X0 v_X0 rfl 1 (Nat.le_of_ble_eq_true rfl) h_102 rfl ?_
  refine q_iload_n X dX0_init_119 1 rfl rfl ?_
  refine q_iconst X dX0_init_120 (v := 3) (by decide) ?_
  refine q_iast (q0 := 2) X 0 dX0_init_121 rfl rfl (by unfold vp_in; decide) (kk := 9) (by decide) (ws' := [(h0, .inr (0, [.ref q7, .ref q15, .ref q23, .ref q31, .ref q39, .ref q47, .ref q55, .ref q63, .ref q71, .int 12, .int 0, .int 0, .int 0])), (q7, .inl (cI, 16, .inl hA_19)), (q15, .inl (cI, 16, .inl hA_20)), (q23, .inl (cI, 6, .inl z0)), (q31, .inl (cI, 8, .inl z0)), (q39, .inl (cI, 8, .inl z0)), (q47, .inl (cI, 8, .inl z0)), (q55, .inl (cI, 8, .inl z0)), (q63, .inl (cI, 8, .inl z0)), (q71, .inl (cI, 8, .inl z0))]) rfl ?_
  refine q_iinc (L' := [(0, .ref h0), (1, .int 10)]) (v := 10) X dX0_init_122 1 rfl (by decide) [1, 0] rfl (Nat.le_of_ble_eq_true rfl) ?_
  refine q_goto X 99 dX0_init_125 (by decide) ?_
  refine q_iload_n X dX0_init_99 1 rfl rfl ?_
  refine q_bipush X dX0_init_100 (v := 16) (by decide) ?_
  refine q_icmp_ge X 128 dX0_init_102 (by decide) (fun h => absurd h (by decide)) (fun _ => ?_)
  refine q_aload_n X dX0_init_105 0 rfl rfl ?_
  refine q_get (q0 := 0) (v := .ref q7) X dX0_init_106 i_X0 v_X0 rfl 0 (Nat.le_of_ble_eq_true rfl) h_100 rfl ?_
  refine q_iload_n X dX0_init_109 1 rfl rfl ?_
  refine q_iload_n X dX0_init_110 1 rfl rfl ?_
  refine q_bipush X dX0_init_111 (v := 10) (by decide) ?_
  refine q_irem X dX0_init_113 (by decide) (v := 0) (by decide) ?_
  refine q_iast (q0 := 1) X 0 dX0_init_114 rfl rfl (by unfold vp_in; decide) (kk := 10) (by decide) (ws' := [(h0, .inr (0, [.ref q7, .ref q15, .ref q23, .ref q31, .ref q39, .ref q47, .ref q55, .ref q63, .ref q71, .int 12, .int 0, .int 0, .int 0])), (q7, .inl (cI, 16, .inl hA_21)), (q15, .inl (cI, 16, .inl hA_20)), (q23, .inl (cI, 6, .inl z0)), (q31, .inl (cI, 8, .inl z0)), (q39, .inl (cI, 8, .inl z0)), (q47, .inl (cI, 8, .inl z0)), (q55, .inl (cI, 8, .inl z0)), (q63, .inl (cI, 8, .inl z0)), (q71, .inl (cI, 8, .inl z0))]) rfl ?_
  refine q_aload_n X dX0_init_115 0 rfl rfl ?_
  refine q_get (q0 := 0) (v := .ref q15) X dX0_init_116 i_X0 v_X0 rfl 1 (Nat.le_of_ble_eq_true rfl) h_102 rfl ?_
  refine q_iload_n X dX0_init_119 1 rfl rfl ?_
  refine q_iconst X dX0_init_120 (v := 3) (by decide) ?_
  refine q_iast (q0 := 2) X 0 dX0_init_121 rfl rfl (by unfold vp_in; decide) (kk := 10) (by decide) (ws' := [(h0, .inr (0, [.ref q7, .ref q15, .ref q23, .ref q31, .ref q39, .ref q47, .ref q55, .ref q63, .ref q71, .int 12, .int 0, .int 0, .int 0])), (q7, .inl (cI, 16, .inl hA_21)), (q15, .inl (cI, 16, .inl hA_22)), (q23, .inl (cI, 6, .inl z0)), (q31, .inl (cI, 8, .inl z0)), (q39, .inl (cI, 8, .inl z0)), (q47, .inl (cI, 8, .inl z0)), (q55, .inl (cI, 8, .inl z0)), (q63, .inl (cI, 8, .inl z0)), (q71, .inl (cI, 8, .inl z0))]) rfl ?_
  refine q_iinc (L' := [(0, .ref h0), (1, .int 11)]) (v := 11) X dX0_init_122 1 rfl (by decide) [1, 0] rfl (Nat.le_of_ble_eq_true rfl) ?_
  refine q_goto X 99 dX0_init_125 (by decide) ?_
  refine q_iload_n X dX0_init_99 1 rfl rfl ?_
  refine q_bipush X dX0_init_100 (v := 16) (by decide) ?_
  refine q_icmp_ge X 128 dX0_init_102 (by decide) (fun h => absurd h (by decide)) (fun _ => ?_)
  refine q_aload_n X dX0_init_105 0 rfl rfl ?_
  refine q_get (q0 := 0) (v := .ref q7) X dX0_init_106 i_X0 v_X0 rfl 0 (Nat.le_of_ble_eq_true rfl) h_100 rfl ?_
  refine q_iload_n X dX0_init_109 1 rfl rfl ?_
  refine q_iload_n X dX0_init_110 1 rfl rfl ?_
  refine q_bipush X dX0_init_111 (v := 10) (by decide) ?_
  refine q_irem X dX0_init_113 (by decide) (v := 1) (by decide) ?_
  refine q_iast (q0 := 1) X 0 dX0_init_114 rfl rfl (by unfold vp_in; decide) (kk := 11) (by decide) (ws' := [(h0, .inr (0, [.ref q7, .ref q15, .ref q23, .ref q31, .ref q39, .ref q47, .ref q55, .ref q63, .ref q71, .int 12, .int 0, .int 0, .int 0])), (q7, .inl (cI, 16, .inl hA_23)), (q15, .inl (cI, 16, .inl hA_22)), (q23, .inl (cI, 6, .inl z0)), (q31, .inl (cI, 8, .inl z0)), (q39, .inl (cI, 8, .inl z0)), (q47, .inl (cI, 8, .inl z0)), (q55, .inl (cI, 8, .inl z0)), (q63, .inl (cI, 8, .inl z0)), (q71, .inl (cI, 8, .inl z0))]) rfl ?_
  refine q_aload_n X dX0_init_115 0 rfl rfl ?_
  refine q_get (q0 := 0) (v := .ref q15) X dX0_init_116 i_X0 v_X0 rfl 1 (Nat.le_of_ble_eq_true rfl) h_102 rfl ?_
  refine q_iload_n X dX0_init_119 1 rfl rfl ?_
  refine q_iconst X dX0_init_120 (v := 3) (by decide) ?_
  refine q_iast (q0 := 2) X 0 dX0_init_121 rfl rfl (by unfold vp_in; decide) (kk := 11) (by decide) (ws' := [(h0, .inr (0, [.ref q7, .ref q15, .ref q23, .ref q31, .ref q39, .ref q47, .ref q55, .ref q63, .ref q71, .int 12, .int 0, .int 0, .int 0])), (q7, .inl (cI, 16, .inl hA_23)), (q15, .inl (cI, 16, .inl hA_24)), (q23, .inl (cI, 6, .inl z0)), (q31, .inl (cI, 8, .inl z0)), (q39, .inl (cI, 8, .inl z0)), (q47, .inl (cI, 8, .inl z0)), (q55, .inl (cI, 8, .inl z0)), (q63, .inl (cI, 8, .inl z0)), (q71, .inl (cI, 8, .inl z0))]) rfl ?_
  refine q_iinc (L' := [(0, .ref h0), (1, .int 12)]) (v := 12) X dX0_init_122 1 rfl (by decide) [1, 0] rfl (Nat.le_of_ble_eq_true rfl) ?_
  refine q_goto X 99 dX0_init_125 (by decide) ?_
  refine q_iload_n X dX0_init_99 1 rfl rfl ?_
  refine q_bipush X dX0_init_100 (v := 16) (by decide) ?_
  refine q_icmp_ge X 128 dX0_init_102 (by decide) (fun h => absurd h (by decide)) (fun _ => ?_)
  refine q_aload_n X dX0_init_105 0 rfl rfl ?_
  refine q_get (q0 := 0) (v := .ref q7) X dX0_init_106 i_X0 v_X0 rfl 0 (Nat.le_of_ble_eq_true rfl) h_100 rfl ?_
  refine q_iload_n X dX0_init_109 1 rfl rfl ?_
  refine q_iload_n X dX0_init_110 1 rfl rfl ?_
  refine q_bipush X dX0_init_111 (v := 10) (by decide) ?_
  refine q_irem X dX0_init_113 (by decide) (v := 2) (by decide) ?_
  refine q_iast (q0 := 1) X 0 dX0_init_114 rfl rfl (by unfold vp_in; decide) (kk := 12) (by decide) (ws' := [(h0, .inr (0, [.ref q7, .ref q15, .ref q23, .ref q31, .ref q39, .ref q47, .ref q55, .ref q63, .ref q71, .int 12, .int 0, .int 0, .int 0])), (q7, .inl (cI, 16, .inl hA_25)), (q15, .inl (cI, 16, .inl hA_24)), (q23, .inl (cI, 6, .inl z0)), (q31, .inl (cI, 8, .inl z0)), (q39, .inl (cI, 8, .inl z0)), (q47, .inl (cI, 8, .inl z0)), (q55, .inl (cI, 8, .inl z0)), (q63, .inl (cI, 8, .inl z0)), (q71, .inl (cI, 8, .inl z0))]) rfl ?_
  refine q_aload_n X dX0_init_115 0 rfl rfl ?_
  refine q_get (q0 := 0) (v := .ref q15) X dX0_init_116 i_X0 v_X0 rfl 1 (Nat.le_of_ble_eq_true rfl) h_102 rfl ?_
  refine q_iload_n X dX0_init_119 1 rfl rfl ?_
  refine q_iconst X dX0_init_120 (v := 3) (by decide) ?_
  refine q_iast (q0 := 2) X 0 dX0_init_121 rfl rfl (by unfold vp_in; decide) (kk := 12) (by decide) (ws' := [(h0, .inr (0, [.ref q7, .ref q15, .ref q23, .ref q31, .ref q39, .ref q47, .ref q55, .ref q63, .ref q71, .int 12, .int 0, .int 0, .int 0])), (q7, .inl (cI, 16, .inl hA_25)), (q15, .inl (cI, 16, .inl hA_26)), (q23, .inl (cI, 6, .inl z0)), (q31, .inl (cI, 8, .inl z0)), (q39, .inl (cI, 8, .inl z0)), (q47, .inl (cI, 8, .inl z0)), (q55, .inl (cI, 8, .inl z0)), (q63, .inl (cI, 8, .inl z0)), (q71, .inl (cI, 8, .inl z0))]) rfl ?_
  refine q_iinc (L' := [(0, .ref h0), (1, .int 13)]) (v := 13) X dX0_init_122 1 rfl (by decide) [1, 0] rfl (Nat.le_of_ble_eq_true rfl) ?_
  refine q_goto X 99 dX0_init_125 (by decide) ?_
  refine q_iload_n X dX0_init_99 1 rfl rfl ?_
  refine q_bipush X dX0_init_100 (v := 16) (by decide) ?_
  refine q_icmp_ge X 128 dX0_init_102 (by decide) (fun h => absurd h (by decide)) (fun _ => ?_)
  refine q_aload_n X dX0_init_105 0 rfl rfl ?_
  refine q_get (q0 := 0) (v := .ref q7) X dX0_init_106 i_X0 v_X0 rfl 0 (Nat.le_of_ble_eq_true rfl) h_100 rfl ?_
  refine q_iload_n X dX0_init_109 1 rfl rfl ?_
  refine q_iload_n X dX0_init_110 1 rfl rfl ?_
  refine q_bipush X dX0_init_111 (v := 10) (by decide) ?_
  refine q_irem X dX0_init_113 (by decide) (v := 3) (by decide) ?_
  refine q_iast (q0 := 1) X 0 dX0_init_114 rfl rfl (by unfold vp_in; decide) (kk := 13) (by decide) (ws' := [(h0, .inr (0, [.ref q7, .ref q15, .ref q23, .ref q31, .ref q39, .ref q47, .ref q55, .ref q63, .ref q71, .int 12, .int 0, .int 0, .int 0])), (q7, .inl (cI, 16, .inl hA_27)), (q15, .inl (cI, 16, .inl hA_26)), (q23, .inl (cI, 6, .inl z0)), (q31, .inl (cI, 8, .inl z0)), (q39, .inl (cI, 8, .inl z0)), (q47, .inl (cI, 8, .inl z0)), (q55, .inl (cI, 8, .inl z0)), (q63, .inl (cI, 8, .inl z0)), (q71, .inl (cI, 8, .inl z0))]) rfl ?_
  refine q_aload_n X dX0_init_115 0 rfl rfl ?_
  refine q_get (q0 := 0) (v := .ref q15) X dX0_init_116 i_X0 v_X0 rfl 1 (Nat.le_of_ble_eq_true rfl) h_102 rfl ?_
  refine q_iload_n X dX0_init_119 1 rfl rfl ?_
  refine q_iconst X dX0_init_120 (v := 3) (by decide) ?_
  refine q_iast (q0 := 2) X 0 dX0_init_121 rfl rfl (by unfold vp_in; decide) (kk := 13) (by decide) (ws' := [(h0, .inr (0, [.ref q7, .ref q15, .ref q23, .ref q31, .ref q39, .ref q47, .ref q55, .ref q63, .ref q71, .int 12, .int 0, .int 0, .int 0])), (q7, .inl (cI, 16, .inl hA_27)), (q15, .inl (cI, 16, .inl hA_28)), (q23, .inl (cI, 6, .inl z0)), (q31, .inl (cI, 8, .inl z0)), (q39, .inl (cI, 8, .inl z0)), (q47, .inl (cI, 8, .inl z0)), (q55, .inl (cI, 8, .inl z0)), (q63, .inl (cI, 8, .inl z0)), (q71, .inl (cI, 8, .inl z0))]) rfl ?_
  refine q_iinc (L' := [(0, .ref h0), (1, .int 14)]) (v := 14) X dX0_init_122 1 rfl (by decide) [1, 0] rfl (Nat.le_of_ble_eq_true rfl) ?_
  refine q_goto X 99 dX0_init_125 (by decide) ?_
  refine q_iload_n X dX0_init_99 1 rfl rfl ?_
  refine q_bipush X dX0_init_100 (v := 16) (by decide) ?_
  refine q_icmp_ge X 128 dX0_init_102 (by decide) (fun h => absurd h (by decide)) (fun _ => ?_)
  refine q_aload_n X dX0_init_105 0 rfl rfl ?_
  refine q_get (q0 := 0) (v := .ref q7) X dX0_init_106 i_X0 v_X0 rfl 0 (Nat.le_of_ble_eq_true rfl) h_100 rfl ?_
  refine q_iload_n X dX0_init_109 1 rfl rfl ?_
  refine q_iload_n X dX0_init_110 1 rfl rfl ?_
  refine q_bipush X dX0_init_111 (v := 10) (by decide) ?_
  refine q_irem X dX0_init_113 (by decide) (v := 4) (by decide) ?_
  refine q_iast (q0 := 1) X 0 dX0_init_114 rfl rfl (by unfold vp_in; decide) (kk := 14) (by decide) (ws' := [(h0, .inr (0, [.ref q7, .ref q15, .ref q23, .ref q31, .ref q39, .ref q47, .ref q55, .ref q63, .ref q71, .int 12, .int 0, .int 0, .int 0])), (q7, .inl (cI, 16, .inl hA_29)), (q15, .inl (cI, 16, .inl hA_28)), (q23, .inl (cI, 6, .inl z0)), (q31, .inl (cI, 8, .inl z0)), (q39, .inl (cI, 8, .inl z0)), (q47, .inl (cI, 8, .inl z0)), (q55, .inl (cI, 8, .inl z0)), (q63, .inl (cI, 8, .inl z0)), (q71, .inl (cI, 8, .inl z0))]) rfl ?_
  refine q_aload_n X dX0_init_115 0 rfl rfl ?_
  refine q_get (q0 := 0) (v := .ref q15) X dX0_init_116 i_X0 v_X0 rfl 1 (Nat.le_of_ble_eq_true rfl) h_102 rfl ?_
  refine q_iload_n X dX0_init_119 1 rfl rfl ?_
  refine q_iconst X dX0_init_120 (v := 3) (by decide) ?_
  refine q_iast (q0 := 2) X 0 dX0_init_121 rfl rfl (by unfold vp_in; decide) (kk := 14) (by decide) (ws' := [(h0, .inr (0, [.ref q7, .ref q15, .ref q23, .ref q31, .ref q39, .ref q47, .ref q55, .ref q63, .ref q71, .int 12, .int 0, .int 0, .int 0])), (q7, .inl (cI, 16, .inl hA_29)), (q15, .inl (cI, 16, .inl hA_30)), (q23, .inl (cI, 6, .inl z0)), (q31, .inl (cI, 8, .inl z0)), (q39, .inl (cI, 8, .inl z0)), (q47, .inl (cI, 8, .inl z0)), (q55, .inl (cI, 8, .inl z0)), (q63, .inl (cI, 8, .inl z0)), (q71, .inl (cI, 8, .inl z0))]) rfl ?_
  refine q_iinc (L' := [(0, .ref h0), (1, .int 15)]) (v := 15) X dX0_init_122 1 rfl (by decide) [1, 0] rfl (Nat.le_of_ble_eq_true rfl) ?_
  refine q_goto X 99 dX0_init_125 (by decide) ?_
  refine q_iload_n X dX0_init_99 1 rfl rfl ?_
  refine q_bipush X dX0_init_100 (v := 16) (by decide) ?_
  refine q_icmp_ge X 128 dX0_init_102 (by decide) (fun h => absurd h (by decide)) (fun _ => ?_)
  refine q_aload_n X dX0_init_105 0 rfl rfl ?_
  refine q_get (q0 := 0) (v := .ref q7) X dX0_init_106 i_X0 v_X0 rfl 0 (Nat.le_of_ble_eq_true rfl) h_100 rfl ?_
  refine q_iload_n X dX0_init_109 1 rfl rfl ?_
  refine q_iload_n X dX0_init_110 1 rfl rfl ?_
  refine q_bipush X dX0_init_111 (v := 10) (by decide) ?_
  refine q_irem X dX0_init_113 (by decide) (v := 5) (by decide) ?_
  refine q_iast (q0 := 1) X 0 dX0_init_114 rfl rfl (by unfold vp_in; decide) (kk := 15) (by decide) (ws' := [(h0, .inr (0, [.ref q7, .ref q15, .ref q23, .ref q31, .ref q39, .ref q47, .ref q55, .ref q63, .ref q71, .int 12, .int 0, .int 0, .int 0])), (q7, .inl (cI, 16, .inl hA_31)), (q15, .inl (cI, 16, .inl hA_30)), (q23, .inl (cI, 6, .inl z0)), (q31, .inl (cI, 8, .inl z0)), (q39, .inl (cI, 8, .inl z0)), (q47, .inl (cI, 8, .inl z0)), (q55, .inl (cI, 8, .inl z0)), (q63, .inl (cI, 8, .inl z0)), (q71, .inl (cI, 8, .inl z0))]) rfl ?_
  refine q_aload_n X dX0_init_115 0 rfl rfl ?_
  refine q_get (q0 := 0) (v := .ref q15) X dX0_init_116 i_X0 v_X0 rfl 1 (Nat.le_of_ble_eq_true rfl) h_102 rfl ?_
  refine q_iload_n X dX0_init_119 1 rfl rfl ?_
  refine q_iconst X dX0_init_120 (v := 3) (by decide) ?_
  refine q_iast (q0 := 2) X 0 dX0_init_121 rfl rfl (by unfold vp_in; decide) (kk := 15) (by decide) (ws' := [(h0, .inr (0, [.ref q7, .ref q15, .ref q23, .ref q31, .ref q39, .ref q47, .ref q55, .ref q63, .ref q71, .int 12, .int 0, .int 0, .int 0])), (q7, .inl (cI, 16, .inl hA_31)), (q15, .inl (cI, 16, .inl hA_32)), (q23, .inl (cI, 6, .inl z0)), (q31, .inl (cI, 8, .inl z0)), (q39, .inl (cI, 8, .inl z0)), (q47, .inl (cI, 8, .inl z0)), (q55, .inl (cI, 8, .inl z0)), (q63, .inl (cI, 8, .inl z0)), (q71, .inl (cI, 8, .inl z0))]) rfl ?_
  refine q_iinc (L' := [(0, .ref h0), (1, .int 16)]) (v := 16) X dX0_init_122 1 rfl (by decide) [1, 0] rfl (Nat.le_of_ble_eq_true rfl) ?_
  refine q_goto X 99 dX0_init_125 (by decide) ?_
  refine q_iload_n X dX0_init_99 1 rfl rfl ?_
  refine q_bipush X dX0_init_100 (v := 16) (by decide) ?_
  refine q_icmp_ge X 128 dX0_init_102 (by decide) (fun _ => ?_) (fun h => absurd (by decide) h)
  refine q_iconst X dX0_init_128 (v := 0) (by decide) ?_
  refine q_istore_n (L' := [(0, .ref h0), (1, .int 0)]) X dX0_init_129 [1, 0] rfl rfl (Nat.le_of_ble_eq_true rfl) ?_
  refine q_iload_n X dX0_init_130 1 rfl rfl ?_
  refine q_bipush X dX0_init_131 (v := 6) (by decide) ?_
  refine q_icmp_ge X 149 dX0_init_133 (by decide) (fun h => absurd h (by decide)) (fun _ => ?_)
  refine q_aload_n X dX0_init_136 0 rfl rfl ?_
  refine q_get (q0 := 0) (v := .ref q23) X dX0_init_137 i_X0 v_X0 rfl 2 (Nat.le_of_ble_eq_true rfl) h_104 rfl ?_
  refine q_iload_n X dX0_init_140 1 rfl rfl ?_
  refine q_iload_n X dX0_init_141 1 rfl rfl ?_
  refine q_iast (q0 := 3) X 0 dX0_init_142 rfl rfl (by unfold vp_in; decide) (kk := 0) (by decide) (ws' := [(h0, .inr (0, [.ref q7, .ref q15, .ref q23, .ref q31, .ref q39, .ref q47, .ref q55, .ref q63, .ref q71, .int 12, .int 0, .int 0, .int 0])), (q7, .inl (cI, 16, .inl hA_31)), (q15, .inl (cI, 16, .inl hA_32)), (q23, .inl (cI, 6, .inl hA_33)), (q31, .inl (cI, 8, .inl z0)), (q39, .inl (cI, 8, .inl z0)), (q47, .inl (cI, 8, .inl z0)), (q55, .inl (cI, 8, .inl z0)), (q63, .inl (cI, 8, .inl z0)), (q71, .inl (cI, 8, .inl z0))]) rfl ?_
  refine q_iinc (L' := [(0, .ref h0), (1, .int 1)]) (v := 1) X dX0_init_143 1 rfl (by decide) [1, 0] rfl (Nat.le_of_ble_eq_true rfl) ?_
  refine q_goto X 130 dX0_init_146 (by decide) ?_
  refine q_iload_n X dX0_init_130 1 rfl rfl ?_
  refine q_bipush X dX0_init_131 (v := 6) (by decide) ?_
  refine q_icmp_ge X 149 dX0_init_133 (by decide) (fun h => absurd h (by decide)) (fun _ => ?_)
  refine q_aload_n X dX0_init_136 0 rfl rfl ?_
  refine q_get (q0 := 0) (v := .ref q23) X dX0_init_137 i_X0 v_X0 rfl 2 (Nat.le_of_ble_eq_true rfl) h_104 rfl ?_
  refine q_iload_n X dX0_init_140 1 rfl rfl ?_
  refine q_iload_n X dX0_init_141 1 rfl rfl ?_
  refine q_iast (q0 := 3) X 0 dX0_init_142 rfl rfl (by unfold vp_in; decide) (kk := 1) (by decide) (ws' := [(h0, .inr (0, [.ref q7, .ref q15, .ref q23, .ref q31, .ref q39, .ref q47, .ref q55, .ref q63, .ref q71, .int 12, .int 0, .int 0, .int 0])), (q7, .inl (cI, 16, .inl hA_31)), (q15, .inl (cI, 16, .inl hA_32)), (q23, .inl (cI, 6, .inl hA_34)), (q31, .inl (cI, 8, .inl z0)), (q39, .inl (cI, 8, .inl z0)), (q47, .inl (cI, 8, .inl z0)), (q55, .inl (cI, 8, .inl z0)), (q63, .inl (cI, 8, .inl z0)), (q71, .inl (cI, 8, .inl z0))]) rfl ?_
  refine q_iinc (L' := [(0, .ref h0), (1, .int 2)]) (v := 2) X dX0_init_143 1 rfl (by decide) [1, 0] rfl (Nat.le_of_ble_eq_true rfl) ?_
  refine q_goto X 130 dX0_init_146 (by decide) ?_
  refine q_iload_n X dX0_init_130 1 rfl rfl ?_
  refine q_bipush X dX0_init_131 (v := 6) (by decide) ?_
  refine q_icmp_ge X 149 dX0_init_133 (by decide) (fun h => absurd h (by decide)) (fun _ => ?_)
  refine q_aload_n X dX0_init_136 0 rfl rfl ?_
  refine q_get (q0 := 0) (v := .ref q23) X dX0_init_137 i_X0 v_X0 rfl 2 (Nat.le_of_ble_eq_true rfl) h_104 rfl ?_
  refine q_iload_n X dX0_init_140 1 rfl rfl ?_
  refine q_iload_n X dX0_init_141 1 rfl rfl ?_
  refine q_iast (q0 := 3) X 0 dX0_init_142 rfl rfl (by unfold vp_in; decide) (kk := 2) (by decide) (ws' := [(h0, .inr (0, [.ref q7, .ref q15, .ref q23, .ref q31, .ref q39, .ref q47, .ref q55, .ref q63, .ref q71, .int 12, .int 0, .int 0, .int 0])), (q7, .inl (cI, 16, .inl hA_31)), (q15, .inl (cI, 16, .inl hA_32)), (q23, .inl (cI, 6, .inl hA_35)), (q31, .inl (cI, 8, .inl z0)), (q39, .inl (cI, 8, .inl z0)), (q47, .inl (cI, 8, .inl z0)), (q55, .inl (cI, 8, .inl z0)), (q63, .inl (cI, 8, .inl z0)), (q71, .inl (cI, 8, .inl z0))]) rfl ?_
  refine q_iinc (L' := [(0, .ref h0), (1, .int 3)]) (v := 3) X dX0_init_143 1 rfl (by decide) [1, 0] rfl (Nat.le_of_ble_eq_true rfl) ?_
  refine q_goto X 130 dX0_init_146 (by decide) ?_
  refine q_iload_n X dX0_init_130 1 rfl rfl ?_
  refine q_bipush X dX0_init_131 (v := 6) (by decide) ?_
  refine q_icmp_ge X 149 dX0_init_133 (by decide) (fun h => absurd h (by decide)) (fun _ => ?_)
  refine q_aload_n X dX0_init_136 0 rfl rfl ?_
  refine q_get (q0 := 0) (v := .ref q23) X dX0_init_137 i_X0 v_X0 rfl 2 (Nat.le_of_ble_eq_true rfl) h_104 rfl ?_
  refine q_iload_n X dX0_init_140 1 rfl rfl ?_
  refine q_iload_n X dX0_init_141 1 rfl rfl ?_
  refine q_iast (q0 := 3) X 0 dX0_init_142 rfl rfl (by unfold vp_in; decide) (kk := 3) (by decide) (ws' := [(h0, .inr (0, [.ref q7, .ref q15, .ref q23, .ref q31, .ref q39, .ref q47, .ref q55, .ref q63, .ref q71, .int 12, .int 0, .int 0, .int 0])), (q7, .inl (cI, 16, .inl hA_31)), (q15, .inl (cI, 16, .inl hA_32)), (q23, .inl (cI, 6, .inl hA_36)), (q31, .inl (cI, 8, .inl z0)), (q39, .inl (cI, 8, .inl z0)), (q47, .inl (cI, 8, .inl z0)), (q55, .inl (cI, 8, .inl z0)), (q63, .inl (cI, 8, .inl z0)), (q71, .inl (cI, 8, .inl z0))]) rfl ?_
  refine q_iinc (L' := [(0, .ref h0), (1, .int 4)]) (v := 4) X dX0_init_143 1 rfl (by decide) [1, 0] rfl (Nat.le_of_ble_eq_true rfl) ?_
  refine q_goto X 130 dX0_init_146 (by decide) ?_
  refine q_iload_n X dX0_init_130 1 rfl rfl ?_
  refine q_bipush X dX0_init_131 (v := 6) (by decide) ?_
  refine q_icmp_ge X 149 dX0_init_133 (by decide) (fun h => absurd h (by decide)) (fun _ => ?_)
  refine q_aload_n X dX0_init_136 0 rfl rfl ?_
  refine q_get (q0 := 0) (v := .ref q23) X dX0_init_137 i_X0 v_X0 rfl 2 (Nat.le_of_ble_eq_true rfl) h_104 rfl ?_
  refine q_iload_n X dX0_init_140 1 rfl rfl ?_
  refine q_iload_n X dX0_init_141 1 rfl rfl ?_
  refine q_iast (q0 := 3) X 0 dX0_init_142 rfl rfl (by unfold vp_in; decide) (kk := 4) (by decide) (ws' := [(h0, .inr (0, [.ref q7, .ref q15, .ref q23, .ref q31, .ref q39, .ref q47, .ref q55, .ref q63, .ref q71, .int 12, .int 0, .int 0, .int 0])), (q7, .inl (cI, 16, .inl hA_31)), (q15, .inl (cI, 16, .inl hA_32)), (q23, .inl (cI, 6, .inl hA_37)), (q31, .inl (cI, 8, .inl z0)), (q39, .inl (cI, 8, .inl z0)), (q47, .inl (cI, 8, .inl z0)), (q55, .inl (cI, 8, .inl z0)), (q63, .inl (cI, 8, .inl z0)), (q71, .inl (cI, 8, .inl z0))]) rfl ?_
  refine q_iinc (L' := [(0, .ref h0), (1, .int 5)]) (v := 5) X dX0_init_143 1 rfl (by decide) [1, 0] rfl (Nat.le_of_ble_eq_true rfl) ?_
  refine q_goto X 130 dX0_init_146 (by decide) ?_
  refine q_iload_n X dX0_init_130 1 rfl rfl ?_
  refine q_bipush X dX0_init_131 (v := 6) (by decide) ?_
  refine q_icmp_ge X 149 dX0_init_133 (by decide) (fun h => absurd h (by decide)) (fun _ => ?_)
  refine q_aload_n X dX0_init_136 0 rfl rfl ?_
  refine q_get (q0 := 0) (v := .ref q23) X dX0_init_137 i_X0 v_X0 rfl 2 (Nat.le_of_ble_eq_true rfl) h_104 rfl ?_
  refine q_iload_n X dX0_init_140 1 rfl rfl ?_
  refine q_iload_n X dX0_init_141 1 rfl rfl ?_
  refine q_iast (q0 := 3) X 0 dX0_init_142 rfl rfl (by unfold vp_in; decide) (kk := 5) (by decide) (ws' := [(h0, .inr (0, [.ref q7, .ref q15, .ref q23, .ref q31, .ref q39, .ref q47, .ref q55, .ref q63, .ref q71, .int 12, .int 0, .int 0, .int 0])), (q7, .inl (cI, 16, .inl hA_31)), (q15, .inl (cI, 16, .inl hA_32)), (q23, .inl (cI, 6, .inl hA_38)), (q31, .inl (cI, 8, .inl z0)), (q39, .inl (cI, 8, .inl z0)), (q47, .inl (cI, 8, .inl z0)), (q55, .inl (cI, 8, .inl z0)), (q63, .inl (cI, 8, .inl z0)), (q71, .inl (cI, 8, .inl z0))]) rfl ?_
  refine q_iinc (L' := [(0, .ref h0), (1, .int 6)]) (v := 6) X dX0_init_143 1 rfl (by decide) [1, 0] rfl (Nat.le_of_ble_eq_true rfl) ?_
  refine q_goto X 130 dX0_init_146 (by decide) ?_
  refine q_iload_n X dX0_init_130 1 rfl rfl ?_
  refine q_bipush X dX0_init_131 (v := 6) (by decide) ?_
  refine q_icmp_ge X 149 dX0_init_133 (by decide) (fun _ => ?_) (fun h => absurd (by decide) h)
  exact q_vretI X hlocks hr dX0_init_149 (fun k => ([h0, q7, q15, q23, q31, q39, q47, q55, q63, q71] : List Nat).getD k 0) rfl rfl (by constructor <;> exact Nat.le_of_ble_eq_true rfl)
