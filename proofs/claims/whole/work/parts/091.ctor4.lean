def mA_1 : Nat → Int32 := upd z0 1 1
def mA_2 : Nat → Int32 := upd mA_1 3 12
def mA_3 : Nat → Int32 := upd mA_2 7 (-1)
def mA_4 : Nat → Int32 := upd mA_3 8 (-1)
def mA_5 : Nat → Int32 := upd mA_4 9 0
def mA_6 : Nat → Int32 := upd mA_5 10 3
def mA_7 : Nat → Int32 := upd mA_6 11 1
def mA_8 : Nat → Int32 := upd mA_7 12 3
def mA_9 : Nat → Int32 := upd mA_8 13 2
def mA_10 : Nat → Int32 := upd mA_9 14 3
def mA_11 : Nat → Int32 := upd mA_10 15 3
def mA_12 : Nat → Int32 := upd mA_11 16 3
def mA_13 : Nat → Int32 := upd mA_12 17 4
def mA_14 : Nat → Int32 := upd mA_13 18 3
def mA_15 : Nat → Int32 := upd mA_14 19 5
def mA_16 : Nat → Int32 := upd mA_15 20 3
def mA_17 : Nat → Int32 := upd mA_16 21 6
def mA_18 : Nat → Int32 := upd mA_17 22 3
def mA_19 : Nat → Int32 := upd mA_18 23 7
def mA_20 : Nat → Int32 := upd mA_19 24 3
def mA_21 : Nat → Int32 := upd mA_20 25 8
def mA_22 : Nat → Int32 := upd mA_21 26 3
def mA_23 : Nat → Int32 := upd mA_22 27 9
def mA_24 : Nat → Int32 := upd mA_23 28 3
def mA_25 : Nat → Int32 := upd mA_24 29 0
def mA_26 : Nat → Int32 := upd mA_25 30 3
def mA_27 : Nat → Int32 := upd mA_26 31 1
def mA_28 : Nat → Int32 := upd mA_27 32 3
def mA_29 : Nat → Int32 := upd mA_28 33 2
def mA_30 : Nat → Int32 := upd mA_29 34 3
def mA_31 : Nat → Int32 := upd mA_30 35 3
def mA_32 : Nat → Int32 := upd mA_31 36 3
def mA_33 : Nat → Int32 := upd mA_32 37 4
def mA_34 : Nat → Int32 := upd mA_33 38 3
def mA_35 : Nat → Int32 := upd mA_34 39 5
def mA_36 : Nat → Int32 := upd mA_35 40 3
def mA_37 : Nat → Int32 := upd mA_36 41 0
def mA_38 : Nat → Int32 := upd mA_37 42 1
def mA_39 : Nat → Int32 := upd mA_38 43 2
def mA_40 : Nat → Int32 := upd mA_39 44 3
def mA_41 : Nat → Int32 := upd mA_40 45 4
def mA_42 : Nat → Int32 := upd mA_41 46 5
abbrev mRow : Nat → Int32 := mA_42
def s0M : St := fun k => ([z0, mRow, z0, z0, z0, z0, m2, z0, z0, z0, z0, z0, z0, z0] : List (Nat → Int32)).getD k z0
def wModel (cI : ClassId) (f : Nat → Nat) : va_W := [((f 0), .inr (8, [.ref (f 1), .ref (f 2), .ref (f 3), .ref (f 4), .int 0, .int 0, .ref (f 5), .int 0, .int 0, .int 0, .int 0, .int 0, .int 0, .int 0, .int 0, .ref (f 6), .int 0, .ref (f 7), .ref (f 8), .ref (f 9), .ref (f 10), .ref (f 11), .ref (f 12), .ref (f 13), .int 0, .int 0, .int 0, .int 0])),
  ((f 1), .inl (cI, 257, .inl mRow)),
  ((f 2), .inl (cI, 257, .inl z0)),
  ((f 3), .inl (cI, 257, .inl z0)),
  ((f 4), .inl (cI, 257, .inl z0)),
  ((f 5), .inl (cI, 6, .inl z0)),
  ((f 6), .inl (cI, 2000, .inl m2)),
  ((f 7), .inl (cI, 4, .inl z0)),
  ((f 8), .inl (cI, 4, .inl z0)),
  ((f 9), .inl (cI, 160, .inl z0)),
  ((f 10), .inl (cI, 40, .inl z0)),
  ((f 11), .inl (cI, 41, .inl z0)),
  ((f 12), .inl (cI, 10, .inl z0)),
  ((f 13), .inl (cI, 40, .inl z0))]
set_option maxHeartbeats 1000000 in
set_option maxRecDepth 100000 in
theorem wModel_eq (D : va_G) (cI cB cS : ClassId) (sA : Nat × Nat) (f : Nat → Nat) : wModel cI f = wws (D, f, (cI, cB, cS), sA) layM s0M := by
  rw [wws_F]
  rfl
def rmModel : Room := { frames := 2, cells := 13, slots := 3333, locals := 60 }
set_option maxHeartbeats 1000000 in
set_option maxRecDepth 100000 in
theorem i_Model {l : Launch} {D : va_G} {cI cB cS : ClassId} {h0 : Nat} (sz : Nat) : Nt l D (tyL cI cB cS) yX9_init cX9_init 2 rmModel (fun _ => True) [.ref h0] [(h0, .inr (8, [.null, .null, .null, .null, .int 0, .int 0, .null, .int 0, .int 0, .int 0, .int 0, .int 0, .int 0, .int 0, .int 0, .null, .int 0, .null, .null, .null, .null, .null, .null, .null, .int 0, .int 0, .int 0, .int 0]))] sz (fun f => f 0 = h0) (wModel cI) := by
  refine Nt.of (by decide) (Nat.le_of_ble_eq_true rfl) ?_ sz
  intro p e s m below meth c A X hlocks hr hin hPp
  have X : Cy D A (tyL cI cB cS) p s m [.ref h0].toArray c cX9_init RX9 2 := X
  refine q_sub (L' := [(0, .ref h0)]) [0] rfl ?_
  refine q_aload_n X dX9_init_0 0 rfl rfl ?_
  refine q_objInit X h_769 h_86 h_87 (Nat.le_of_ble_eq_true rfl) (Nat.le_of_ble_eq_true rfl) dX9_init_1 ?_
  refine q_aload_n X dX9_init_4 0 rfl rfl ?_
  refine q_sipush X dX9_init_5 (v := 257) (by decide) ?_
  refine q_newa (atype := .int) (cA := cI) X h_152 rfl 0 rfl (257, .inl z0) (fun _ => rfl) (by decide) (N := 257) (by decide) (by decide) (by constructor <;> exact Nat.le_of_ble_eq_true rfl) dX9_init_8 (fun q8 => ?_)
  refine q_ws (ws' := [(h0, .inr (8, [.null, .null, .null, .null, .int 0, .int 0, .null, .int 0, .int 0, .int 0, .int 0, .int 0, .int 0, .int 0, .int 0, .null, .int 0, .null, .null, .null, .null, .null, .null, .null, .int 0, .int 0, .int 0, .int 0])), (q8, .inl (cI, 257, .inl z0))]) rfl ?_
  refine q_putF (q0 := 0) X dX9_init_10 i_X9 tyX9_ok nmX9 v_X9 rfl 0 (Nat.le_of_ble_eq_true rfl) h_774 rfl rfl hin rfl rfl rfl (Nat.le_of_ble_eq_true rfl) (ws' := [(h0, .inr (8, [.ref q8, .null, .null, .null, .int 0, .int 0, .null, .int 0, .int 0, .int 0, .int 0, .int 0, .int 0, .int 0, .int 0, .null, .int 0, .null, .null, .null, .null, .null, .null, .null, .int 0, .int 0, .int 0, .int 0])), (q8, .inl (cI, 257, .inl z0))]) rfl ?_
  refine q_aload_n X dX9_init_13 0 rfl rfl ?_
  refine q_sipush X dX9_init_14 (v := 257) (by decide) ?_
  refine q_newa (atype := .int) (cA := cI) X h_152 rfl 0 rfl (257, .inl z0) (fun _ => rfl) (by decide) (N := 257) (by decide) (by decide) (by constructor <;> exact Nat.le_of_ble_eq_true rfl) dX9_init_17 (fun q17 => ?_)
  refine q_ws (ws' := [(h0, .inr (8, [.ref q8, .null, .null, .null, .int 0, .int 0, .null, .int 0, .int 0, .int 0, .int 0, .int 0, .int 0, .int 0, .int 0, .null, .int 0, .null, .null, .null, .null, .null, .null, .null, .int 0, .int 0, .int 0, .int 0])), (q8, .inl (cI, 257, .inl z0)), (q17, .inl (cI, 257, .inl z0))]) rfl ?_
  refine q_putF (q0 := 0) X dX9_init_19 i_X9 tyX9_ok nmX9 v_X9 rfl 1 (Nat.le_of_ble_eq_true rfl) h_775 rfl rfl hin rfl rfl rfl (Nat.le_of_ble_eq_true rfl) (ws' := [(h0, .inr (8, [.ref q8, .ref q17, .null, .null, .int 0, .int 0, .null, .int 0, .int 0, .int 0, .int 0, .int 0, .int 0, .int 0, .int 0, .null, .int 0, .null, .null, .null, .null, .null, .null, .null, .int 0, .int 0, .int 0, .int 0])), (q8, .inl (cI, 257, .inl z0)), (q17, .inl (cI, 257, .inl z0))]) rfl ?_
  refine q_aload_n X dX9_init_22 0 rfl rfl ?_
  refine q_sipush X dX9_init_23 (v := 257) (by decide) ?_
  refine q_newa (atype := .int) (cA := cI) X h_152 rfl 0 rfl (257, .inl z0) (fun _ => rfl) (by decide) (N := 257) (by decide) (by decide) (by constructor <;> exact Nat.le_of_ble_eq_true rfl) dX9_init_26 (fun q26 => ?_)
  refine q_ws (ws' := [(h0, .inr (8, [.ref q8, .ref q17, .null, .null, .int 0, .int 0, .null, .int 0, .int 0, .int 0, .int 0, .int 0, .int 0, .int 0, .int 0, .null, .int 0, .null, .null, .null, .null, .null, .null, .null, .int 0, .int 0, .int 0, .int 0])), (q8, .inl (cI, 257, .inl z0)), (q17, .inl (cI, 257, .inl z0)), (q26, .inl (cI, 257, .inl z0))]) rfl ?_
  refine q_putF (q0 := 0) X dX9_init_28 i_X9 tyX9_ok nmX9 v_X9 rfl 2 (Nat.le_of_ble_eq_true rfl) h_776 rfl rfl hin rfl rfl rfl (Nat.le_of_ble_eq_true rfl) (ws' := [(h0, .inr (8, [.ref q8, .ref q17, .ref q26, .null, .int 0, .int 0, .null, .int 0, .int 0, .int 0, .int 0, .int 0, .int 0, .int 0, .int 0, .null, .int 0, .null, .null, .null, .null, .null, .null, .null, .int 0, .int 0, .int 0, .int 0])), (q8, .inl (cI, 257, .inl z0)), (q17, .inl (cI, 257, .inl z0)), (q26, .inl (cI, 257, .inl z0))]) rfl ?_
  refine q_aload_n X dX9_init_31 0 rfl rfl ?_
  refine q_sipush X dX9_init_32 (v := 257) (by decide) ?_
  refine q_newa (atype := .int) (cA := cI) X h_152 rfl 0 rfl (257, .inl z0) (fun _ => rfl) (by decide) (N := 257) (by decide) (by decide) (by constructor <;> exact Nat.le_of_ble_eq_true rfl) dX9_init_35 (fun q35 => ?_)
  refine q_ws (ws' := [(h0, .inr (8, [.ref q8, .ref q17, .ref q26, .null, .int 0, .int 0, .null, .int 0, .int 0, .int 0, .int 0, .int 0, .int 0, .int 0, .int 0, .null, .int 0, .null, .null, .null, .null, .null, .null, .null, .int 0, .int 0, .int 0, .int 0])), (q8, .inl (cI, 257, .inl z0)), (q17, .inl (cI, 257, .inl z0)), (q26, .inl (cI, 257, .inl z0)), (q35, .inl (cI, 257, .inl z0))]) rfl ?_
  refine q_putF (q0 := 0) X dX9_init_37 i_X9 tyX9_ok nmX9 v_X9 rfl 3 (Nat.le_of_ble_eq_true rfl) h_777 rfl rfl hin rfl rfl rfl (Nat.le_of_ble_eq_true rfl) (ws' := [(h0, .inr (8, [.ref q8, .ref q17, .ref q26, .ref q35, .int 0, .int 0, .null, .int 0, .int 0, .int 0, .int 0, .int 0, .int 0, .int 0, .int 0, .null, .int 0, .null, .null, .null, .null, .null, .null, .null, .int 0, .int 0, .int 0, .int 0])), (q8, .inl (cI, 257, .inl z0)), (q17, .inl (cI, 257, .inl z0)), (q26, .inl (cI, 257, .inl z0)), (q35, .inl (cI, 257, .inl z0))]) rfl ?_
  refine q_aload_n X dX9_init_40 0 rfl rfl ?_
  refine q_bipush X dX9_init_41 (v := 6) (by decide) ?_
  refine q_newa (atype := .int) (cA := cI) X h_152 rfl 0 rfl (6, .inl z0) (fun _ => rfl) (by decide) (N := 6) (by decide) (by decide) (by constructor <;> exact Nat.le_of_ble_eq_true rfl) dX9_init_43 (fun q43 => ?_)
  refine q_ws (ws' := [(h0, .inr (8, [.ref q8, .ref q17, .ref q26, .ref q35, .int 0, .int 0, .null, .int 0, .int 0, .int 0, .int 0, .int 0, .int 0, .int 0, .int 0, .null, .int 0, .null, .null, .null, .null, .null, .null, .null, .int 0, .int 0, .int 0, .int 0])), (q8, .inl (cI, 257, .inl z0)), (q17, .inl (cI, 257, .inl z0)), (q26, .inl (cI, 257, .inl z0)), (q35, .inl (cI, 257, .inl z0)), (q43, .inl (cI, 6, .inl z0))]) rfl ?_
  refine q_putF (q0 := 0) X dX9_init_45 i_X9 tyX9_ok nmX9 v_X9 rfl 6 (Nat.le_of_ble_eq_true rfl) h_780 rfl rfl hin rfl rfl rfl (Nat.le_of_ble_eq_true rfl) (ws' := [(h0, .inr (8, [.ref q8, .ref q17, .ref q26, .ref q35, .int 0, .int 0, .ref q43, .int 0, .int 0, .int 0, .int 0, .int 0, .int 0, .int 0, .int 0, .null, .int 0, .null, .null, .null, .null, .null, .null, .null, .int 0, .int 0, .int 0, .int 0])), (q8, .inl (cI, 257, .inl z0)), (q17, .inl (cI, 257, .inl z0)), (q26, .inl (cI, 257, .inl z0)), (q35, .inl (cI, 257, .inl z0)), (q43, .inl (cI, 6, .inl z0))]) rfl ?_
  refine q_aload_n X dX9_init_48 0 rfl rfl ?_
  refine q_sipush X dX9_init_49 (v := 2000) (by decide) ?_
  refine q_newa (atype := .int) (cA := cI) X h_152 rfl 0 rfl (2000, .inl z0) (fun _ => rfl) (by decide) (N := 2000) (by decide) (by decide) (by constructor <;> exact Nat.le_of_ble_eq_true rfl) dX9_init_52 (fun q52 => ?_)
  refine q_ws (ws' := [(h0, .inr (8, [.ref q8, .ref q17, .ref q26, .ref q35, .int 0, .int 0, .ref q43, .int 0, .int 0, .int 0, .int 0, .int 0, .int 0, .int 0, .int 0, .null, .int 0, .null, .null, .null, .null, .null, .null, .null, .int 0, .int 0, .int 0, .int 0])), (q8, .inl (cI, 257, .inl z0)), (q17, .inl (cI, 257, .inl z0)), (q26, .inl (cI, 257, .inl z0)), (q35, .inl (cI, 257, .inl z0)), (q43, .inl (cI, 6, .inl z0)), (q52, .inl (cI, 2000, .inl z0))]) rfl ?_
  refine q_putF (q0 := 0) X dX9_init_54 i_X9 tyX9_ok nmX9 v_X9 rfl 15 (Nat.le_of_ble_eq_true rfl) h_789 rfl rfl hin rfl rfl rfl (Nat.le_of_ble_eq_true rfl) (ws' := [(h0, .inr (8, [.ref q8, .ref q17, .ref q26, .ref q35, .int 0, .int 0, .ref q43, .int 0, .int 0, .int 0, .int 0, .int 0, .int 0, .int 0, .int 0, .ref q52, .int 0, .null, .null, .null, .null, .null, .null, .null, .int 0, .int 0, .int 0, .int 0])), (q8, .inl (cI, 257, .inl z0)), (q17, .inl (cI, 257, .inl z0)), (q26, .inl (cI, 257, .inl z0)), (q35, .inl (cI, 257, .inl z0)), (q43, .inl (cI, 6, .inl z0)), (q52, .inl (cI, 2000, .inl z0))]) rfl ?_
  refine q_aload_n X dX9_init_57 0 rfl rfl ?_
  refine q_iconst X dX9_init_58 (v := 4) (by decide) ?_
  refine q_newa (atype := .int) (cA := cI) X h_152 rfl 0 rfl (4, .inl z0) (fun _ => rfl) (by decide) (N := 4) (by decide) (by decide) (by constructor <;> exact Nat.le_of_ble_eq_true rfl) dX9_init_59 (fun q59 => ?_)
  refine q_ws (ws' := [(h0, .inr (8, [.ref q8, .ref q17, .ref q26, .ref q35, .int 0, .int 0, .ref q43, .int 0, .int 0, .int 0, .int 0, .int 0, .int 0, .int 0, .int 0, .ref q52, .int 0, .null, .null, .null, .null, .null, .null, .null, .int 0, .int 0, .int 0, .int 0])), (q8, .inl (cI, 257, .inl z0)), (q17, .inl (cI, 257, .inl z0)), (q26, .inl (cI, 257, .inl z0)), (q35, .inl (cI, 257, .inl z0)), (q43, .inl (cI, 6, .inl z0)), (q52, .inl (cI, 2000, .inl z0)), (q59, .inl (cI, 4, .inl z0))]) rfl ?_
  refine q_putF (q0 := 0) X dX9_init_61 i_X9 tyX9_ok nmX9 v_X9 rfl 17 (Nat.le_of_ble_eq_true rfl) h_791 rfl rfl hin rfl rfl rfl (Nat.le_of_ble_eq_true rfl) (ws' := [(h0, .inr (8, [.ref q8, .ref q17, .ref q26, .ref q35, .int 0, .int 0, .ref q43, .int 0, .int 0, .int 0, .int 0, .int 0, .int 0, .int 0, .int 0, .ref q52, .int 0, .ref q59, .null, .null, .null, .null, .null, .null, .int 0, .int 0, .int 0, .int 0])), (q8, .inl (cI, 257, .inl z0)), (q17, .inl (cI, 257, .inl z0)), (q26, .inl (cI, 257, .inl z0)), (q35, .inl (cI, 257, .inl z0)), (q43, .inl (cI, 6, .inl z0)), (q52, .inl (cI, 2000, .inl z0)), (q59, .inl (cI, 4, .inl z0))]) rfl ?_
  refine q_aload_n X dX9_init_64 0 rfl rfl ?_
  refine q_iconst X dX9_init_65 (v := 4) (by decide) ?_
  refine q_newa (atype := .int) (cA := cI) X h_152 rfl 0 rfl (4, .inl z0) (fun _ => rfl) (by decide) (N := 4) (by decide) (by decide) (by constructor <;> exact Nat.le_of_ble_eq_true rfl) dX9_init_66 (fun q66 => ?_)
  refine q_ws (ws' := [(h0, .inr (8, [.ref q8, .ref q17, .ref q26, .ref q35, .int 0, .int 0, .ref q43, .int 0, .int 0, .int 0, .int 0, .int 0, .int 0, .int 0, .int 0, .ref q52, .int 0, .ref q59, .null, .null, .null, .null, .null, .null, .int 0, .int 0, .int 0, .int 0])), (q8, .inl (cI, 257, .inl z0)), (q17, .inl (cI, 257, .inl z0)), (q26, .inl (cI, 257, .inl z0)), (q35, .inl (cI, 257, .inl z0)), (q43, .inl (cI, 6, .inl z0)), (q52, .inl (cI, 2000, .inl z0)), (q59, .inl (cI, 4, .inl z0)), (q66, .inl (cI, 4, .inl z0))]) rfl ?_
  refine q_putF (q0 := 0) X dX9_init_68 i_X9 tyX9_ok nmX9 v_X9 rfl 18 (Nat.le_of_ble_eq_true rfl) h_792 rfl rfl hin rfl rfl rfl (Nat.le_of_ble_eq_true rfl) (ws' := [(h0, .inr (8, [.ref q8, .ref q17, .ref q26, .ref q35, .int 0, .int 0, .ref q43, .int 0, .int 0, .int 0, .int 0, .int 0, .int 0, .int 0, .int 0, .ref q52, .int 0, .ref q59, .ref q66, .null, .null, .null, .null, .null, .int 0, .int 0, .int 0, .int 0])), (q8, .inl (cI, 257, .inl z0)), (q17, .inl (cI, 257, .inl z0)), (q26, .inl (cI, 257, .inl z0)), (q35, .inl (cI, 257, .inl z0)), (q43, .inl (cI, 6, .inl z0)), (q52, .inl (cI, 2000, .inl z0)), (q59, .inl (cI, 4, .inl z0)), (q66, .inl (cI, 4, .inl z0))]) rfl ?_
  refine q_aload_n X dX9_init_71 0 rfl rfl ?_
  refine q_sipush X dX9_init_72 (v := 160) (by decide) ?_
  refine q_newa (atype := .int) (cA := cI) X h_152 rfl 0 rfl (160, .inl z0) (fun _ => rfl) (by decide) (N := 160) (by decide) (by decide) (by constructor <;> exact Nat.le_of_ble_eq_true rfl) dX9_init_75 (fun q75 => ?_)
  refine q_ws (ws' := [(h0, .inr (8, [.ref q8, .ref q17, .ref q26, .ref q35, .int 0, .int 0, .ref q43, .int 0, .int 0, .int 0, .int 0, .int 0, .int 0, .int 0, .int 0, .ref q52, .int 0, .ref q59, .ref q66, .null, .null, .null, .null, .null, .int 0, .int 0, .int 0, .int 0])), (q8, .inl (cI, 257, .inl z0)), (q17, .inl (cI, 257, .inl z0)), (q26, .inl (cI, 257, .inl z0)), (q35, .inl (cI, 257, .inl z0)), (q43, .inl (cI, 6, .inl z0)), (q52, .inl (cI, 2000, .inl z0)), (q59, .inl (cI, 4, .inl z0)), (q66, .inl (cI, 4, .inl z0)), (q75, .inl (cI, 160, .inl z0))]) rfl ?_
  refine q_putF (q0 := 0) X dX9_init_77 i_X9 tyX9_ok nmX9 v_X9 rfl 19 (Nat.le_of_ble_eq_true rfl) h_793 rfl rfl hin rfl rfl rfl (Nat.le_of_ble_eq_true rfl) (ws' := [(h0, .inr (8, [.ref q8, .ref q17, .ref q26, .ref q35, .int 0, .int 0, .ref q43, .int 0, .int 0, .int 0, .int 0, .int 0, .int 0, .int 0, .int 0, .ref q52, .int 0, .ref q59, .ref q66, .ref q75, .null, .null, .null, .null, .int 0, .int 0, .int 0, .int 0])), (q8, .inl (cI, 257, .inl z0)), (q17, .inl (cI, 257, .inl z0)), (q26, .inl (cI, 257, .inl z0)), (q35, .inl (cI, 257, .inl z0)), (q43, .inl (cI, 6, .inl z0)), (q52, .inl (cI, 2000, .inl z0)), (q59, .inl (cI, 4, .inl z0)), (q66, .inl (cI, 4, .inl z0)), (q75, .inl (cI, 160, .inl z0))]) rfl ?_
  refine q_aload_n X dX9_init_80 0 rfl rfl ?_
  refine q_bipush X dX9_init_81 (v := 40) (by decide) ?_
  refine q_newa (atype := .int) (cA := cI) X h_152 rfl 0 rfl (40, .inl z0) (fun _ => rfl) (by decide) (N := 40) (by decide) (by decide) (by constructor <;> exact Nat.le_of_ble_eq_true rfl) dX9_init_83 (fun q83 => ?_)
  refine q_ws (ws' := [(h0, .inr (8, [.ref q8, .ref q17, .ref q26, .ref q35, .int 0, .int 0, .ref q43, .int 0, .int 0, .int 0, .int 0, .int 0, .int 0, .int 0, .int 0, .ref q52, .int 0, .ref q59, .ref q66, .ref q75, .null, .null, .null, .null, .int 0, .int 0, .int 0, .int 0])), (q8, .inl (cI, 257, .inl z0)), (q17, .inl (cI, 257, .inl z0)), (q26, .inl (cI, 257, .inl z0)), (q35, .inl (cI, 257, .inl z0)), (q43, .inl (cI, 6, .inl z0)), (q52, .inl (cI, 2000, .inl z0)), (q59, .inl (cI, 4, .inl z0)), (q66, .inl (cI, 4, .inl z0)), (q75, .inl (cI, 160, .inl z0)), (q83, .inl (cI, 40, .inl z0))]) rfl ?_
  refine q_putF (q0 := 0) X dX9_init_85 i_X9 tyX9_ok nmX9 v_X9 rfl 20 (Nat.le_of_ble_eq_true rfl) h_794 rfl rfl hin rfl rfl rfl (Nat.le_of_ble_eq_true rfl) (ws' := [(h0, .inr (8, [.ref q8, .ref q17, .ref q26, .ref q35, .int 0, .int 0, .ref q43, .int 0, .int 0, .int 0, .int 0, .int 0, .int 0, .int 0, .int 0, .ref q52, .int 0, .ref q59, .ref q66, .ref q75, .ref q83, .null, .null, .null, .int 0, .int 0, .int 0, .int 0])), (q8, .inl (cI, 257, .inl z0)), (q17, .inl (cI, 257, .inl z0)), (q26, .inl (cI, 257, .inl z0)), (q35, .inl (cI, 257, .inl z0)), (q43, .inl (cI, 6, .inl z0)), (q52, .inl (cI, 2000, .inl z0)), (q59, .inl (cI, 4, .inl z0)), (q66, .inl (cI, 4, .inl z0)), (q75, .inl (cI, 160, .inl z0)), (q83, .inl (cI, 40, .inl z0))]) rfl ?_
  refine q_aload_n X dX9_init_88 0 rfl rfl ?_
  refine q_bipush X dX9_init_89 (v := 41) (by decide) ?_
  refine q_newa (atype := .int) (cA := cI) X h_152 rfl 0 rfl (41, .inl z0) (fun _ => rfl) (by decide) (N := 41) (by decide) (by decide) (by constructor <;> exact Nat.le_of_ble_eq_true rfl) dX9_init_91 (fun q91 => ?_)
  refine q_ws (ws' := [(h0, .inr (8, [.ref q8, .ref q17, .ref q26, .ref q35, .int 0, .int 0, .ref q43, .int 0, .int 0, .int 0, .int 0, .int 0, .int 0, .int 0, .int 0, .ref q52, .int 0, .ref q59, .ref q66, .ref q75, .ref q83, .null, .null, .null, .int 0, .int 0, .int 0, .int 0])), (q8, .inl (cI, 257, .inl z0)), (q17, .inl (cI, 257, .inl z0)), (q26, .inl (cI, 257, .inl z0)), (q35, .inl (cI, 257, .inl z0)), (q43, .inl (cI, 6, .inl z0)), (q52, .inl (cI, 2000, .inl z0)), (q59, .inl (cI, 4, .inl z0)), (q66, .inl (cI, 4, .inl z0)), (q75, .inl (cI, 160, .inl z0)), (q83, .inl (cI, 40, .inl z0)), (q91, .inl (cI, 41, .inl z0))]) rfl ?_
  refine q_putF (q0 := 0) X dX9_init_93 i_X9 tyX9_ok nmX9 v_X9 rfl 21 (Nat.le_of_ble_eq_true rfl) h_795 rfl rfl hin rfl rfl rfl (Nat.le_of_ble_eq_true rfl) (ws' := [(h0, .inr (8, [.ref q8, .ref q17, .ref q26, .ref q35, .int 0, .int 0, .ref q43, .int 0, .int 0, .int 0, .int 0, .int 0, .int 0, .int 0, .int 0, .ref q52, .int 0, .ref q59, .ref q66, .ref q75, .ref q83, .ref q91, .null, .null, .int 0, .int 0, .int 0, .int 0])), (q8, .inl (cI, 257, .inl z0)), (q17, .inl (cI, 257, .inl z0)), (q26, .inl (cI, 257, .inl z0)), (q35, .inl (cI, 257, .inl z0)), (q43, .inl (cI, 6, .inl z0)), (q52, .inl (cI, 2000, .inl z0)), (q59, .inl (cI, 4, .inl z0)), (q66, .inl (cI, 4, .inl z0)), (q75, .inl (cI, 160, .inl z0)), (q83, .inl (cI, 40, .inl z0)), (q91, .inl (cI, 41, .inl z0))]) rfl ?_
  refine q_aload_n X dX9_init_96 0 rfl rfl ?_
  refine q_bipush X dX9_init_97 (v := 10) (by decide) ?_
  refine q_newa (atype := .int) (cA := cI) X h_152 rfl 0 rfl (10, .inl z0) (fun _ => rfl) (by decide) (N := 10) (by decide) (by decide) (by constructor <;> exact Nat.le_of_ble_eq_true rfl) dX9_init_99 (fun q99 => ?_)
  refine q_ws (ws' := [(h0, .inr (8, [.ref q8, .ref q17, .ref q26, .ref q35, .int 0, .int 0, .ref q43, .int 0, .int 0, .int 0, .int 0, .int 0, .int 0, .int 0, .int 0, .ref q52, .int 0, .ref q59, .ref q66, .ref q75, .ref q83, .ref q91, .null, .null, .int 0, .int 0, .int 0, .int 0])), (q8, .inl (cI, 257, .inl z0)), (q17, .inl (cI, 257, .inl z0)), (q26, .inl (cI, 257, .inl z0)), (q35, .inl (cI, 257, .inl z0)), (q43, .inl (cI, 6, .inl z0)), (q52, .inl (cI, 2000, .inl z0)), (q59, .inl (cI, 4, .inl z0)), (q66, .inl (cI, 4, .inl z0)), (q75, .inl (cI, 160, .inl z0)), (q83, .inl (cI, 40, .inl z0)), (q91, .inl (cI, 41, .inl z0)), (q99, .inl (cI, 10, .inl z0))]) rfl ?_
  refine q_putF (q0 := 0) X dX9_init_101 i_X9 tyX9_ok nmX9 v_X9 rfl 22 (Nat.le_of_ble_eq_true rfl) h_796 rfl rfl hin rfl rfl rfl (Nat.le_of_ble_eq_true rfl) (ws' := [(h0, .inr (8, [.ref q8, .ref q17, .ref q26, .ref q35, .int 0, .int 0, .ref q43, .int 0, .int 0, .int 0, .int 0, .int 0, .int 0, .int 0, .int 0, .ref q52, .int 0, .ref q59, .ref q66, .ref q75, .ref q83, .ref q91, .ref q99, .null, .int 0, .int 0, .int 0, .int 0])), (q8, .inl (cI, 257, .inl z0)), (q17, .inl (cI, 257, .inl z0)), (q26, .inl (cI, 257, .inl z0)), (q35, .inl (cI, 257, .inl z0)), (q43, .inl (cI, 6, .inl z0)), (q52, .inl (cI, 2000, .inl z0)), (q59, .inl (cI, 4, .inl z0)), (q66, .inl (cI, 4, .inl z0)), (q75, .inl (cI, 160, .inl z0)), (q83, .inl (cI, 40, .inl z0)), (q91, .inl (cI, 41, .inl z0)), (q99, .inl (cI, 10, .inl z0))]) rfl ?_
  refine q_aload_n X dX9_init_104 0 rfl rfl ?_
  refine q_bipush X dX9_init_105 (v := 40) (by decide) ?_
  refine q_newa (atype := .int) (cA := cI) X h_152 rfl 0 rfl (40, .inl z0) (fun _ => rfl) (by decide) (N := 40) (by decide) (by decide) (by constructor <;> exact Nat.le_of_ble_eq_true rfl) dX9_init_107 (fun q107 => ?_)
  refine q_ws (ws' := [(h0, .inr (8, [.ref q8, .ref q17, .ref q26, .ref q35, .int 0, .int 0, .ref q43, .int 0, .int 0, .int 0, .int 0, .int 0, .int 0, .int 0, .int 0, .ref q52, .int 0, .ref q59, .ref q66, .ref q75, .ref q83, .ref q91, .ref q99, .null, .int 0, .int 0, .int 0, .int 0])), (q8, .inl (cI, 257, .inl z0)), (q17, .inl (cI, 257, .inl z0)), (q26, .inl (cI, 257, .inl z0)), (q35, .inl (cI, 257, .inl z0)), (q43, .inl (cI, 6, .inl z0)), (q52, .inl (cI, 2000, .inl z0)), (q59, .inl (cI, 4, .inl z0)), (q66, .inl (cI, 4, .inl z0)), (q75, .inl (cI, 160, .inl z0)), (q83, .inl (cI, 40, .inl z0)), (q91, .inl (cI, 41, .inl z0)), (q99, .inl (cI, 10, .inl z0)), (q107, .inl (cI, 40, .inl z0))]) rfl ?_
  refine q_putF (q0 := 0) X dX9_init_109 i_X9 tyX9_ok nmX9 v_X9 rfl 23 (Nat.le_of_ble_eq_true rfl) h_797 rfl rfl hin rfl rfl rfl (Nat.le_of_ble_eq_true rfl) (ws' := [(h0, .inr (8, [.ref q8, .ref q17, .ref q26, .ref q35, .int 0, .int 0, .ref q43, .int 0, .int 0, .int 0, .int 0, .int 0, .int 0, .int 0, .int 0, .ref q52, .int 0, .ref q59, .ref q66, .ref q75, .ref q83, .ref q91, .ref q99, .ref q107, .int 0, .int 0, .int 0, .int 0])), (q8, .inl (cI, 257, .inl z0)), (q17, .inl (cI, 257, .inl z0)), (q26, .inl (cI, 257, .inl z0)), (q35, .inl (cI, 257, .inl z0)), (q43, .inl (cI, 6, .inl z0)), (q52, .inl (cI, 2000, .inl z0)), (q59, .inl (cI, 4, .inl z0)), (q66, .inl (cI, 4, .inl z0)), (q75, .inl (cI, 160, .inl z0)), (q83, .inl (cI, 40, .inl z0)), (q91, .inl (cI, 41, .inl z0)), (q99, .inl (cI, 10, .inl z0)), (q107, .inl (cI, 40, .inl z0))]) rfl ?_
  refine q_aload_n X dX9_init_112 0 rfl rfl ?_
  refine q_callV X (b := h0) (q0 := 0) (fs := [.ref q8, .ref q17, .ref q26, .ref q35, .int 0, .int 0, .ref q43, .int 0, .int 0, .int 0, .int 0, .int 0, .int 0, .int 0, .int 0, .ref q52, .int 0, .ref q59, .ref q66, .ref q75, .ref q83, .ref q91, .ref q99, .ref q107, .int 0, .int 0, .int 0, .int 0]) [] [] (c_forgets (cB := cB) (cS := cS) rfl) dX9_init_113 v_X9 rfl h_770 h_772 h_20 h_77 h_773 nX9_forgets rfl rfl (Nat.le_of_ble_eq_true rfl) (by constructor <;> exact Nat.le_of_ble_eq_true rfl) (by constructor <;> exact Nat.le_of_ble_eq_true rfl) (fun _ _ _ _ h => h) (fun _ _ => trivial) [0, 6] [1, 2, 3, 4, 5, 7, 8, 9, 10, 11, 12, 13] (by decide) rfl (wr := [(q8, .inl (cI, 257, .inl z0)), (q17, .inl (cI, 257, .inl z0)), (q26, .inl (cI, 257, .inl z0)), (q35, .inl (cI, 257, .inl z0)), (q43, .inl (cI, 6, .inl z0)), (q59, .inl (cI, 4, .inl z0)), (q66, .inl (cI, 4, .inl z0)), (q75, .inl (cI, 160, .inl z0)), (q83, .inl (cI, 40, .inl z0)), (q91, .inl (cI, 41, .inl z0)), (q99, .inl (cI, 10, .inl z0)), (q107, .inl (cI, 40, .inl z0))]) rfl (by decide) (by decide) (fun f hf => ?_)
  clear hf
  refine q_ws (ws' := [(q8, .inl (cI, 257, .inl z0)), (q17, .inl (cI, 257, .inl z0)), (q26, .inl (cI, 257, .inl z0)), (q35, .inl (cI, 257, .inl z0)), (q43, .inl (cI, 6, .inl z0)), (q59, .inl (cI, 4, .inl z0)), (q66, .inl (cI, 4, .inl z0)), (q75, .inl (cI, 160, .inl z0)), (q83, .inl (cI, 40, .inl z0)), (q91, .inl (cI, 41, .inl z0)), (q99, .inl (cI, 10, .inl z0)), (q107, .inl (cI, 40, .inl z0)), (h0, .inr (8, [.ref q8, .ref q17, .ref q26, .ref q35, .int 0, .int 0, .ref q43, .int 0, .int 0, .int 0, .int 0, .int 0, .int 0, .int 0, .int 0, .ref q52, .int 0, .ref q59, .ref q66, .ref q75, .ref q83, .ref q91, .ref q99, .ref q107, .int 0, .int 0, .int 0, .int 0])), (q52, .inl (cI, 2000, .inl m2))]) rfl ?_
  refine q_aload_n X dX9_init_116 0 rfl rfl ?_
  refine q_get (q0 := 12) (v := .ref q8) X dX9_init_117 i_X9 v_X9 rfl 0 (Nat.le_of_ble_eq_true rfl) h_774 rfl ?_
  refine q_iconst X dX9_init_120 (v := 1) (by decide) ?_
  refine q_iconst X dX9_init_121 (v := 1) (by decide) ?_
  refine q_iast (q0 := 0) X 0 dX9_init_122 rfl rfl (by unfold vp_in; decide) (kk := 1) (by decide) (ws' := [(q8, .inl (cI, 257, .inl mA_1)), (q17, .inl (cI, 257, .inl z0)), (q26, .inl (cI, 257, .inl z0)), (q35, .inl (cI, 257, .inl z0)), (q43, .inl (cI, 6, .inl z0)), (q59, .inl (cI, 4, .inl z0)), (q66, .inl (cI, 4, .inl z0)), (q75, .inl (cI, 160, .inl z0)), (q83, .inl (cI, 40, .inl z0)), (q91, .inl (cI, 41, .inl z0)), (q99, .inl (cI, 10, .inl z0)), (q107, .inl (cI, 40, .inl z0)), (h0, .inr (8, [.ref q8, .ref q17, .ref q26, .ref q35, .int 0, .int 0, .ref q43, .int 0, .int 0, .int 0, .int 0, .int 0, .int 0, .int 0, .int 0, .ref q52, .int 0, .ref q59, .ref q66, .ref q75, .ref q83, .ref q91, .ref q99, .ref q107, .int 0, .int 0, .int 0, .int 0])), (q52, .inl (cI, 2000, .inl m2))]) rfl ?_
  refine q_aload_n X dX9_init_123 0 rfl rfl ?_
  refine q_get (q0 := 12) (v := .ref q8) X dX9_init_124 i_X9 v_X9 rfl 0 (Nat.le_of_ble_eq_true rfl) h_774 rfl ?_
  refine q_iconst X dX9_init_127 (v := 3) (by decide) ?_
  refine q_bipush X dX9_init_128 (v := 12) (by decide) ?_
  refine q_iast (q0 := 0) X 0 dX9_init_130 rfl rfl (by unfold vp_in; decide) (kk := 3) (by decide) (ws' := [(q8, .inl (cI, 257, .inl mA_2)), (q17, .inl (cI, 257, .inl z0)), (q26, .inl (cI, 257, .inl z0)), (q35, .inl (cI, 257, .inl z0)), (q43, .inl (cI, 6, .inl z0)), (q59, .inl (cI, 4, .inl z0)), (q66, .inl (cI, 4, .inl z0)), (q75, .inl (cI, 160, .inl z0)), (q83, .inl (cI, 40, .inl z0)), (q91, .inl (cI, 41, .inl z0)), (q99, .inl (cI, 10, .inl z0)), (q107, .inl (cI, 40, .inl z0)), (h0, .inr (8, [.ref q8, .ref q17, .ref q26, .ref q35, .int 0, .int 0, .ref q43, .int 0, .int 0, .int 0, .int 0, .int 0, .int 0, .int 0, .int 0, .ref q52, .int 0, .ref q59, .ref q66, .ref q75, .ref q83, .ref q91, .ref q99, .ref q107, .int 0, .int 0, .int 0, .int 0])), (q52, .inl (cI, 2000, .inl m2))]) rfl ?_
  refine q_aload_n X dX9_init_131 0 rfl rfl ?_
  refine q_get (q0 := 12) (v := .ref q8) X dX9_init_132 i_X9 v_X9 rfl 0 (Nat.le_of_ble_eq_true rfl) h_774 rfl ?_
  refine q_bipush X dX9_init_135 (v := 7) (by decide) ?_
  refine q_iconst X dX9_init_137 (v := (-1)) (by decide) ?_
  refine q_iast (q0 := 0) X 0 dX9_init_138 rfl rfl (by unfold vp_in; decide) (kk := 7) (by decide) (ws' := [(q8, .inl (cI, 257, .inl mA_3)), (q17, .inl (cI, 257, .inl z0)), (q26, .inl (cI, 257, .inl z0)), (q35, .inl (cI, 257, .inl z0)), (q43, .inl (cI, 6, .inl z0)), (q59, .inl (cI, 4, .inl z0)), (q66, .inl (cI, 4, .inl z0)), (q75, .inl (cI, 160, .inl z0)), (q83, .inl (cI, 40, .inl z0)), (q91, .inl (cI, 41, .inl z0)), (q99, .inl (cI, 10, .inl z0)), (q107, .inl (cI, 40, .inl z0)), (h0, .inr (8, [.ref q8, .ref q17, .ref q26, .ref q35, .int 0, .int 0, .ref q43, .int 0, .int 0, .int 0, .int 0, .int 0, .int 0, .int 0, .int 0, .ref q52, .int 0, .ref q59, .ref q66, .ref q75, .ref q83, .ref q91, .ref q99, .ref q107, .int 0, .int 0, .int 0, .int 0])), (q52, .inl (cI, 2000, .inl m2))]) rfl ?_
  refine q_aload_n X dX9_init_139 0 rfl rfl ?_
  refine q_get (q0 := 12) (v := .ref q8) X dX9_init_140 i_X9 v_X9 rfl 0 (Nat.le_of_ble_eq_true rfl) h_774 rfl ?_
  refine q_bipush X dX9_init_143 (v := 8) (by decide) ?_
  refine q_iconst X dX9_init_145 (v := (-1)) (by decide) ?_
  refine q_iast (q0 := 0) X 0 dX9_init_146 rfl rfl (by unfold vp_in; decide) (kk := 8) (by decide) (ws' := [(q8, .inl (cI, 257, .inl mA_4)), (q17, .inl (cI, 257, .inl z0)), (q26, .inl (cI, 257, .inl z0)), (q35, .inl (cI, 257, .inl z0)), (q43, .inl (cI, 6, .inl z0)), (q59, .inl (cI, 4, .inl z0)), (q66, .inl (cI, 4, .inl z0)), (q75, .inl (cI, 160, .inl z0)), (q83, .inl (cI, 40, .inl z0)), (q91, .inl (cI, 41, .inl z0)), (q99, .inl (cI, 10, .inl z0)), (q107, .inl (cI, 40, .inl z0)), (h0, .inr (8, [.ref q8, .ref q17, .ref q26, .ref q35, .int 0, .int 0, .ref q43, .int 0, .int 0, .int 0, .int 0, .int 0, .int 0, .int 0, .int 0, .ref q52, .int 0, .ref q59, .ref q66, .ref q75, .ref q83, .ref q91, .ref q99, .ref q107, .int 0, .int 0, .int 0, .int 0])), (q52, .inl (cI, 2000, .inl m2))]) rfl ?_
  refine q_iconst X dX9_init_147 (v := 0) (by decide) ?_
  refine q_istore_n (L' := [(0, .ref h0), (1, .int 0)]) X dX9_init_148 [1, 0] rfl rfl (Nat.le_of_ble_eq_true rfl) ?_
  refine q_iload_n X dX9_init_149 1 rfl rfl ?_
  refine q_bipush X dX9_init_150 (v := 16) (by decide) ?_
  refine q_icmp_ge X 190 dX9_init_152 (by decide) (fun h => absurd h (by decide)) (fun _ => ?_)
  refine q_aload_n X dX9_init_155 0 rfl rfl ?_
  refine q_get (q0 := 12) (v := .ref q8) X dX9_init_156 i_X9 v_X9 rfl 0 (Nat.le_of_ble_eq_true rfl) h_774 rfl ?_
  refine q_bipush X dX9_init_159 (v := 9) (by decide) ?_
  refine q_iconst X dX9_init_161 (v := 2) (by decide) ?_
  refine q_iload_n X dX9_init_162 1 rfl rfl ?_
  refine q_imul X dX9_init_163 (v := 0) (by decide) ?_
  refine q_iadd X dX9_init_164 (v := 9) (by decide) ?_
  refine q_iload_n X dX9_init_165 1 rfl rfl ?_
  refine q_bipush X dX9_init_166 (v := 10) (by decide) ?_
  refine q_irem X dX9_init_168 (by decide) (v := 0) (by decide) ?_
  refine q_iast (q0 := 0) X 0 dX9_init_169 rfl rfl (by unfold vp_in; decide) (kk := 9) (by decide) (ws' := [(q8, .inl (cI, 257, .inl mA_5)), (q17, .inl (cI, 257, .inl z0)), (q26, .inl (cI, 257, .inl z0)), (q35, .inl (cI, 257, .inl z0)), (q43, .inl (cI, 6, .inl z0)), (q59, .inl (cI, 4, .inl z0)), (q66, .inl (cI, 4, .inl z0)), (q75, .inl (cI, 160, .inl z0)), (q83, .inl (cI, 40, .inl z0)), (q91, .inl (cI, 41, .inl z0)), (q99, .inl (cI, 10, .inl z0)), (q107, .inl (cI, 40, .inl z0)), (h0, .inr (8, [.ref q8, .ref q17, .ref q26, .ref q35, .int 0, .int 0, .ref q43, .int 0, .int 0, .int 0, .int 0, .int 0, .int 0, .int 0, .int 0, .ref q52, .int 0, .ref q59, .ref q66, .ref q75, .ref q83, .ref q91, .ref q99, .ref q107, .int 0, .int 0, .int 0, .int 0])), (q52, .inl (cI, 2000, .inl m2))]) rfl ?_
  refine q_aload_n X dX9_init_170 0 rfl rfl ?_
  refine q_get (q0 := 12) (v := .ref q8) X dX9_init_171 i_X9 v_X9 rfl 0 (Nat.le_of_ble_eq_true rfl) h_774 rfl ?_
  refine q_bipush X dX9_init_174 (v := 9) (by decide) ?_
  refine q_iconst X dX9_init_176 (v := 2) (by decide) ?_
  refine q_iload_n X dX9_init_177 1 rfl rfl ?_
  refine q_imul X dX9_init_178 (v := 0) (by decide) ?_
  refine q_iadd X dX9_init_179 (v := 9) (by decide) ?_
  refine q_iconst X dX9_init_180 (v := 1) (by decide) ?_
  refine q_iadd X dX9_init_181 (v := 10) (by decide) ?_
  refine q_iconst X dX9_init_182 (v := 3) (by decide) ?_
  refine q_iast (q0 := 0) X 0 dX9_init_183 rfl rfl (by unfold vp_in; decide) (kk := 10) (by decide) (ws' := [(q8, .inl (cI, 257, .inl mA_6)), (q17, .inl (cI, 257, .inl z0)), (q26, .inl (cI, 257, .inl z0)), (q35, .inl (cI, 257, .inl z0)), (q43, .inl (cI, 6, .inl z0)), (q59, .inl (cI, 4, .inl z0)), (q66, .inl (cI, 4, .inl z0)), (q75, .inl (cI, 160, .inl z0)), (q83, .inl (cI, 40, .inl z0)), (q91, .inl (cI, 41, .inl z0)), (q99, .inl (cI, 10, .inl z0)), (q107, .inl (cI, 40, .inl z0)), (h0, .inr (8, [.ref q8, .ref q17, .ref q26, .ref q35, .int 0, .int 0, .ref q43, .int 0, .int 0, .int 0, .int 0, .int 0, .int 0, .int 0, .int 0, .ref q52, .int 0, .ref q59, .ref q66, .ref q75, .ref q83, .ref q91, .ref q99, .ref q107, .int 0, .int 0, .int 0, .int 0])), (q52, .inl (cI, 2000, .inl m2))]) rfl ?_
  refine q_iinc (L' := [(0, .ref h0), (1, .int 1)]) (v := 1) X dX9_init_184 1 rfl (by decide) [1, 0] rfl (Nat.le_of_ble_eq_true rfl) ?_
  refine q_goto X 149 dX9_init_187 (by decide) ?_
  refine q_iload_n X dX9_init_149 1 rfl rfl ?_
  refine q_bipush X dX9_init_150 (v := 16) (by decide) ?_
  refine q_icmp_ge X 190 dX9_init_152 (by decide) (fun h => absurd h (by decide)) (fun _ => ?_)
  refine q_aload_n X dX9_init_155 0 rfl rfl ?_
  refine q_get (q0 := 12) (v := .ref q8) X dX9_init_156 i_X9 v_X9 rfl 0 (Nat.le_of_ble_eq_true rfl) h_774 rfl ?_
  refine q_bipush X dX9_init_159 (v := 9) (by decide) ?_
  refine q_iconst X dX9_init_161 (v := 2) (by decide) ?_
  refine q_iload_n X dX9_init_162 1 rfl rfl ?_
  refine q_imul X dX9_init_163 (v := 2) (by decide) ?_
  refine q_iadd X dX9_init_164 (v := 11) (by decide) ?_
  refine q_iload_n X dX9_init_165 1 rfl rfl ?_
  refine q_bipush X dX9_init_166 (v := 10) (by decide) ?_
  refine q_irem X dX9_init_168 (by decide) (v := 1) (by decide) ?_
  refine q_iast (q0 := 0) X 0 dX9_init_169 rfl rfl (by unfold vp_in; decide) (kk := 11) (by decide) (ws' := [(q8, .inl (cI, 257, .inl mA_7)), (q17, .inl (cI, 257, .inl z0)), (q26, .inl (cI, 257, .inl z0)), (q35, .inl (cI, 257, .inl z0)), (q43, .inl (cI, 6, .inl z0)), (q59, .inl (cI, 4, .inl z0)), (q66, .inl (cI, 4, .inl z0)), (q75, .inl (cI, 160, .inl z0)), (q83, .inl (cI, 40, .inl z0)), (q91, .inl (cI, 41, .inl z0)), (q99, .inl (cI, 10, .inl z0)), (q107, .inl (cI, 40, .inl z0)), (h0, .inr (8, [.ref q8, .ref q17, .ref q26, .ref q35, .int 0, .int 0, .ref q43, .int 0, .int 0, .int 0, .int 0, .int 0, .int 0, .int 0, .int 0, .ref q52, .int 0, .ref q59, .ref q66, .ref q75, .ref q83, .ref q91, .ref q99, .ref q107, .int 0, .int 0, .int 0, .int 0])), (q52, .inl (cI, 2000, .inl m2))]) rfl ?_
  refine q_aload_n X dX9_init_170 0 rfl rfl ?_
  refine q_get (q0 := 12) (v := .ref q8) X dX9_init_171 i_X9 v_X9 rfl 0 (Nat.le_of_ble_eq_true rfl) h_774 rfl ?_
  refine q_bipush X dX9_init_174 (v := 9) (by decide) ?_
  refine q_iconst X dX9_init_176 (v := 2) (by decide) ?_
  refine q_iload_n X dX9_init_177 1 rfl rfl ?_
  refine q_imul X dX9_init_178 (v := 2) (by decide) ?_
  refine q_iadd X dX9_init_179 (v := 11) (by decide) ?_
  refine q_iconst X dX9_init_180 (v := 1) (by decide) ?_
  refine q_iadd X dX9_init_181 (v := 12) (by decide) ?_
  refine q_iconst X dX9_init_182 (v := 3) (by decide) ?_
  refine q_iast (q0 := 0) X 0 dX9_init_183 rfl rfl (by unfold vp_in; decide) (kk := 12) (by decide) (ws' := [(q8, .inl (cI, 257, .inl mA_8)), (q17, .inl (cI, 257, .inl z0)), (q26, .inl (cI, 257, .inl z0)), (q35, .inl (cI, 257, .inl z0)), (q43, .inl (cI, 6, .inl z0)), (q59, .inl (cI, 4, .inl z0)), (q66, .inl (cI, 4, .inl z0)), (q75, .inl (cI, 160, .inl z0)), (q83, .inl (cI, 40, .inl z0)), (q91, .inl (cI, 41, .inl z0)), (q99, .inl (cI, 10, .inl z0)), (q107, .inl (cI, 40, .inl z0)), (h0, .inr (8, [.ref q8, .ref q17, .ref q26, .ref q35, .int 0, .int 0, .ref q43, .int 0, .int 0, .int 0, .int 0, .int 0, .int 0, .int 0, .int 0, .ref q52, .int 0, .ref q59, .ref q66, .ref q75, .ref q83, .ref q91, .ref q99, .ref q107, .int 0, .int 0, .int 0, .int 0])), (q52, .inl (cI, 2000, .inl m2))]) rfl ?_
  refine q_iinc (L' := [(0, .ref h0), (1, .int 2)]) (v := 2) X dX9_init_184 1 rfl (by decide) [1, 0] rfl (Nat.le_of_ble_eq_true rfl) ?_
  refine q_goto X 149 dX9_init_187 (by decide) ?_
  refine q_iload_n X dX9_init_149 1 rfl rfl ?_
  refine q_bipush X dX9_init_150 (v := 16) (by decide) ?_
  refine q_icmp_ge X 190 dX9_init_152 (by decide) (fun h => absurd h (by decide)) (fun _ => ?_)
  refine q_aload_n X dX9_init_155 0 rfl rfl ?_
  refine q_get (q0 := 12) (v := .ref q8) X dX9_init_156 i_X9 v_X9 rfl 0 (Nat.le_of_ble_eq_true rfl) h_774 rfl ?_
  refine q_bipush X dX9_init_159 (v := 9) (by decide) ?_
  refine q_iconst X dX9_init_161 (v := 2) (by decide) ?_
  refine q_iload_n X dX9_init_162 1 rfl rfl ?_
  refine q_imul X dX9_init_163 (v := 4) (by decide) ?_
  refine q_iadd X dX9_init_164 (v := 13) (by decide) ?_
  refine q_iload_n X dX9_init_165 1 rfl rfl ?_
  refine q_bipush X dX9_init_166 (v := 10) (by decide) ?_
  refine q_irem X dX9_init_168 (by decide) (v := 2) (by decide) ?_
  refine q_iast (q0 := 0) X 0 dX9_init_169 rfl rfl (by unfold vp_in; decide) (kk := 13) (by decide) (ws' := [(q8, .inl (cI, 257, .inl mA_9)), (q17, .inl (cI, 257, .inl z0)), (q26, .inl (cI, 257, .inl z0)), (q35, .inl (cI, 257, .inl z0)), (q43, .inl (cI, 6, .inl z0)), (q59, .inl (cI, 4, .inl z0)), (q66, .inl (cI, 4, .inl z0)), (q75, .inl (cI, 160, .inl z0)), (q83, .inl (cI, 40, .inl z0)), (q91, .inl (cI, 41, .inl z0)), (q99, .inl (cI, 10, .inl z0)), (q107, .inl (cI, 40, .inl z0)), (h0, .inr (8, [.ref q8, .ref q17, .ref q26, .ref q35, .int 0, .int 0, .ref q43, .int 0, .int 0, .int 0, .int 0, .int 0, .int 0, .int 0, .int 0, .ref q52, .int 0, .ref q59, .ref q66, .ref q75, .ref q83, .ref q91, .ref q99, .ref q107, .int 0, .int 0, .int 0, .int 0])), (q52, .inl (cI, 2000, .inl m2))]) rfl ?_
  refine q_aload_n X dX9_init_170 0 rfl rfl ?_
  refine q_get (q0 := 12) (v := .ref q8) X dX9_init_171 i_X9 v_X9 rfl 0 (Nat.le_of_ble_eq_true rfl) h_774 rfl ?_
  refine q_bipush X dX9_init_174 (v := 9) (by decide) ?_
  refine q_iconst X dX9_init_176 (v := 2) (by decide) ?_
  refine q_iload_n X dX9_init_177 1 rfl rfl ?_
  refine q_imul X dX9_init_178 (v := 4) (by decide) ?_
  refine q_iadd X dX9_init_179 (v := 13) (by decide) ?_
  refine q_iconst X dX9_init_180 (v := 1) (by decide) ?_
  refine q_iadd X dX9_init_181 (v := 14) (by decide) ?_
  refine q_iconst X dX9_init_182 (v := 3) (by decide) ?_
  refine q_iast (q0 := 0) X 0 dX9_init_183 rfl rfl (by unfold vp_in; decide) (kk := 14) (by decide) (ws' := [(q8, .inl (cI, 257, .inl mA_10)), (q17, .inl (cI, 257, .inl z0)), (q26, .inl (cI, 257, .inl z0)), (q35, .inl (cI, 257, .inl z0)), (q43, .inl (cI, 6, .inl z0)), (q59, .inl (cI, 4, .inl z0)), (q66, .inl (cI, 4, .inl z0)), (q75, .inl (cI, 160, .inl z0)), (q83, .inl (cI, 40, .inl z0)), (q91, .inl (cI, 41, .inl z0)), (q99, .inl (cI, 10, .inl z0)), (q107, .inl (cI, 40, .inl z0)), (h0, .inr (8, [.ref q8, .ref q17, .ref q26, .ref q35, .int 0, .int 0, .ref q43, .int 0, .int 0, .int 0, .int 0, .int 0, .int 0, .int 0, .int 0, .ref q52, .int 0, .ref q59, .ref q66, .ref q75, .ref q83, .ref q91, .ref q99, .ref q107, .int 0, .int 0, .int 0, .int 0])), (q52, .inl (cI, 2000, .inl m2))]) rfl ?_
  refine q_iinc (L' := [(0, .ref h0), (1, .int 3)]) (v := 3) X dX9_init_184 1 rfl (by decide) [1, 0] rfl (Nat.le_of_ble_eq_true rfl) ?_
  refine q_goto X 149 dX9_init_187 (by decide) ?_
  refine q_iload_n X dX9_init_149 1 rfl rfl ?_
  refine q_bipush X dX9_init_150 (v := 16) (by decide) ?_
  refine q_icmp_ge X 190 dX9_init_152 (by decide) (fun h => absurd h (by decide)) (fun _ => ?_)
  refine q_aload_n X dX9_init_155 0 rfl rfl ?_
  refine q_get (q0 := 12) (v := .ref q8) X dX9_init_156 i_X9 v_X9 rfl 0 (Nat.le_of_ble_eq_true rfl) h_774 rfl ?_
  refine q_bipush X dX9_init_159 (v := 9) (by decide) ?_
  refine q_iconst X dX9_init_161 (v := 2) (by decide) ?_
  refine q_iload_n X dX9_init_162 1 rfl rfl ?_
  refine q_imul X dX9_init_163 (v := 6) (by decide) ?_
  refine q_iadd X dX9_init_164 (v := 15) (by decide) ?_
  refine q_iload_n X dX9_init_165 1 rfl rfl ?_
  refine q_bipush X dX9_init_166 (v := 10) (by decide) ?_
  refine q_irem X dX9_init_168 (by decide) (v := 3) (by decide) ?_
  refine q_iast (q0 := 0) X 0 dX9_init_169 rfl rfl (by unfold vp_in; decide) (kk := 15) (by decide) (ws' := [(q8, .inl (cI, 257, .inl mA_11)), (q17, .inl (cI, 257, .inl z0)), (q26, .inl (cI, 257, .inl z0)), (q35, .inl (cI, 257, .inl z0)), (q43, .inl (cI, 6, .inl z0)), (q59, .inl (cI, 4, .inl z0)), (q66, .inl (cI, 4, .inl z0)), (q75, .inl (cI, 160, .inl z0)), (q83, .inl (cI, 40, .inl z0)), (q91, .inl (cI, 41, .inl z0)), (q99, .inl (cI, 10, .inl z0)), (q107, .inl (cI, 40, .inl z0)), (h0, .inr (8, [.ref q8, .ref q17, .ref q26, .ref q35, .int 0, .int 0, .ref q43, .int 0, .int 0, .int 0, .int 0, .int 0, .int 0, .int 0, .int 0, .ref q52, .int 0, .ref q59, .ref q66, .ref q75, .ref q83, .ref q91, .ref q99, .ref q107, .int 0, .int 0, .int 0, .int 0])), (q52, .inl (cI, 2000, .inl m2))]) rfl ?_
  refine q_aload_n X dX9_init_170 0 rfl rfl ?_
  refine q_get (q0 := 12) (v := .ref q8) X dX9_init_171 i_X9 v_X9 rfl 0 (Nat.le_of_ble_eq_true rfl) h_774 rfl ?_
  refine q_bipush X dX9_init_174 (v := 9) (by decide) ?_
  refine q_iconst X dX9_init_176 (v := 2) (by decide) ?_
  refine q_iload_n X dX9_init_177 1 rfl rfl ?_
  refine q_imul X dX9_init_178 (v := 6) (by decide) ?_
  refine q_iadd X dX9_init_179 (v := 15) (by decide) ?_
  refine q_iconst X dX9_init_180 (v := 1) (by decide) ?_
  refine q_iadd X dX9_init_181 (v := 16) (by decide) ?_
  refine q_iconst X dX9_init_182 (v := 3) (by decide) ?_
  refine q_iast (q0 := 0) X 0 dX9_init_183 rfl rfl (by unfold vp_in; decide) (kk := 16) (by decide) (ws' := [(q8, .inl (cI, 257, .inl mA_12)), (q17, .inl (cI, 257, .inl z0)), (q26, .inl (cI, 257, .inl z0)), (q35, .inl (cI, 257, .inl z0)), (q43, .inl (cI, 6, .inl z0)), (q59, .inl (cI, 4, .inl z0)), (q66, .inl (cI, 4, .inl z0)), (q75, .inl (cI, 160, .inl z0)), (q83, .inl (cI, 40, .inl z0)), (q91, .inl (cI, 41, .inl z0)), (q99, .inl (cI, 10, .inl z0)), (q107, .inl (cI, 40, .inl z0)), (h0, .inr (8, [.ref q8, .ref q17, .ref q26, .ref q35, .int 0, .int 0, .ref q43, .int 0, .int 0, .int 0, .int 0, .int 0, .int 0, .int 0, .int 0, .ref q52, .int 0, .ref q59, .ref q66, .ref q75, .ref q83, .ref q91, .ref q99, .ref q107, .int 0, .int 0, .int 0, .int 0])), (q52, .inl (cI, 2000, .inl m2))]) rfl ?_
  refine q_iinc (L' := [(0, .ref h0), (1, .int 4)]) (v := 4) X dX9_init_184 1 rfl (by decide) [1, 0] rfl (Nat.le_of_ble_eq_true rfl) ?_
  refine q_goto X 149 dX9_init_187 (by decide) ?_
  refine q_iload_n X dX9_init_149 1 rfl rfl ?_
  refine q_bipush X dX9_init_150 (v := 16) (by decide) ?_
  refine q_icmp_ge X 190 dX9_init_152 (by decide) (fun h => absurd h (by decide)) (fun _ => ?_)
  refine q_aload_n X dX9_init_155 0 rfl rfl ?_
  refine q_get (q0 := 12) (v := .ref q8) X dX9_init_156 i_X9 v_X9 rfl 0 (Nat.le_of_ble_eq_true rfl) h_774 rfl ?_
  refine q_bipush X dX9_init_159 (v := 9) (by decide) ?_
  refine q_iconst X dX9_init_161 (v := 2) (by decide) ?_
  refine q_iload_n X dX9_init_162 1 rfl rfl ?_
  refine q_imul X dX9_init_163 (v := 8) (by decide) ?_
  refine q_iadd X dX9_init_164 (v := 17) (by decide) ?_
  refine q_iload_n X dX9_init_165 1 rfl rfl ?_
  refine q_bipush X dX9_init_166 (v := 10) (by decide) ?_
  refine q_irem X dX9_init_168 (by decide) (v := 4) (by decide) ?_
  refine q_iast (q0 := 0) X 0 dX9_init_169 rfl rfl (by unfold vp_in; decide) (kk := 17) (by decide) (ws' := [(q8, .inl (cI, 257, .inl mA_13)), (q17, .inl (cI, 257, .inl z0)), (q26, .inl (cI, 257, .inl z0)), (q35, .inl (cI, 257, .inl z0)), (q43, .inl (cI, 6, .inl z0)), (q59, .inl (cI, 4, .inl z0)), (q66, .inl (cI, 4, .inl z0)), (q75, .inl (cI, 160, .inl z0)), (q83, .inl (cI, 40, .inl z0)), (q91, .inl (cI, 41, .inl z0)), (q99, .inl (cI, 10, .inl z0)), (q107, .inl (cI, 40, .inl z0)), (h0, .inr (8, [.ref q8, .ref q17, .ref q26, .ref q35, .int 0, .int 0, .ref q43, .int 0, .int 0, .int 0, .int 0, .int 0, .int 0, .int 0, .int 0, .ref q52, .int 0, .ref q59, .ref q66, .ref q75, .ref q83, .ref q91, .ref q99, .ref q107, .int 0, .int 0, .int 0, .int 0])), (q52, .inl (cI, 2000, .inl m2))]) rfl ?_
  refine q_aload_n X dX9_init_170 0 rfl rfl ?_
  refine q_get (q0 := 12) (v := .ref q8) X dX9_init_171 i_X9 v_X9 rfl 0 (Nat.le_of_ble_eq_true rfl) h_774 rfl ?_
  refine q_bipush X dX9_init_174 (v := 9) (by decide) ?_
  refine q_iconst X dX9_init_176 (v := 2) (by decide) ?_
  refine q_iload_n X dX9_init_177 1 rfl rfl ?_
  refine q_imul X dX9_init_178 (v := 8) (by decide) ?_
  refine q_iadd X dX9_init_179 (v := 17) (by decide) ?_
  refine q_iconst X dX9_init_180 (v := 1) (by decide) ?_
  refine q_iadd X dX9_init_181 (v := 18) (by decide) ?_
  refine q_iconst X dX9_init_182 (v := 3) (by decide) ?_
  refine q_iast (q0 := 0) X 0 dX9_init_183 rfl rfl (by unfold vp_in; decide) (kk := 18) (by decide) (ws' := [(q8, .inl (cI, 257, .inl mA_14)), (q17, .inl (cI, 257, .inl z0)), (q26, .inl (cI, 257, .inl z0)), (q35, .inl (cI, 257, .inl z0)), (q43, .inl (cI, 6, .inl z0)), (q59, .inl (cI, 4, .inl z0)), (q66, .inl (cI, 4, .inl z0)), (q75, .inl (cI, 160, .inl z0)), (q83, .inl (cI, 40, .inl z0)), (q91, .inl (cI, 41, .inl z0)), (q99, .inl (cI, 10, .inl z0)), (q107, .inl (cI, 40, .inl z0)), (h0, .inr (8, [.ref q8, .ref q17, .ref q26, .ref q35, .int 0, .int 0, .ref q43, .int 0, .int 0, .int 0, .int 0, .int 0, .int 0, .int 0, .int 0, .ref q52, .int 0, .ref q59, .ref q66, .ref q75, .ref q83, .ref q91, .ref q99, .ref q107, .int 0, .int 0, .int 0, .int 0])), (q52, .inl (cI, 2000, .inl m2))]) rfl ?_
  refine q_iinc (L' := [(0, .ref h0), (1, .int 5)]) (v := 5) X dX9_init_184 1 rfl (by decide) [1, 0] rfl (Nat.le_of_ble_eq_true rfl) ?_
  refine q_goto X 149 dX9_init_187 (by decide) ?_
  refine q_iload_n X dX9_init_149 1 rfl rfl ?_
  refine q_bipush X dX9_init_150 (v := 16) (by decide) ?_
  refine q_icmp_ge X 190 dX9_init_152 (by decide) (fun h => absurd h (by decide)) (fun _ => ?_)
  refine q_aload_n X dX9_init_155 0 rfl rfl ?_
  refine q_get (q0 := 12) (v := .ref q8) X dX9_init_156 i_X9 v_X9 rfl 0 (Nat.le_of_ble_eq_true rfl) h_774 rfl ?_
  refine q_bipush X dX9_init_159 (v := 9) (by decide) ?_
  refine q_iconst X dX9_init_161 (v := 2) (by decide) ?_
  refine q_iload_n X dX9_init_162 1 rfl rfl ?_
  refine q_imul X dX9_init_163 (v := 10) (by decide) ?_
  refine q_iadd X dX9_init_164 (v := 19) (by decide) ?_
  refine q_iload_n X dX9_init_165 1 rfl rfl ?_
  refine q_bipush X dX9_init_166 (v := 10) (by decide) ?_
  refine q_irem X dX9_init_168 (by decide) (v := 5) (by decide) ?_
  refine q_iast (q0 := 0) X 0 dX9_init_169 rfl rfl (by unfold vp_in; decide) (kk := 19) (by decide) (ws' := [(q8, .inl (cI, 257, .inl mA_15)), (q17, .inl (cI, 257, .inl z0)), (q26, .inl (cI, 257, .inl z0)), (q35, .inl (cI, 257, .inl z0)), (q43, .inl (cI, 6, .inl z0)), (q59, .inl (cI, 4, .inl z0)), (q66, .inl (cI, 4, .inl z0)), (q75, .inl (cI, 160, .inl z0)), (q83, .inl (cI, 40, .inl z0)), (q91, .inl (cI, 41, .inl z0)), (q99, .inl (cI, 10, .inl z0)), (q107, .inl (cI, 40, .inl z0)), (h0, .inr (8, [.ref q8, .ref q17, .ref q26, .ref q35, .int 0, .int 0, .ref q43, .int 0, .int 0, .int 0, .int 0, .int 0, .int 0, .int 0, .int 0, .ref q52, .int 0, .ref q59, .ref q66, .ref q75, .ref q83, .ref q91, .ref q99, .ref q107, .int 0, .int 0, .int 0, .int 0])), (q52, .inl (cI, 2000, .inl m2))]) rfl ?_
  refine q_aload_n X dX9_init_170 0 rfl rfl ?_
  refine q_get (q0 := 12) (v := .ref q8) X dX9_init_171 i_X9 v_X9 rfl 0 (Nat.le_of_ble_eq_true rfl) h_774 rfl ?_
  refine q_bipush X dX9_init_174 (v := 9) (by decide) ?_
  refine q_iconst X dX9_init_176 (v := 2) (by decide) ?_
  refine q_iload_n X dX9_init_177 1 rfl rfl ?_
  refine q_imul X dX9_init_178 (v := 10) (by decide) ?_
  refine q_iadd X dX9_init_179 (v := 19) (by decide) ?_
  refine q_iconst X dX9_init_180 (v := 1) (by decide) ?_
  refine q_iadd X dX9_init_181 (v := 20) (by decide) ?_
  refine q_iconst X dX9_init_182 (v := 3) (by decide) ?_
  refine q_iast (q0 := 0) X 0 dX9_init_183 rfl rfl (by unfold vp_in; decide) (kk := 20) (by decide) (ws' := [(q8, .inl (cI, 257, .inl mA_16)), (q17, .inl (cI, 257, .inl z0)), (q26, .inl (cI, 257, .inl z0)), (q35, .inl (cI, 257, .inl z0)), (q43, .inl (cI, 6, .inl z0)), (q59, .inl (cI, 4, .inl z0)), (q66, .inl (cI, 4, .inl z0)), (q75, .inl (cI, 160, .inl z0)), (q83, .inl (cI, 40, .inl z0)), (q91, .inl (cI, 41, .inl z0)), (q99, .inl (cI, 10, .inl z0)), (q107, .inl (cI, 40, .inl z0)), (h0, .inr (8, [.ref q8, .ref q17, .ref q26, .ref q35, .int 0, .int 0, .ref q43, .int 0, .int 0, .int 0, .int 0, .int 0, .int 0, .int 0, .int 0, .ref q52, .int 0, .ref q59, .ref q66, .ref q75, .ref q83, .ref q91, .ref q99, .ref q107, .int 0, .int 0, .int 0, .int 0])), (q52, .inl (cI, 2000, .inl m2))]) rfl ?_
  refine q_iinc (L' := [(0, .ref h0), (1, .int 6)]) (v := 6) X dX9_init_184 1 rfl (by decide) [1, 0] rfl (Nat.le_of_ble_eq_true rfl) ?_
  refine q_goto X 149 dX9_init_187 (by decide) ?_
  refine q_iload_n X dX9_init_149 1 rfl rfl ?_
  refine q_bipush X dX9_init_150 (v := 16) (by decide) ?_
  refine q_icmp_ge X 190 dX9_init_152 (by decide) (fun h => absurd h (by decide)) (fun _ => ?_)
  refine q_aload_n X dX9_init_155 0 rfl rfl ?_
  refine q_get (q0 := 12) (v := .ref q8) X dX9_init_156 i_X9 v_X9 rfl 0 (Nat.le_of_ble_eq_true rfl) h_774 rfl ?_
  refine q_bipush X dX9_init_159 (v := 9) (by decide) ?_
  refine q_iconst X dX9_init_161 (v := 2) (by decide) ?_
  refine q_iload_n X dX9_init_162 1 rfl rfl ?_
  refine q_imul X dX9_init_163 (v := 12) (by decide) ?_
  refine q_iadd X dX9_init_164 (v := 21) (by decide) ?_
  refine q_iload_n X dX9_init_165 1 rfl rfl ?_
  refine q_bipush X dX9_init_166 (v := 10) (by decide) ?_
  refine q_irem X dX9_init_168 (by decide) (v := 6) (by decide) ?_
  refine q_iast (q0 := 0) X 0 dX9_init_169 rfl rfl (by unfold vp_in; decide) (kk := 21) (by decide) (ws' := [(q8, .inl (cI, 257, .inl mA_17)), (q17, .inl (cI, 257, .inl z0)), (q26, .inl (cI, 257, .inl z0)), (q35, .inl (cI, 257, .inl z0)), (q43, .inl (cI, 6, .inl z0)), (q59, .inl (cI, 4, .inl z0)), (q66, .inl (cI, 4, .inl z0)), (q75, .inl (cI, 160, .inl z0)), (q83, .inl (cI, 40, .inl z0)), (q91, .inl (cI, 41, .inl z0)), (q99, .inl (cI, 10, .inl z0)), (q107, .inl (cI, 40, .inl z0)), (h0, .inr (8, [.ref q8, .ref q17, .ref q26, .ref q35, .int 0, .int 0, .ref q43, .int 0, .int 0, .int 0, .int 0, .int 0, .int 0, .int 0, .int 0, .ref q52, .int 0, .ref q59, .ref q66, .ref q75, .ref q83, .ref q91, .ref q99, .ref q107, .int 0, .int 0, .int 0, .int 0])), (q52, .inl (cI, 2000, .inl m2))]) rfl ?_
  refine q_aload_n X dX9_init_170 0 rfl rfl ?_
  refine q_get (q0 := 12) (v := .ref q8) X dX9_init_171 i_X9 v_X9 rfl 0 (Nat.le_of_ble_eq_true rfl) h_774 rfl ?_
  refine q_bipush X dX9_init_174 (v := 9) (by decide) ?_
  refine q_iconst X dX9_init_176 (v := 2) (by decide) ?_
  refine q_iload_n X dX9_init_177 1 rfl rfl ?_
  refine q_imul X dX9_init_178 (v := 12) (by decide) ?_
  refine q_iadd X dX9_init_179 (v := 21) (by decide) ?_
  refine q_iconst X dX9_init_180 (v := 1) (by decide) ?_
  refine q_iadd X dX9_init_181 (v := 22) (by decide) ?_
  refine q_iconst X dX9_init_182 (v := 3) (by decide) ?_
  refine q_iast (q0 := 0) X 0 dX9_init_183 rfl rfl (by unfold vp_in; decide) (kk := 22) (by decide) (ws' := [(q8, .inl (cI, 257, .inl mA_18)), (q17, .inl (cI, 257, .inl z0)), (q26, .inl (cI, 257, .inl z0)), (q35, .inl (cI, 257, .inl z0)), (q43, .inl (cI, 6, .inl z0)), (q59, .inl (cI, 4, .inl z0)), (q66, .inl (cI, 4, .inl z0)), (q75, .inl (cI, 160, .inl z0)), (q83, .inl (cI, 40, .inl z0)), (q91, .inl (cI, 41, .inl z0)), (q99, .inl (cI, 10, .inl z0)), (q107, .inl (cI, 40, .inl z0)), (h0, .inr (8, [.ref q8, .ref q17, .ref q26, .ref q35, .int 0, .int 0, .ref q43, .int 0, .int 0, .int 0, .int 0, .int 0, .int 0, .int 0, .int 0, .ref q52, .int 0, .ref q59, .ref q66, .ref q75, .ref q83, .ref q91, .ref q99, .ref q107, .int 0, .int 0, .int 0, .int 0])), (q52, .inl (cI, 2000, .inl m2))]) rfl ?_
  refine q_iinc (L' := [(0, .ref h0), (1, .int 7)]) (v := 7) X dX9_init_184 1 rfl (by decide) [1, 0] rfl (Nat.le_of_ble_eq_true rfl) ?_
  refine q_goto X 149 dX9_init_187 (by decide) ?_
  refine q_iload_n X dX9_init_149 1 rfl rfl ?_
  refine q_bipush X dX9_init_150 (v := 16) (by decide) ?_
  refine q_icmp_ge X 190 dX9_init_152 (by decide) (fun h => absurd h (by decide)) (fun _ => ?_)
  refine q_aload_n X dX9_init_155 0 rfl rfl ?_
  refine q_get (q0 := 12) (v := .ref q8) X dX9_init_156 i_X9 v_X9 rfl 0 (Nat.le_of_ble_eq_true rfl) h_774 rfl ?_
  refine q_bipush X dX9_init_159 (v := 9) (by decide) ?_
  refine q_iconst X dX9_init_161 (v := 2) (by decide) ?_
  refine q_iload_n X dX9_init_162 1 rfl rfl ?_
  refine q_imul X dX9_init_163 (v := 14) (by decide) ?_
  refine q_iadd X dX9_init_164 (v := 23) (by decide) ?_
  refine q_iload_n X dX9_init_165 1 rfl rfl ?_
  refine q_bipush X dX9_init_166 (v := 10) (by decide) ?_
  refine q_irem X dX9_init_168 (by decide) (v := 7) (by decide) ?_
  refine q_iast (q0 := 0) X 0 dX9_init_169 rfl rfl (by unfold vp_in; decide) (kk := 23) (by decide) (ws' := [(q8, .inl (cI, 257, .inl mA_19)), (q17, .inl (cI, 257, .inl z0)), (q26, .inl (cI, 257, .inl z0)), (q35, .inl (cI, 257, .inl z0)), (q43, .inl (cI, 6, .inl z0)), (q59, .inl (cI, 4, .inl z0)), (q66, .inl (cI, 4, .inl z0)), (q75, .inl (cI, 160, .inl z0)), (q83, .inl (cI, 40, .inl z0)), (q91, .inl (cI, 41, .inl z0)), (q99, .inl (cI, 10, .inl z0)), (q107, .inl (cI, 40, .inl z0)), (h0, .inr (8, [.ref q8, .ref q17, .ref q26, .ref q35, .int 0, .int 0, .ref q43, .int 0, .int 0, .int 0, .int 0, .int 0, .int 0, .int 0, .int 0, .ref q52, .int 0, .ref q59, .ref q66, .ref q75, .ref q83, .ref q91, .ref q99, .ref q107, .int 0, .int 0, .int 0, .int 0])), (q52, .inl (cI, 2000, .inl m2))]) rfl ?_
  refine q_aload_n X dX9_init_170 0 rfl rfl ?_
  refine q_get (q0 := 12) (v := .ref q8) X dX9_init_171 i_X9 v_X9 rfl 0 (Nat.le_of_ble_eq_true rfl) h_774 rfl ?_
  refine q_bipush X dX9_init_174 (v := 9) (by decide) ?_
  refine q_iconst X dX9_init_176 (v := 2) (by decide) ?_
  refine q_iload_n X dX9_init_177 1 rfl rfl ?_
  refine q_imul X dX9_init_178 (v := 14) (by decide) ?_
  refine q_iadd X dX9_init_179 (v := 23) (by decide) ?_
  refine q_iconst X dX9_init_180 (v := 1) (by decide) ?_
  refine q_iadd X dX9_init_181 (v := 24) (by decide) ?_
  refine q_iconst X dX9_init_182 (v := 3) (by decide) ?_
  refine q_iast (q0 := 0) X 0 dX9_init_183 rfl rfl (by unfold vp_in; decide) (kk := 24) (by decide) (ws' := [(q8, .inl (cI, 257, .inl mA_20)), (q17, .inl (cI, 257, .inl z0)), (q26, .inl (cI, 257, .inl z0)), (q35, .inl (cI, 257, .inl z0)), (q43, .inl (cI, 6, .inl z0)), (q59, .inl (cI, 4, .inl z0)), (q66, .inl (cI, 4, .inl z0)), (q75, .inl (cI, 160, .inl z0)), (q83, .inl (cI, 40, .inl z0)), (q91, .inl (cI, 41, .inl z0)), (q99, .inl (cI, 10, .inl z0)), (q107, .inl (cI, 40, .inl z0)), (h0, .inr (8, [.ref q8, .ref q17, .ref q26, .ref q35, .int 0, .int 0, .ref q43, .int 0, .int 0, .int 0, .int 0, .int 0, .int 0, .int 0, .int 0, .ref q52, .int 0, .ref q59, .ref q66, .ref q75, .ref q83, .ref q91, .ref q99, .ref q107, .int 0, .int 0, .int 0, .int 0])), (q52, .inl (cI, 2000, .inl m2))]) rfl ?_
  refine q_iinc (L' := [(0, .ref h0), (1, .int 8)]) (v := 8) X dX9_init_184 1 rfl (by decide) [1, 0] rfl (Nat.le_of_ble_eq_true rfl) ?_
  refine q_goto X 149 dX9_init_187 (by decide) ?_
  refine q_iload_n X dX9_init_149 1 rfl rfl ?_
  refine q_bipush X dX9_init_150 (v := 16) (by decide) ?_
  refine q_icmp_ge X 190 dX9_init_152 (by decide) (fun h => absurd h (by decide)) (fun _ => ?_)
  refine q_aload_n X dX9_init_155 0 rfl rfl ?_
  refine q_get (q0 := 12) (v := .ref q8) X dX9_init_156 i_X9 v_X9 rfl 0 (Nat.le_of_ble_eq_true rfl) h_774 rfl ?_
  refine q_bipush X dX9_init_159 (v := 9) (by decide) ?_
  refine q_iconst X dX9_init_161 (v := 2) (by decide) ?_
  refine q_iload_n X dX9_init_162 1 rfl rfl ?_
  refine q_imul X dX9_init_163 (v := 16) (by decide) ?_
  refine q_iadd X dX9_init_164 (v := 25) (by decide) ?_
  refine q_iload_n X dX9_init_165 1 rfl rfl ?_
  refine q_bipush X dX9_init_166 (v := 10) (by decide) ?_
  refine q_irem X dX9_init_168 (by decide) (v := 8) (by decide) ?_
  refine q_iast (q0 := 0) X 0 dX9_init_169 rfl rfl (by unfold vp_in; decide) (kk := 25) (by decide) (ws' := [(q8, .inl (cI, 257, .inl mA_21)), (q17, .inl (cI, 257, .inl z0)), (q26, .inl (cI, 257, .inl z0)), (q35, .inl (cI, 257, .inl z0)), (q43, .inl (cI, 6, .inl z0)), (q59, .inl (cI, 4, .inl z0)), (q66, .inl (cI, 4, .inl z0)), (q75, .inl (cI, 160, .inl z0)), (q83, .inl (cI, 40, .inl z0)), (q91, .inl (cI, 41, .inl z0)), (q99, .inl (cI, 10, .inl z0)), (q107, .inl (cI, 40, .inl z0)), (h0, .inr (8, [.ref q8, .ref q17, .ref q26, .ref q35, .int 0, .int 0, .ref q43, .int 0, .int 0, .int 0, .int 0, .int 0, .int 0, .int 0, .int 0, .ref q52, .int 0, .ref q59, .ref q66, .ref q75, .ref q83, .ref q91, .ref q99, .ref q107, .int 0, .int 0, .int 0, .int 0])), (q52, .inl (cI, 2000, .inl m2))]) rfl ?_
  refine q_aload_n X dX9_init_170 0 rfl rfl ?_
  refine q_get (q0 := 12) (v := .ref q8) X dX9_init_171 i_X9 v_X9 rfl 0 (Nat.le_of_ble_eq_true rfl) h_774 rfl ?_
  refine q_bipush X dX9_init_174 (v := 9) (by decide) ?_
  refine q_iconst X dX9_init_176 (v := 2) (by decide) ?_
  refine q_iload_n X dX9_init_177 1 rfl rfl ?_
  refine q_imul X dX9_init_178 (v := 16) (by decide) ?_
  refine q_iadd X dX9_init_179 (v := 25) (by decide) ?_
  refine q_iconst X dX9_init_180 (v := 1) (by decide) ?_
  refine q_iadd X dX9_init_181 (v := 26) (by decide) ?_
  refine q_iconst X dX9_init_182 (v := 3) (by decide) ?_
  refine q_iast (q0 := 0) X 0 dX9_init_183 rfl rfl (by unfold vp_in; decide) (kk := 26) (by decide) (ws' := [(q8, .inl (cI, 257, .inl mA_22)), (q17, .inl (cI, 257, .inl z0)), (q26, .inl (cI, 257, .inl z0)), (q35, .inl (cI, 257, .inl z0)), (q43, .inl (cI, 6, .inl z0)), (q59, .inl (cI, 4, .inl z0)), (q66, .inl (cI, 4, .inl z0)), (q75, .inl (cI, 160, .inl z0)), (q83, .inl (cI, 40, .inl z0)), (q91, .inl (cI, 41, .inl z0)), (q99, .inl (cI, 10, .inl z0)), (q107, .inl (cI, 40, .inl z0)), (h0, .inr (8, [.ref q8, .ref q17, .ref q26, .ref q35, .int 0, .int 0, .ref q43, .int 0, .int 0, .int 0, .int 0, .int 0, .int 0, .int 0, .int 0, .ref q52, .int 0, .ref q59, .ref q66, .ref q75, .ref q83, .ref q91, .ref q99, .ref q107, .int 0, .int 0, .int 0, .int 0])), (q52, .inl (cI, 2000, .inl m2))]) rfl ?_
  refine q_iinc (L' := [(0, .ref h0), (1, .int 9)]) (v := 9) X dX9_init_184 1 rfl (by decide) [1, 0] rfl (Nat.le_of_ble_eq_true rfl) ?_
  refine q_goto X 149 dX9_init_187 (by decide) ?_
  refine q_iload_n X dX9_init_149 1 rfl rfl ?_
  refine q_bipush X dX9_init_150 (v := 16) (by decide) ?_
  refine q_icmp_ge X 190 dX9_init_152 (by decide) (fun h => absurd h (by decide)) (fun _ => ?_)
  refine q_aload_n X dX9_init_155 0 rfl rfl ?_
  refine q_get (q0 := 12) (v := .ref q8) X dX9_init_156 i_X9 v_X9 rfl 0 (Nat.le_of_ble_eq_true rfl) h_774 rfl ?_
  refine q_bipush X dX9_init_159 (v := 9) (by decide) ?_
  refine q_iconst X dX9_init_161 (v := 2) (by decide) ?_
  refine q_iload_n X dX9_init_162 1 rfl rfl ?_
  refine q_imul X dX9_init_163 (v := 18) (by decide) ?_
  refine q_iadd X dX9_init_164 (v := 27) (by decide) ?_
  refine q_iload_n X dX9_init_165 1 rfl rfl ?_
  refine q_bipush X dX9_init_166 (v := 10) (by decide) ?_
  refine q_irem X dX9_init_168 (by decide) (v := 9) (by decide) ?_
  refine q_iast (q0 := 0) X 0 dX9_init_169 rfl rfl (by unfold vp_in; decide) (kk := 27) (by decide) (ws' := [(q8, .inl (cI, 257, .inl mA_23)), (q17, .inl (cI, 257, .inl z0)), (q26, .inl (cI, 257, .inl z0)), (q35, .inl (cI, 257, .inl z0)), (q43, .inl (cI, 6, .inl z0)), (q59, .inl (cI, 4, .inl z0)), (q66, .inl (cI, 4, .inl z0)), (q75, .inl (cI, 160, .inl z0)), (q83, .inl (cI, 40, .inl z0)), (q91, .inl (cI, 41, .inl z0)), (q99, .inl (cI, 10, .inl z0)), (q107, .inl (cI, 40, .inl z0)), (h0, .inr (8, [.ref q8, .ref q17, .ref q26, .ref q35, .int 0, .int 0, .ref q43, .int 0, .int 0, .int 0, .int 0, .int 0, .int 0, .int 0, .int 0, .ref q52, .int 0, .ref q59, .ref q66, .ref q75, .ref q83, .ref q91, .ref q99, .ref q107, .int 0, .int 0, .int 0, .int 0])), (q52, .inl (cI, 2000, .inl m2))]) rfl ?_
  refine q_aload_n X dX9_init_170 0 rfl rfl ?_
  refine q_get (q0 := 12) (v := .ref q8) X dX9_init_171 i_X9 v_X9 rfl 0 (Nat.le_of_ble_eq_true rfl) h_774 rfl ?_
  refine q_bipush X dX9_init_174 (v := 9) (by decide) ?_
  refine q_iconst X dX9_init_176 (v := 2) (by decide) ?_
  refine q_iload_n X dX9_init_177 1 rfl rfl ?_
  refine q_imul X dX9_init_178 (v := 18) (by decide) ?_
  refine q_iadd X dX9_init_179 (v := 27) (by decide) ?_
  refine q_iconst X dX9_init_180 (v := 1) (by decide) ?_
  refine q_iadd X dX9_init_181 (v := 28) (by decide) ?_
  refine q_iconst X dX9_init_182 (v := 3) (by decide) ?_
  refine q_iast (q0 := 0) X 0 dX9_init_183 rfl rfl (by unfold vp_in; decide) (kk := 28) (by decide) (ws' := [(q8, .inl (cI, 257, .inl mA_24)), (q17, .inl (cI, 257, .inl z0)), (q26, .inl (cI, 257, .inl z0)), (q35, .inl (cI, 257, .inl z0)), (q43, .inl (cI, 6, .inl z0)), (q59, .inl (cI, 4, .inl z0)), (q66, .inl (cI, 4, .inl z0)), (q75, .inl (cI, 160, .inl z0)), (q83, .inl (cI, 40, .inl z0)), (q91, .inl (cI, 41, .inl z0)), (q99, .inl (cI, 10, .inl z0)), (q107, .inl (cI, 40, .inl z0)), (h0, .inr (8, [.ref q8, .ref q17, .ref q26, .ref q35, .int 0, .int 0, .ref q43, .int 0, .int 0, .int 0, .int 0, .int 0, .int 0, .int 0, .int 0, .ref q52, .int 0, .ref q59, .ref q66, .ref q75, .ref q83, .ref q91, .ref q99, .ref q107, .int 0, .int 0, .int 0, .int 0])), (q52, .inl (cI, 2000, .inl m2))]) rfl ?_
  refine q_iinc (L' := [(0, .ref h0), (1, .int 10)]) (v := 10) X dX9_init_184 1 rfl (by decide) [1, 0] rfl (Nat.le_of_ble_eq_true rfl) ?_
  refine q_goto X 149 dX9_init_187 (by decide) ?_
  refine q_iload_n X dX9_init_149 1 rfl rfl ?_
  refine q_bipush X dX9_init_150 (v := 16) (by decide) ?_
  refine q_icmp_ge X 190 dX9_init_152 (by decide) (fun h => absurd h (by decide)) (fun _ => ?_)
  refine q_aload_n X dX9_init_155 0 rfl rfl ?_
  refine q_get (q0 := 12) (v := .ref q8) X dX9_init_156 i_X9 v_X9 rfl 0 (Nat.le_of_ble_eq_true rfl) h_774 rfl ?_
  refine q_bipush X dX9_init_159 (v := 9) (by decide) ?_
  refine q_iconst X dX9_init_161 (v := 2) (by decide) ?_
  refine q_iload_n X dX9_init_162 1 rfl rfl ?_
  refine q_imul X dX9_init_163 (v := 20) (by decide) ?_
  refine q_iadd X dX9_init_164 (v := 29) (by decide) ?_
  refine q_iload_n X dX9_init_165 1 rfl rfl ?_
  refine q_bipush X dX9_init_166 (v := 10) (by decide) ?_
  refine q_irem X dX9_init_168 (by decide) (v := 0) (by decide) ?_
  refine q_iast (q0 := 0) X 0 dX9_init_169 rfl rfl (by unfold vp_in; decide) (kk := 29) (by decide) (ws' := [(q8, .inl (cI, 257, .inl mA_25)), (q17, .inl (cI, 257, .inl z0)), (q26, .inl (cI, 257, .inl z0)), (q35, .inl (cI, 257, .inl z0)), (q43, .inl (cI, 6, .inl z0)), (q59, .inl (cI, 4, .inl z0)), (q66, .inl (cI, 4, .inl z0)), (q75, .inl (cI, 160, .inl z0)), (q83, .inl (cI, 40, .inl z0)), (q91, .inl (cI, 41, .inl z0)), (q99, .inl (cI, 10, .inl z0)), (q107, .inl (cI, 40, .inl z0)), (h0, .inr (8, [.ref q8, .ref q17, .ref q26, .ref q35, .int 0, .int 0, .ref q43, .int 0, .int 0, .int 0, .int 0, .int 0, .int 0, .int 0, .int 0, .ref q52, .int 0, .ref q59, .ref q66, .ref q75, .ref q83, .ref q91, .ref q99, .ref q107, .int 0, .int 0, .int 0, .int 0])), (q52, .inl (cI, 2000, .inl m2))]) rfl ?_
  refine q_aload_n X dX9_init_170 0 rfl rfl ?_
  refine q_get (q0 := 12) (v := .ref q8) X dX9_init_171 i_X9 v_X9 rfl 0 (Nat.le_of_ble_eq_true rfl) h_774 rfl ?_
  refine q_bipush X dX9_init_174 (v := 9) (by decide) ?_
  refine q_iconst X dX9_init_176 (v := 2) (by decide) ?_
  refine q_iload_n X dX9_init_177 1 rfl rfl ?_
  refine q_imul X dX9_init_178 (v := 20) (by decide) ?_
  refine q_iadd X dX9_init_179 (v := 29) (by decide) ?_
  refine q_iconst X dX9_init_180 (v := 1) (by decide) ?_
  refine q_iadd X dX9_init_181 (v := 30) (by decide) ?_
  refine q_iconst X dX9_init_182 (v := 3) (by decide) ?_
  refine q_iast (q0 := 0) X 0 dX9_init_183 rfl rfl (by unfold vp_in; decide) (kk := 30) (by decide) (ws' := [(q8, .inl (cI, 257, .inl mA_26)), (q17, .inl (cI, 257, .inl z0)), (q26, .inl (cI, 257, .inl z0)), (q35, .inl (cI, 257, .inl z0)), (q43, .inl (cI, 6, .inl z0)), (q59, .inl (cI, 4, .inl z0)), (q66, .inl (cI, 4, .inl z0)), (q75, .inl (cI, 160, .inl z0)), (q83, .inl (cI, 40, .inl z0)), (q91, .inl (cI, 41, .inl z0)), (q99, .inl (cI, 10, .inl z0)), (q107, .inl (cI, 40, .inl z0)), (h0, .inr (8, [.ref q8, .ref q17, .ref q26, .ref q35, .int 0, .int 0, .ref q43, .int 0, .int 0, .int 0, .int 0, .int 0, .int 0, .int 0, .int 0, .ref q52, .int 0, .ref q59, .ref q66, .ref q75, .ref q83, .ref q91, .ref q99, .ref q107, .int 0, .int 0, .int 0, .int 0])), (q52, .inl (cI, 2000, .inl m2))]) rfl ?_
  refine q_iinc (L' := [(0, .ref h0), (1, .int 11)]) (v := 11) X dX9_init_184 1 rfl (by decide) [1, 0] rfl (Nat.le_of_ble_eq_true rfl) ?_
  refine q_goto X 149 dX9_init_187 (by decide) ?_
  refine q_iload_n X dX9_init_149 1 rfl rfl ?_
  refine q_bipush X dX9_init_150 (v := 16) (by decide) ?_
  refine q_icmp_ge X 190 dX9_init_152 (by decide) (fun h => absurd h (by decide)) (fun _ => ?_)
  refine q_aload_n X dX9_init_155 0 rfl rfl ?_
  refine q_get (q0 := 12) (v := .ref q8) X dX9_init_156 i_X9 v_X9 rfl 0 (Nat.le_of_ble_eq_true rfl) h_774 rfl ?_
  refine q_bipush X dX9_init_159 (v := 9) (by decide) ?_
  refine q_iconst X dX9_init_161 (v := 2) (by decide) ?_
  refine q_iload_n X dX9_init_162 1 rfl rfl ?_
  refine q_imul X dX9_init_163 (v := 22) (by decide) ?_
  refine q_iadd X dX9_init_164 (v := 31) (by decide) ?_
  refine q_iload_n X dX9_init_165 1 rfl rfl ?_
  refine q_bipush X dX9_init_166 (v := 10) (by decide) ?_
  refine q_irem X dX9_init_168 (by decide) (v := 1) (by decide) ?_
  refine q_iast (q0 := 0) X 0 dX9_init_169 rfl rfl (by unfold vp_in; decide) (kk := 31) (by decide) (ws' := [(q8, .inl (cI, 257, .inl mA_27)), (q17, .inl (cI, 257, .inl z0)), (q26, .inl (cI, 257, .inl z0)), (q35, .inl (cI, 257, .inl z0)), (q43, .inl (cI, 6, .inl z0)), (q59, .inl (cI, 4, .inl z0)), (q66, .inl (cI, 4, .inl z0)), (q75, .inl (cI, 160, .inl z0)), (q83, .inl (cI, 40, .inl z0)), (q91, .inl (cI, 41, .inl z0)), (q99, .inl (cI, 10, .inl z0)), (q107, .inl (cI, 40, .inl z0)), (h0, .inr (8, [.ref q8, .ref q17, .ref q26, .ref q35, .int 0, .int 0, .ref q43, .int 0, .int 0, .int 0, .int 0, .int 0, .int 0, .int 0, .int 0, .ref q52, .int 0, .ref q59, .ref q66, .ref q75, .ref q83, .ref q91, .ref q99, .ref q107, .int 0, .int 0, .int 0, .int 0])), (q52, .inl (cI, 2000, .inl m2))]) rfl ?_
  refine q_aload_n X dX9_init_170 0 rfl rfl ?_
  refine q_get (q0 := 12) (v := .ref q8) X dX9_init_171 i_X9 v_X9 rfl 0 (Nat.le_of_ble_eq_true rfl) h_774 rfl ?_
  refine q_bipush X dX9_init_174 (v := 9) (by decide) ?_
  refine q_iconst X dX9_init_176 (v := 2) (by decide) ?_
  refine q_iload_n X dX9_init_177 1 rfl rfl ?_
  refine q_imul X dX9_init_178 (v := 22) (by decide) ?_
  refine q_iadd X dX9_init_179 (v := 31) (by decide) ?_
  refine q_iconst X dX9_init_180 (v := 1) (by decide) ?_
  refine q_iadd X dX9_init_181 (v := 32) (by decide) ?_
  refine q_iconst X dX9_init_182 (v := 3) (by decide) ?_
  refine q_iast (q0 := 0) X 0 dX9_init_183 rfl rfl (by unfold vp_in; decide) (kk := 32) (by decide) (ws' := [(q8, .inl (cI, 257, .inl mA_28)), (q17, .inl (cI, 257, .inl z0)), (q26, .inl (cI, 257, .inl z0)), (q35, .inl (cI, 257, .inl z0)), (q43, .inl (cI, 6, .inl z0)), (q59, .inl (cI, 4, .inl z0)), (q66, .inl (cI, 4, .inl z0)), (q75, .inl (cI, 160, .inl z0)), (q83, .inl (cI, 40, .inl z0)), (q91, .inl (cI, 41, .inl z0)), (q99, .inl (cI, 10, .inl z0)), (q107, .inl (cI, 40, .inl z0)), (h0, .inr (8, [.ref q8, .ref q17, .ref q26, .ref q35, .int 0, .int 0, .ref q43, .int 0, .int 0, .int 0, .int 0, .int 0, .int 0, .int 0, .int 0, .ref q52, .int 0, .ref q59, .ref q66, .ref q75, .ref q83, .ref q91, .ref q99, .ref q107, .int 0, .int 0, .int 0, .int 0])), (q52, .inl (cI, 2000, .inl m2))]) rfl ?_
  refine q_iinc (L' := [(0, .ref h0), (1, .int 12)]) (v := 12) X dX9_init_184 1 rfl (by decide) [1, 0] rfl (Nat.le_of_ble_eq_true rfl) ?_
  refine q_goto X 149 dX9_init_187 (by decide) ?_
  refine q_iload_n X dX9_init_149 1 rfl rfl ?_
  refine q_bipush X dX9_init_150 (v := 16) (by decide) ?_
  refine q_icmp_ge X 190 dX9_init_152 (by decide) (fun h => absurd h (by decide)) (fun _ => ?_)
  refine q_aload_n X dX9_init_155 0 rfl rfl ?_
  refine q_get (q0 := 12) (v := .ref q8) X dX9_init_156 i_X9 v_X9 rfl 0 (Nat.le_of_ble_eq_true rfl) h_774 rfl ?_
  refine q_bipush X dX9_init_159 (v := 9) (by decide) ?_
  refine q_iconst X dX9_init_161 (v := 2) (by decide) ?_
  refine q_iload_n X dX9_init_162 1 rfl rfl ?_
  refine q_imul X dX9_init_163 (v := 24) (by decide) ?_
  refine q_iadd X dX9_init_164 (v := 33) (by decide) ?_
  refine q_iload_n X dX9_init_165 1 rfl rfl ?_
  refine q_bipush X dX9_init_166 (v := 10) (by decide) ?_
  refine q_irem X dX9_init_168 (by decide) (v := 2) (by decide) ?_
  refine q_iast (q0 := 0) X 0 dX9_init_169 rfl rfl (by unfold vp_in; decide) (kk := 33) (by decide) (ws' := [(q8, .inl (cI, 257, .inl mA_29)), (q17, .inl (cI, 257, .inl z0)), (q26, .inl (cI, 257, .inl z0)), (q35, .inl (cI, 257, .inl z0)), (q43, .inl (cI, 6, .inl z0)), (q59, .inl (cI, 4, .inl z0)), (q66, .inl (cI, 4, .inl z0)), (q75, .inl (cI, 160, .inl z0)), (q83, .inl (cI, 40, .inl z0)), (q91, .inl (cI, 41, .inl z0)), (q99, .inl (cI, 10, .inl z0)), (q107, .inl (cI, 40, .inl z0)), (h0, .inr (8, [.ref q8, .ref q17, .ref q26, .ref q35, .int 0, .int 0, .ref q43, .int 0, .int 0, .int 0, .int 0, .int 0, .int 0, .int 0, .int 0, .ref q52, .int 0, .ref q59, .ref q66, .ref q75, .ref q83, .ref q91, .ref q99, .ref q107, .int 0, .int 0, .int 0, .int 0])), (q52, .inl (cI, 2000, .inl m2))]) rfl ?_
  refine q_aload_n X dX9_init_170 0 rfl rfl ?_
  refine q_get (q0 := 12) (v := .ref q8) X dX9_init_171 i_X9 v_X9 rfl 0 (Nat.le_of_ble_eq_true rfl) h_774 rfl ?_
  refine q_bipush X dX9_init_174 (v := 9) (by decide) ?_
  refine q_iconst X dX9_init_176 (v := 2) (by decide) ?_
  refine q_iload_n X dX9_init_177 1 rfl rfl ?_
  refine q_imul X dX9_init_178 (v := 24) (by decide) ?_
  refine q_iadd X dX9_init_179 (v := 33) (by decide) ?_
  refine q_iconst X dX9_init_180 (v := 1) (by decide) ?_
  refine q_iadd X dX9_init_181 (v := 34) (by decide) ?_
  refine q_iconst X dX9_init_182 (v := 3) (by decide) ?_
  refine q_iast (q0 := 0) X 0 dX9_init_183 rfl rfl (by unfold vp_in; decide) (kk := 34) (by decide) (ws' := [(q8, .inl (cI, 257, .inl mA_30)), (q17, .inl (cI, 257, .inl z0)), (q26, .inl (cI, 257, .inl z0)), (q35, .inl (cI, 257, .inl z0)), (q43, .inl (cI, 6, .inl z0)), (q59, .inl (cI, 4, .inl z0)), (q66, .inl (cI, 4, .inl z0)), (q75, .inl (cI, 160, .inl z0)), (q83, .inl (cI, 40, .inl z0)), (q91, .inl (cI, 41, .inl z0)), (q99, .inl (cI, 10, .inl z0)), (q107, .inl (cI, 40, .inl z0)), (h0, .inr (8, [.ref q8, .ref q17, .ref q26, .ref q35, .int 0, .int 0, .ref q43, .int 0, .int 0, .int 0, .int 0, .int 0, .int 0, .int 0, .int 0, .ref q52, .int 0, .ref q59, .ref q66, .ref q75, .ref q83, .ref q91, .ref q99, .ref q107, .int 0, .int 0, .int 0, .int 0])), (q52, .inl (cI, 2000, .inl m2))]) rfl ?_
  refine q_iinc (L' := [(0, .ref h0), (1, .int 13)]) (v := 13) X dX9_init_184 1 rfl (by decide) [1, 0] rfl (Nat.le_of_ble_eq_true rfl) ?_
  refine q_goto X 149 dX9_init_187 (by decide) ?_
  refine q_iload_n X dX9_init_149 1 rfl rfl ?_
  refine q_bipush X dX9_init_150 (v := 16) (by decide) ?_
  refine q_icmp_ge X 190 dX9_init_152 (by decide) (fun h => absurd h (by decide)) (fun _ => ?_)
  refine q_aload_n X dX9_init_155 0 rfl rfl ?_
  refine q_get (q0 := 12) (v := .ref q8) X dX9_init_156 i_X9 v_X9 rfl 0 (Nat.le_of_ble_eq_true rfl) h_774 rfl ?_
  refine q_bipush X dX9_init_159 (v := 9) (by decide) ?_
  refine q_iconst X dX9_init_161 (v := 2) (by decide) ?_
  refine q_iload_n X dX9_init_162 1 rfl rfl ?_
  refine q_imul X dX9_init_163 (v := 26) (by decide) ?_
  refine q_iadd X dX9_init_164 (v := 35) (by decide) ?_
  refine q_iload_n X dX9_init_165 1 rfl rfl ?_
  refine q_bipush X dX9_init_166 (v := 10) (by decide) ?_
  refine q_irem X dX9_init_168 (by decide) (v := 3) (by decide) ?_
  refine q_iast (q0 := 0) X 0 dX9_init_169 rfl rfl (by unfold vp_in; decide) (kk := 35) (by decide) (ws' := [(q8, .inl (cI, 257, .inl mA_31)), (q17, .inl (cI, 257, .inl z0)), (q26, .inl (cI, 257, .inl z0)), (q35, .inl (cI, 257, .inl z0)), (q43, .inl (cI, 6, .inl z0)), (q59, .inl (cI, 4, .inl z0)), (q66, .inl (cI, 4, .inl z0)), (q75, .inl (cI, 160, .inl z0)), (q83, .inl (cI, 40, .inl z0)), (q91, .inl (cI, 41, .inl z0)), (q99, .inl (cI, 10, .inl z0)), (q107, .inl (cI, 40, .inl z0)), (h0, .inr (8, [.ref q8, .ref q17, .ref q26, .ref q35, .int 0, .int 0, .ref q43, .int 0, .int 0, .int 0, .int 0, .int 0, .int 0, .int 0, .int 0, .ref q52, .int 0, .ref q59, .ref q66, .ref q75, .ref q83, .ref q91, .ref q99, .ref q107, .int 0, .int 0, .int 0, .int 0])), (q52, .inl (cI, 2000, .inl m2))]) rfl ?_
  refine q_aload_n X dX9_init_170 0 rfl rfl ?_
  refine q_get (q0 := 12) (v := .ref q8) X dX9_init_171 i_X9 v_X9 rfl 0 (Nat.le_of_ble_eq_true rfl) h_774 rfl ?_
  refine q_bipush X dX9_init_174 (v := 9) (by decide) ?_
  refine q_iconst X dX9_init_176 (v := 2) (by decide) ?_
  refine q_iload_n X dX9_init_177 1 rfl rfl ?_
  refine q_imul X dX9_init_178 (v := 26) (by decide) ?_
  refine q_iadd X dX9_init_179 (v := 35) (by decide) ?_
  refine q_iconst X dX9_init_180 (v := 1) (by decide) ?_
  refine q_iadd X dX9_init_181 (v := 36) (by decide) ?_
  refine q_iconst X dX9_init_182 (v := 3) (by decide) ?_
  refine q_iast (q0 := 0) X 0 dX9_init_183 rfl rfl (by unfold vp_in; decide) (kk := 36) (by decide) (ws' := [(q8, .inl (cI, 257, .inl mA_32)), (q17, .inl (cI, 257, .inl z0)), (q26, .inl (cI, 257, .inl z0)), (q35, .inl (cI, 257, .inl z0)), (q43, .inl (cI, 6, .inl z0)), (q59, .inl (cI, 4, .inl z0)), (q66, .inl (cI, 4, .inl z0)), (q75, .inl (cI, 160, .inl z0)), (q83, .inl (cI, 40, .inl z0)), (q91, .inl (cI, 41, .inl z0)), (q99, .inl (cI, 10, .inl z0)), (q107, .inl (cI, 40, .inl z0)), (h0, .inr (8, [.ref q8, .ref q17, .ref q26, .ref q35, .int 0, .int 0, .ref q43, .int 0, .int 0, .int 0, .int 0, .int 0, .int 0, .int 0, .int 0, .ref q52, .int 0, .ref q59, .ref q66, .ref q75, .ref q83, .ref q91, .ref q99, .ref q107, .int 0, .int 0, .int 0, .int 0])), (q52, .inl (cI, 2000, .inl m2))]) rfl ?_
  refine q_iinc (L' := [(0, .ref h0), (1, .int 14)]) (v := 14) X dX9_init_184 1 rfl (by decide) [1, 0] rfl (Nat.le_of_ble_eq_true rfl) ?_
  refine q_goto X 149 dX9_init_187 (by decide) ?_
  refine q_iload_n X dX9_init_149 1 rfl rfl ?_
  refine q_bipush X dX9_init_150 (v := 16) (by decide) ?_
  refine q_icmp_ge X 190 dX9_init_152 (by decide) (fun h => absurd h (by decide)) (fun _ => ?_)
  refine q_aload_n X dX9_init_155 0 rfl rfl ?_
  refine q_get (q0 := 12) (v := .ref q8) X dX9_init_156 i_X9 v_X9 rfl 0 (Nat.le_of_ble_eq_true rfl) h_774 rfl ?_
  refine q_bipush X dX9_init_159 (v := 9) (by decide) ?_
  refine q_iconst X dX9_init_161 (v := 2) (by decide) ?_
  refine q_iload_n X dX9_init_162 1 rfl rfl ?_
  refine q_imul X dX9_init_163 (v := 28) (by decide) ?_
  refine q_iadd X dX9_init_164 (v := 37) (by decide) ?_
  refine q_iload_n X dX9_init_165 1 rfl rfl ?_
  refine q_bipush X dX9_init_166 (v := 10) (by decide) ?_
  refine q_irem X dX9_init_168 (by decide) (v := 4) (by decide) ?_
  refine q_iast (q0 := 0) X 0 dX9_init_169 rfl rfl (by unfold vp_in; decide) (kk := 37) (by decide) (ws' := [(q8, .inl (cI, 257, .inl mA_33)), (q17, .inl (cI, 257, .inl z0)), (q26, .inl (cI, 257, .inl z0)), (q35, .inl (cI, 257, .inl z0)), (q43, .inl (cI, 6, .inl z0)), (q59, .inl (cI, 4, .inl z0)), (q66, .inl (cI, 4, .inl z0)), (q75, .inl (cI, 160, .inl z0)), (q83, .inl (cI, 40, .inl z0)), (q91, .inl (cI, 41, .inl z0)), (q99, .inl (cI, 10, .inl z0)), (q107, .inl (cI, 40, .inl z0)), (h0, .inr (8, [.ref q8, .ref q17, .ref q26, .ref q35, .int 0, .int 0, .ref q43, .int 0, .int 0, .int 0, .int 0, .int 0, .int 0, .int 0, .int 0, .ref q52, .int 0, .ref q59, .ref q66, .ref q75, .ref q83, .ref q91, .ref q99, .ref q107, .int 0, .int 0, .int 0, .int 0])), (q52, .inl (cI, 2000, .inl m2))]) rfl ?_
  refine q_aload_n X dX9_init_170 0 rfl rfl ?_
  refine q_get (q0 := 12) (v := .ref q8) X dX9_init_171 i_X9 v_X9 rfl 0 (Nat.le_of_ble_eq_true rfl) h_774 rfl ?_
  refine q_bipush X dX9_init_174 (v := 9) (by decide) ?_
  refine q_iconst X dX9_init_176 (v := 2) (by decide) ?_
  refine q_iload_n X dX9_init_177 1 rfl rfl ?_
  refine q_imul X dX9_init_178 (v := 28) (by decide) ?_
  refine q_iadd X dX9_init_179 (v := 37) (by decide) ?_
  refine q_iconst X dX9_init_180 (v := 1) (by decide) ?_
  refine q_iadd X dX9_init_181 (v := 38) (by decide) ?_
  refine q_iconst X dX9_init_182 (v := 3) (by decide) ?_
  refine q_iast (q0 := 0) X 0 dX9_init_183 rfl rfl (by unfold vp_in; decide) (kk := 38) (by decide) (ws' := [(q8, .inl (cI, 257, .inl mA_34)), (q17, .inl (cI, 257, .inl z0)), (q26, .inl (cI, 257, .inl z0)), (q35, .inl (cI, 257, .inl z0)), (q43, .inl (cI, 6, .inl z0)), (q59, .inl (cI, 4, .inl z0)), (q66, .inl (cI, 4, .inl z0)), (q75, .inl (cI, 160, .inl z0)), (q83, .inl (cI, 40, .inl z0)), (q91, .inl (cI, 41, .inl z0)), (q99, .inl (cI, 10, .inl z0)), (q107, .inl (cI, 40, .inl z0)), (h0, .inr (8, [.ref q8, .ref q17, .ref q26, .ref q35, .int 0, .int 0, .ref q43, .int 0, .int 0, .int 0, .int 0, .int 0, .int 0, .int 0, .int 0, .ref q52, .int 0, .ref q59, .ref q66, .ref q75, .ref q83, .ref q91, .ref q99, .ref q107, .int 0, .int 0, .int 0, .int 0])), (q52, .inl (cI, 2000, .inl m2))]) rfl ?_
  refine q_iinc (L' := [(0, .ref h0), (1, .int 15)]) (v := 15) X dX9_init_184 1 rfl (by decide) [1, 0] rfl (Nat.le_of_ble_eq_true rfl) ?_
  refine q_goto X 149 dX9_init_187 (by decide) ?_
  refine q_iload_n X dX9_init_149 1 rfl rfl ?_
  refine q_bipush X dX9_init_150 (v := 16) (by decide) ?_
  refine q_icmp_ge X 190 dX9_init_152 (by decide) (fun h => absurd h (by decide)) (fun _ => ?_)
  refine q_aload_n X dX9_init_155 0 rfl rfl ?_
  refine q_get (q0 := 12) (v := .ref q8) X dX9_init_156 i_X9 v_X9 rfl 0 (Nat.le_of_ble_eq_true rfl) h_774 rfl ?_
  refine q_bipush X dX9_init_159 (v := 9) (by decide) ?_
  refine q_iconst X dX9_init_161 (v := 2) (by decide) ?_
  refine q_iload_n X dX9_init_162 1 rfl rfl ?_
  refine q_imul X dX9_init_163 (v := 30) (by decide) ?_
  refine q_iadd X dX9_init_164 (v := 39) (by decide) ?_
  refine q_iload_n X dX9_init_165 1 rfl rfl ?_
  refine q_bipush X dX9_init_166 (v := 10) (by decide) ?_
  refine q_irem X dX9_init_168 (by decide) (v := 5) (by decide) ?_
  refine q_iast (q0 := 0) X 0 dX9_init_169 rfl rfl (by unfold vp_in; decide) (kk := 39) (by decide) (ws' := [(q8, .inl (cI, 257, .inl mA_35)), (q17, .inl (cI, 257, .inl z0)), (q26, .inl (cI, 257, .inl z0)), (q35, .inl (cI, 257, .inl z0)), (q43, .inl (cI, 6, .inl z0)), (q59, .inl (cI, 4, .inl z0)), (q66, .inl (cI, 4, .inl z0)), (q75, .inl (cI, 160, .inl z0)), (q83, .inl (cI, 40, .inl z0)), (q91, .inl (cI, 41, .inl z0)), (q99, .inl (cI, 10, .inl z0)), (q107, .inl (cI, 40, .inl z0)), (h0, .inr (8, [.ref q8, .ref q17, .ref q26, .ref q35, .int 0, .int 0, .ref q43, .int 0, .int 0, .int 0, .int 0, .int 0, .int 0, .int 0, .int 0, .ref q52, .int 0, .ref q59, .ref q66, .ref q75, .ref q83, .ref q91, .ref q99, .ref q107, .int 0, .int 0, .int 0, .int 0])), (q52, .inl (cI, 2000, .inl m2))]) rfl ?_
  refine q_aload_n X dX9_init_170 0 rfl rfl ?_
  refine q_get (q0 := 12) (v := .ref q8) X dX9_init_171 i_X9 v_X9 rfl 0 (Nat.le_of_ble_eq_true rfl) h_774 rfl ?_
  refine q_bipush X dX9_init_174 (v := 9) (by decide) ?_
  refine q_iconst X dX9_init_176 (v := 2) (by decide) ?_
  refine q_iload_n X dX9_init_177 1 rfl rfl ?_
  refine q_imul X dX9_init_178 (v := 30) (by decide) ?_
  refine q_iadd X dX9_init_179 (v := 39) (by decide) ?_
  refine q_iconst X dX9_init_180 (v := 1) (by decide) ?_
  refine q_iadd X dX9_init_181 (v := 40) (by decide) ?_
  refine q_iconst X dX9_init_182 (v := 3) (by decide) ?_
  refine q_iast (q0 := 0) X 0 dX9_init_183 rfl rfl (by unfold vp_in; decide) (kk := 40) (by decide) (ws' := [(q8, .inl (cI, 257, .inl mA_36)), (q17, .inl (cI, 257, .inl z0)), (q26, .inl (cI, 257, .inl z0)), (q35, .inl (cI, 257, .inl z0)), (q43, .inl (cI, 6, .inl z0)), (q59, .inl (cI, 4, .inl z0)), (q66, .inl (cI, 4, .inl z0)), (q75, .inl (cI, 160, .inl z0)), (q83, .inl (cI, 40, .inl z0)), (q91, .inl (cI, 41, .inl z0)), (q99, .inl (cI, 10, .inl z0)), (q107, .inl (cI, 40, .inl z0)), (h0, .inr (8, [.ref q8, .ref q17, .ref q26, .ref q35, .int 0, .int 0, .ref q43, .int 0, .int 0, .int 0, .int 0, .int 0, .int 0, .int 0, .int 0, .ref q52, .int 0, .ref q59, .ref q66, .ref q75, .ref q83, .ref q91, .ref q99, .ref q107, .int 0, .int 0, .int 0, .int 0])), (q52, .inl (cI, 2000, .inl m2))]) rfl ?_
  refine q_iinc (L' := [(0, .ref h0), (1, .int 16)]) (v := 16) X dX9_init_184 1 rfl (by decide) [1, 0] rfl (Nat.le_of_ble_eq_true rfl) ?_
  refine q_goto X 149 dX9_init_187 (by decide) ?_
  refine q_iload_n X dX9_init_149 1 rfl rfl ?_
  refine q_bipush X dX9_init_150 (v := 16) (by decide) ?_
  refine q_icmp_ge X 190 dX9_init_152 (by decide) (fun _ => ?_) (fun h => absurd (by decide) h)
  refine q_iconst X dX9_init_190 (v := 0) (by decide) ?_
  refine q_istore_n (L' := [(0, .ref h0), (1, .int 0)]) X dX9_init_191 [1, 0] rfl rfl (Nat.le_of_ble_eq_true rfl) ?_
  refine q_iload_n X dX9_init_192 1 rfl rfl ?_
  refine q_bipush X dX9_init_193 (v := 6) (by decide) ?_
  refine q_icmp_ge X 214 dX9_init_195 (by decide) (fun h => absurd h (by decide)) (fun _ => ?_)
  refine q_aload_n X dX9_init_198 0 rfl rfl ?_
  refine q_get (q0 := 12) (v := .ref q8) X dX9_init_199 i_X9 v_X9 rfl 0 (Nat.le_of_ble_eq_true rfl) h_774 rfl ?_
  refine q_bipush X dX9_init_202 (v := 41) (by decide) ?_
  refine q_iload_n X dX9_init_204 1 rfl rfl ?_
  refine q_iadd X dX9_init_205 (v := 41) (by decide) ?_
  refine q_iload_n X dX9_init_206 1 rfl rfl ?_
  refine q_iast (q0 := 0) X 0 dX9_init_207 rfl rfl (by unfold vp_in; decide) (kk := 41) (by decide) (ws' := [(q8, .inl (cI, 257, .inl mA_37)), (q17, .inl (cI, 257, .inl z0)), (q26, .inl (cI, 257, .inl z0)), (q35, .inl (cI, 257, .inl z0)), (q43, .inl (cI, 6, .inl z0)), (q59, .inl (cI, 4, .inl z0)), (q66, .inl (cI, 4, .inl z0)), (q75, .inl (cI, 160, .inl z0)), (q83, .inl (cI, 40, .inl z0)), (q91, .inl (cI, 41, .inl z0)), (q99, .inl (cI, 10, .inl z0)), (q107, .inl (cI, 40, .inl z0)), (h0, .inr (8, [.ref q8, .ref q17, .ref q26, .ref q35, .int 0, .int 0, .ref q43, .int 0, .int 0, .int 0, .int 0, .int 0, .int 0, .int 0, .int 0, .ref q52, .int 0, .ref q59, .ref q66, .ref q75, .ref q83, .ref q91, .ref q99, .ref q107, .int 0, .int 0, .int 0, .int 0])), (q52, .inl (cI, 2000, .inl m2))]) rfl ?_
  refine q_iinc (L' := [(0, .ref h0), (1, .int 1)]) (v := 1) X dX9_init_208 1 rfl (by decide) [1, 0] rfl (Nat.le_of_ble_eq_true rfl) ?_
  refine q_goto X 192 dX9_init_211 (by decide) ?_
  refine q_iload_n X dX9_init_192 1 rfl rfl ?_
  refine q_bipush X dX9_init_193 (v := 6) (by decide) ?_
  refine q_icmp_ge X 214 dX9_init_195 (by decide) (fun h => absurd h (by decide)) (fun _ => ?_)
  refine q_aload_n X dX9_init_198 0 rfl rfl ?_
  refine q_get (q0 := 12) (v := .ref q8) X dX9_init_199 i_X9 v_X9 rfl 0 (Nat.le_of_ble_eq_true rfl) h_774 rfl ?_
  refine q_bipush X dX9_init_202 (v := 41) (by decide) ?_
  refine q_iload_n X dX9_init_204 1 rfl rfl ?_
  refine q_iadd X dX9_init_205 (v := 42) (by decide) ?_
  refine q_iload_n X dX9_init_206 1 rfl rfl ?_
  refine q_iast (q0 := 0) X 0 dX9_init_207 rfl rfl (by unfold vp_in; decide) (kk := 42) (by decide) (ws' := [(q8, .inl (cI, 257, .inl mA_38)), (q17, .inl (cI, 257, .inl z0)), (q26, .inl (cI, 257, .inl z0)), (q35, .inl (cI, 257, .inl z0)), (q43, .inl (cI, 6, .inl z0)), (q59, .inl (cI, 4, .inl z0)), (q66, .inl (cI, 4, .inl z0)), (q75, .inl (cI, 160, .inl z0)), (q83, .inl (cI, 40, .inl z0)), (q91, .inl (cI, 41, .inl z0)), (q99, .inl (cI, 10, .inl z0)), (q107, .inl (cI, 40, .inl z0)), (h0, .inr (8, [.ref q8, .ref q17, .ref q26, .ref q35, .int 0, .int 0, .ref q43, .int 0, .int 0, .int 0, .int 0, .int 0, .int 0, .int 0, .int 0, .ref q52, .int 0, .ref q59, .ref q66, .ref q75, .ref q83, .ref q91, .ref q99, .ref q107, .int 0, .int 0, .int 0, .int 0])), (q52, .inl (cI, 2000, .inl m2))]) rfl ?_
  refine q_iinc (L' := [(0, .ref h0), (1, .int 2)]) (v := 2) X dX9_init_208 1 rfl (by decide) [1, 0] rfl (Nat.le_of_ble_eq_true rfl) ?_
  refine q_goto X 192 dX9_init_211 (by decide) ?_
  refine q_iload_n X dX9_init_192 1 rfl rfl ?_
  refine q_bipush X dX9_init_193 (v := 6) (by decide) ?_
  refine q_icmp_ge X 214 dX9_init_195 (by decide) (fun h => absurd h (by decide)) (fun _ => ?_)
  refine q_aload_n X dX9_init_198 0 rfl rfl ?_
  refine q_get (q0 := 12) (v := .ref q8) X dX9_init_199 i_X9 v_X9 rfl 0 (Nat.le_of_ble_eq_true rfl) h_774 rfl ?_
  refine q_bipush X dX9_init_202 (v := 41) (by decide) ?_
  refine q_iload_n X dX9_init_204 1 rfl rfl ?_
  refine q_iadd X dX9_init_205 (v := 43) (by decide) ?_
  refine q_iload_n X dX9_init_206 1 rfl rfl ?_
  refine q_iast (q0 := 0) X 0 dX9_init_207 rfl rfl (by unfold vp_in; decide) (kk := 43) (by decide) (ws' := [(q8, .inl (cI, 257, .inl mA_39)), (q17, .inl (cI, 257, .inl z0)), (q26, .inl (cI, 257, .inl z0)), (q35, .inl (cI, 257, .inl z0)), (q43, .inl (cI, 6, .inl z0)), (q59, .inl (cI, 4, .inl z0)), (q66, .inl (cI, 4, .inl z0)), (q75, .inl (cI, 160, .inl z0)), (q83, .inl (cI, 40, .inl z0)), (q91, .inl (cI, 41, .inl z0)), (q99, .inl (cI, 10, .inl z0)), (q107, .inl (cI, 40, .inl z0)), (h0, .inr (8, [.ref q8, .ref q17, .ref q26, .ref q35, .int 0, .int 0, .ref q43, .int 0, .int 0, .int 0, .int 0, .int 0, .int 0, .int 0, .int 0, .ref q52, .int 0, .ref q59, .ref q66, .ref q75, .ref q83, .ref q91, .ref q99, .ref q107, .int 0, .int 0, .int 0, .int 0])), (q52, .inl (cI, 2000, .inl m2))]) rfl ?_
  refine q_iinc (L' := [(0, .ref h0), (1, .int 3)]) (v := 3) X dX9_init_208 1 rfl (by decide) [1, 0] rfl (Nat.le_of_ble_eq_true rfl) ?_
  refine q_goto X 192 dX9_init_211 (by decide) ?_
  refine q_iload_n X dX9_init_192 1 rfl rfl ?_
  refine q_bipush X dX9_init_193 (v := 6) (by decide) ?_
  refine q_icmp_ge X 214 dX9_init_195 (by decide) (fun h => absurd h (by decide)) (fun _ => ?_)
  refine q_aload_n X dX9_init_198 0 rfl rfl ?_
  refine q_get (q0 := 12) (v := .ref q8) X dX9_init_199 i_X9 v_X9 rfl 0 (Nat.le_of_ble_eq_true rfl) h_774 rfl ?_
  refine q_bipush X dX9_init_202 (v := 41) (by decide) ?_
  refine q_iload_n X dX9_init_204 1 rfl rfl ?_
  refine q_iadd X dX9_init_205 (v := 44) (by decide) ?_
  refine q_iload_n X dX9_init_206 1 rfl rfl ?_
  refine q_iast (q0 := 0) X 0 dX9_init_207 rfl rfl (by unfold vp_in; decide) (kk := 44) (by decide) (ws' := [(q8, .inl (cI, 257, .inl mA_40)), (q17, .inl (cI, 257, .inl z0)), (q26, .inl (cI, 257, .inl z0)), (q35, .inl (cI, 257, .inl z0)), (q43, .inl (cI, 6, .inl z0)), (q59, .inl (cI, 4, .inl z0)), (q66, .inl (cI, 4, .inl z0)), (q75, .inl (cI, 160, .inl z0)), (q83, .inl (cI, 40, .inl z0)), (q91, .inl (cI, 41, .inl z0)), (q99, .inl (cI, 10, .inl z0)), (q107, .inl (cI, 40, .inl z0)), (h0, .inr (8, [.ref q8, .ref q17, .ref q26, .ref q35, .int 0, .int 0, .ref q43, .int 0, .int 0, .int 0, .int 0, .int 0, .int 0, .int 0, .int 0, .ref q52, .int 0, .ref q59, .ref q66, .ref q75, .ref q83, .ref q91, .ref q99, .ref q107, .int 0, .int 0, .int 0, .int 0])), (q52, .inl (cI, 2000, .inl m2))]) rfl ?_
  refine q_iinc (L' := [(0, .ref h0), (1, .int 4)]) (v := 4) X dX9_init_208 1 rfl (by decide) [1, 0] rfl (Nat.le_of_ble_eq_true rfl) ?_
  refine q_goto X 192 dX9_init_211 (by decide) ?_
  refine q_iload_n X dX9_init_192 1 rfl rfl ?_
  refine q_bipush X dX9_init_193 (v := 6) (by decide) ?_
  refine q_icmp_ge X 214 dX9_init_195 (by decide) (fun h => absurd h (by decide)) (fun _ => ?_)
  refine q_aload_n X dX9_init_198 0 rfl rfl ?_
  refine q_get (q0 := 12) (v := .ref q8) X dX9_init_199 i_X9 v_X9 rfl 0 (Nat.le_of_ble_eq_true rfl) h_774 rfl ?_
  refine q_bipush X dX9_init_202 (v := 41) (by decide) ?_
  refine q_iload_n X dX9_init_204 1 rfl rfl ?_
  refine q_iadd X dX9_init_205 (v := 45) (by decide) ?_
  refine q_iload_n X dX9_init_206 1 rfl rfl ?_
  refine q_iast (q0 := 0) X 0 dX9_init_207 rfl rfl (by unfold vp_in; decide) (kk := 45) (by decide) (ws' := [(q8, .inl (cI, 257, .inl mA_41)), (q17, .inl (cI, 257, .inl z0)), (q26, .inl (cI, 257, .inl z0)), (q35, .inl (cI, 257, .inl z0)), (q43, .inl (cI, 6, .inl z0)), (q59, .inl (cI, 4, .inl z0)), (q66, .inl (cI, 4, .inl z0)), (q75, .inl (cI, 160, .inl z0)), (q83, .inl (cI, 40, .inl z0)), (q91, .inl (cI, 41, .inl z0)), (q99, .inl (cI, 10, .inl z0)), (q107, .inl (cI, 40, .inl z0)), (h0, .inr (8, [.ref q8, .ref q17, .ref q26, .ref q35, .int 0, .int 0, .ref q43, .int 0, .int 0, .int 0, .int 0, .int 0, .int 0, .int 0, .int 0, .ref q52, .int 0, .ref q59, .ref q66, .ref q75, .ref q83, .ref q91, .ref q99, .ref q107, .int 0, .int 0, .int 0, .int 0])), (q52, .inl (cI, 2000, .inl m2))]) rfl ?_
  refine q_iinc (L' := [(0, .ref h0), (1, .int 5)]) (v := 5) X dX9_init_208 1 rfl (by decide) [1, 0] rfl (Nat.le_of_ble_eq_true rfl) ?_
  refine q_goto X 192 dX9_init_211 (by decide) ?_
  refine q_iload_n X dX9_init_192 1 rfl rfl ?_
  refine q_bipush X dX9_init_193 (v := 6) (by decide) ?_
  refine q_icmp_ge X 214 dX9_init_195 (by decide) (fun h => absurd h (by decide)) (fun _ => ?_)
  refine q_aload_n X dX9_init_198 0 rfl rfl ?_
  refine q_get (q0 := 12) (v := .ref q8) X dX9_init_199 i_X9 v_X9 rfl 0 (Nat.le_of_ble_eq_true rfl) h_774 rfl ?_
  refine q_bipush X dX9_init_202 (v := 41) (by decide) ?_
  refine q_iload_n X dX9_init_204 1 rfl rfl ?_
  refine q_iadd X dX9_init_205 (v := 46) (by decide) ?_
  refine q_iload_n X dX9_init_206 1 rfl rfl ?_
  refine q_iast (q0 := 0) X 0 dX9_init_207 rfl rfl (by unfold vp_in; decide) (kk := 46) (by decide) (ws' := [(q8, .inl (cI, 257, .inl mA_42)), (q17, .inl (cI, 257, .inl z0)), (q26, .inl (cI, 257, .inl z0)), (q35, .inl (cI, 257, .inl z0)), (q43, .inl (cI, 6, .inl z0)), (q59, .inl (cI, 4, .inl z0)), (q66, .inl (cI, 4, .inl z0)), (q75, .inl (cI, 160, .inl z0)), (q83, .inl (cI, 40, .inl z0)), (q91, .inl (cI, 41, .inl z0)), (q99, .inl (cI, 10, .inl z0)), (q107, .inl (cI, 40, .inl z0)), (h0, .inr (8, [.ref q8, .ref q17, .ref q26, .ref q35, .int 0, .int 0, .ref q43, .int 0, .int 0, .int 0, .int 0, .int 0, .int 0, .int 0, .int 0, .ref q52, .int 0, .ref q59, .ref q66, .ref q75, .ref q83, .ref q91, .ref q99, .ref q107, .int 0, .int 0, .int 0, .int 0])), (q52, .inl (cI, 2000, .inl m2))]) rfl ?_
  refine q_iinc (L' := [(0, .ref h0), (1, .int 6)]) (v := 6) X dX9_init_208 1 rfl (by decide) [1, 0] rfl (Nat.le_of_ble_eq_true rfl) ?_
  refine q_goto X 192 dX9_init_211 (by decide) ?_
  refine q_iload_n X dX9_init_192 1 rfl rfl ?_
  refine q_bipush X dX9_init_193 (v := 6) (by decide) ?_
  refine q_icmp_ge X 214 dX9_init_195 (by decide) (fun _ => ?_) (fun h => absurd (by decide) h)
  exact q_vret X hlocks hr dX9_init_214 (fun k => ([h0, q8, q17, q26, q35, q43, q52, q59, q66, q75, q83, q91, q99, q107] : List Nat).getD k 0) rfl [12, 0, 1, 2, 3, 4, 13, 5, 6, 7, 8, 9, 10, 11] (by decide) rfl (by constructor <;> exact Nat.le_of_ble_eq_true rfl)
