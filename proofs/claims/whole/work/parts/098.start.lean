theorem wp_split {D : va_G} {cl : List vw_C} {a b : va_W} {H : Heap} (h : va_P D cl (a ++ b) H) : va_P D cl a H ∧ va_P D cl b H :=
  ⟨fun k q hk => h k q (by rw [List.getElem?_append_left (List.getElem?_eq_some_iff.mp hk).1]; exact hk), fun k q hk => h (a.length + k) q (by rw [List.getElem?_append_right (by omega), show a.length + k - a.length = k by omega]; exact hk)⟩
theorem wd_split {A : Nat → Prop} {a b : va_W} (h : va_D A (a ++ b)) : va_D A a ∧ va_D A b ∧ ∀ (i j : Nat) (p q : Nat × va_E), a[i]? = some p → b[j]? = some q → p.1 ≠ q.1 := by
  have hl : ∀ (k : Nat) (q : Nat × va_E), a[k]? = some q → (a ++ b)[k]? = some q := fun k q hk => by rw [List.getElem?_append_left (List.getElem?_eq_some_iff.mp hk).1]; exact hk
  have hr : ∀ (k : Nat) (q : Nat × va_E), b[k]? = some q → (a ++ b)[a.length + k]? = some q := fun k q hk => by rw [List.getElem?_append_right (by omega), show a.length + k - a.length = k by omega]; exact hk
  refine ⟨⟨fun i j p q hi hj e => h.1 i j p q (hl i p hi) (hl j q hj) e, fun k q hk => h.2 k q (hl k q hk)⟩, ⟨fun i j p q hi hj e => ?_, fun k q hk => h.2 _ q (hr k q hk)⟩, fun i j p q hi hj e => ?_⟩
  · have := h.1 _ _ p q (hr i p hi) (hr j q hj) e
    omega
  · have h1 := h.1 _ _ p q (hl i p hi) (hr j q hj) e
    have h2 : i < a.length := (List.getElem?_eq_some_iff.mp hi).1
    omega
theorem wi_of {A : Nat → Prop} {E : EE} {lay : List Shp} {σ : St} (h : va_D A (wws E lay σ)) : WI E lay ∧ ∀ q, WA E lay q → A q := by
  refine ⟨fun i j hi hj e => h.1 i j _ _ (wws_get σ (List.getElem?_eq_getElem hi)) (wws_get σ (List.getElem?_eq_getElem hj)) e, fun q hq => ?_⟩
  obtain ⟨k, hk, rfl⟩ := hq
  exact h.2 k _ (wws_get σ (List.getElem?_eq_getElem hk))
theorem wn_of {E F : EE} {lay lay' : List Shp} {σ τ : St} (h : ∀ (i j : Nat) (p q : Nat × va_E), (wws E lay σ)[i]? = some p → (wws F lay' τ)[j]? = some q → p.1 ≠ q.1) : ∀ q, WA E lay q → WA F lay' q → False := by
  intro q h1 h2
  obtain ⟨i, hi, rfl⟩ := h1
  obtain ⟨j, hj, e⟩ := h2
  exact h i j _ _ (wws_get σ (List.getElem?_eq_getElem hi)) (wws_get τ (List.getElem?_eq_getElem hj)) e
theorem ar_of {args : Array Value} {s : State} {ty : FieldType} (hr : ∀ cA, s.vm.findClass ("[" ++ ty.toString) = some cA → va_RA s cA ty) (h : (Cond.arrayClass ty).before args s = true) : ∃ cA, ArrOfT s cA ty ∧ va_RA s cA ty := by
  obtain ⟨cA, kA, comp, h1, h2, h3⟩ := Cond.arrayClass_spec h
  exact ⟨cA, fun n z => ⟨fun k h => (by cases h), kA, h2, comp, h3⟩, hr cA h1⟩
theorem ao_of {s : State} {C : String} (h : va_AO C s) : ∃ cA, ArrOfT s cA (.object C) ∧ va_RA s cA (.object C) := by
  obtain ⟨comp, cA, kA, h1, h2, h3, h4, h5⟩ := Cond.arrayOver_spec h
  exact ⟨cA, fun n z => ⟨fun k h => (by cases h), kA, h3, comp, h4⟩, kA, comp, h3, h4, h1, h5⟩
theorem q_astore_n {D : va_G} {A : Nat → Prop} {tys : List (ClassId × FieldType)} {p : Program} {l : Launch} {e : Env} {R : Room} {s : State} {m : MethodId} {args : Array Value} {below : List Frame} {meth : Method} {c : Code} {cc : ByteArray} {own : String} {nL cells slots : Nat} {Q : State → Prop} {pc : Nat} {L L' : List (Nat × Value)} {st : List Value} {ws : va_W} (X : Cy D A tys p s m args c cc own nL) {i : Fin 4} {j : Nat} {x : Nat} (hd : decode cc pc = .ok (.astore_n i, 1)) (ks : List Nat) (hL : lv_pick ((j, Value.ref x) :: L.filter (fun q => !(q.1 == j) && !(q.1 + 1 == j && q.2.category == 2))) ks = L') (hi : (i : Nat) = j) (hn : j < nL) (k : BW D A p l e R s m args below meth c nL cells slots Q (pc + 1) L' st ws) : BW D A p l e R s m args below meth c nL cells slots Q pc L (.ref x :: st) ws :=
  fun H locs ls hP hD hS hl => lv_astore_n X.1 X.2.1 hd hi hl hn rfl (fun ls' hl' => k H locs ls' hP hD hS (lv_sub hl' ks hL))

theorem j_80 : Cond.classLink RL 7 RX8 ∈ gw := gwm 80 (by decide +kernel) (by decide +kernel)
theorem j_81 : Cond.instantiable RX8 11 ∈ gw := gwm 81 (by decide +kernel) (by decide +kernel)
theorem j_82 : Cond.methodLink RL 9 yX8_init ∈ gw := gwm 82 (by decide +kernel) (by decide +kernel)
theorem j_83 : Cond.instanceMethod yX8_init ∈ gw := gwm 83 (by decide +kernel) (by decide +kernel)
theorem j_84 : Cond.code yX8_init cX8_init 2 none ∈ gw := gwm 84 (by decide +kernel) (by decide +kernel)
theorem j_764 : Cond.classLink RL 10 RX9 ∈ gw := gwm 764 (by decide +kernel) (by decide +kernel)
theorem j_765 : Cond.instantiable RX9 28 ∈ gw := gwm 765 (by decide +kernel) (by decide +kernel)
theorem j_766 : Cond.methodLink RL 12 yX9_init ∈ gw := gwm 766 (by decide +kernel) (by decide +kernel)
theorem j_767 : Cond.instanceMethod yX9_init ∈ gw := gwm 767 (by decide +kernel) (by decide +kernel)
theorem j_768 : Cond.code yX9_init cX9_init 2 none ∈ gw := gwm 768 (by decide +kernel) (by decide +kernel)
theorem ln_9 : Cond.methodLinkNest RX8 9 yX7_init "ScullerySweets" ∈ lw_tbl := List.mem_of_getElem? (i := 90) (by decide +kernel)
theorem ln_56 : Cond.methodLinkNest RX8 56 yX6_init "ScullerySweets" ∈ lw_tbl := List.mem_of_getElem? (i := 253) (by decide +kernel)
theorem ln_67 : Cond.methodLinkNest RX8 67 yX5_init "ScullerySweets" ∈ lw_tbl := List.mem_of_getElem? (i := 276) (by decide +kernel)
theorem ln_ao : Cond.arrayOver (.object "ScullerySweets$Sheet") ∈ lw_tbl := List.mem_of_getElem? (i := 274) (by decide +kernel)
theorem ln_s1 : Cond.laysStatic "ScullerySweets$Kinds" "ABOVE" "[I" ∈ lw_tbl := List.mem_of_getElem? (i := 444) (by decide +kernel)
theorem ln_s2 : Cond.laysStatic "ScullerySweets$Voices" "BODIES" "[I" ∈ lw_tbl := List.mem_of_getElem? (i := 676) (by decide +kernel)
theorem ln_i1 : Cond.initialized "ScullerySweets$Kinds" ∈ lw_tbl := List.mem_of_getElem? (i := 78) (by decide +kernel)
theorem ln_i2 : Cond.initialized "ScullerySweets$Voices" ∈ lw_tbl := List.mem_of_getElem? (i := 75) (by decide +kernel)
/-! THE CLAIM OUT OF ONE WALK OF THE LAW'S BODY. Your part is whole_start (and what it stands on); all else here is the same for every law, but numbers. -/
def R_law : String := "ScullerySweetsLaw"
def lw_P (b : Addr) (xs : List Int32) (args : Array Value) (s : State) : Prop := args = #[.ref b] ∧ s.IntsAt b xs ∧ xs.length ≤ 3072 ∧ (Jvm.Cond.and given_1 narrow_1).before args s = true
def lw_Q (_ : Array Value) (s : State) (o : Outcome) (t : State) : Prop := o = .returned (some (.int 1)) ∧ Framed s o t [] 600000 7302250
def lw_Z (below : List Frame) (a : Array Value) (s : State) : State → Prop := fun t => ∃ o, t.status = .running ∧ Ended t below o ∧ lw_Q a s o t
/-- the law's own end, with 1 on the stack, nothing written that was there before, its room as the claim has it -/
theorem lw_ret {p : Program} {l : Launch} {e : Env} {s : State} {m : MethodId} {below : List Frame} {meth : Method} {c : Code} {b : Nat} (hx : p.tables.exec = Jvm.exec) (hb : c.code = code) (hr : meth.sig.returnType = ret) (hlocks : meth.locks = false) {pc : Nat} {H : Heap} {ls : Array Slot} (hdg : decode code pc = .ok (.ireturn, 1)) : W p l e room_1 s m #[Value.ref b] below meth c H [] 600000 7302250 (lw_Z below #[Value.ref b] s) (F0 m pc ls [.int 1]) := by
  intro T hT X
  obtain ⟨fs, hret, hrun, hended, hW, hframe⟩ := X.leave (v := some (.int 1)) (hlocks := hlocks) (fun h => by rw [hr] at h; cases h)
  have hmeth' : T.vm.method? m = some meth := X.method'
  refine ⟨T.setFrames fs, ?_, .returned (some (.int 1)), hrun, hended, rfl, ⟨_, rfl⟩, hW, hframe⟩
  jvm_step X.here [X.here.top, hx, hb, hdg, hmeth', hr, ret, narrow_b1]
  (try refine ⟨rfl, ?_⟩); (try refine ⟨rfl, ?_⟩)
  first | (intro acts; rw [hret _ acts rfl rfl rfl]) | rw [hret _ _ rfl rfl rfl]
  exact Steps.refl _
/-- what holds at the law's entry: the machine, the code, the tables' words (any of lw_tbl by 'hts w (by decide +kernel)'), the script of L ints xs at the cell b, what the Statement gives of the start (any of its parts by flat_of_before) -/
def lw_At (p : Program) (s : State) (m : MethodId) (meth : Method) (c : Code) (b L : Nat) (xs : Nat → Int32) : Prop :=
  p.tables.exec = Jvm.exec ∧ c.code = code ∧ meth.sig.returnType = ret ∧ c.maxLocals = 4 ∧ s.vm.findClass R_law = some m.cls ∧ (∀ w ∈ lw_tbl, w.before #[Value.ref b] s = true) ∧ va_X b L xs s s.heap ∧ b < s.heap.size ∧ meth.locks = false ∧ (Jvm.Cond.and given_1 narrow_1).before #[Value.ref b] s = true
theorem nw_C {p : Program} {s : State} {m : MethodId} {meth : Method} {c : Code} {b L : Nat} {xs : Nat → Int32} (C0 : lw_At p s m meth c b L xs) : NwC s :=
  ⟨va_Nw.of rfl (C0.2.2.2.2.2.1 _ ln_9), va_Nw.of rfl (C0.2.2.2.2.2.1 _ ln_56), va_Nw.of rfl (C0.2.2.2.2.2.1 _ ln_67), va_AO.of (C0.2.2.2.2.2.1 _ ln_ao)⟩
theorem nw_b (a : Array Value) (U : State) (g : JFrame) (mk : MethodId) (h : NwC U) : NwC (U.calling g mk a) :=
  ⟨va_Nw.same rfl rfl h.1, va_Nw.same rfl rfl h.2.1, va_Nw.same rfl rfl h.2.2.1, va_AO.moved (u := U) (U := U.calling g mk a) (Vm.Alike.refl U.vm) h.2.2.2⟩
theorem nw_w {s U : State} (h : NwC s) (hW : s.WarmedH U.vm) : NwC U :=
  ⟨va_Nw.warmM hW h.1, va_Nw.warmM hW h.2.1, va_Nw.warmM hW h.2.2.1, va_AO.moved hW.alike h.2.2.2⟩
set_option maxRecDepth 100000 in
theorem wz_at {p : Program} {s : State} {m : MethodId} {meth : Method} {c : Code} {b L : Nat} {xs : Nat → Int32} (C0 : lw_At p s m meth c b L xs) : ∃ sA : Nat × Nat, ∀ (D : va_G) (f : Nat → Nat) (cs : ClassId × ClassId × ClassId), WZ (D, f, cs, sA) (LA s) s s.heap := by
  obtain ⟨hx, hb, hr, hml, hown, hts, hX, hbl, hlocks, hgv⟩ := C0
  have hf := flat_of_before _ hgv
  have hA : ∀ a : Nat, a < s.heap.size → ¬ LA s a := fun a h => Nat.not_le.mpr h
  obtain ⟨tA, htA, hTA⟩ := va_Tof (tm := .static "ScullerySweets$Kinds" "ABOVE" "[I") (ty := .int) (N := 7) (f := fun j => .int (kAB j)) (A := LA s) (by decide) (hf _ (by decide +kernel)) (va_eqt (hf _ (by decide +kernel))) (fun j hj => by
    rcases (show j = 0 ∨ j = 1 ∨ j = 2 ∨ j = 3 ∨ j = 4 ∨ j = 5 ∨ j = 6 by omega) with rfl | rfl | rfl | rfl | rfl | rfl | rfl <;> exact va_eqt (hf _ (by decide +kernel))) hA
  obtain ⟨tB, htB, hTB⟩ := va_Tof (tm := .static "ScullerySweets$Voices" "BODIES" "[I") (ty := .int) (N := 28) (f := fun j => .int (kBO j)) (A := LA s) (by decide) (hf _ (by decide +kernel)) (va_eqt (hf _ (by decide +kernel))) (fun j hj => by
    rcases (show j = 0 ∨ j = 1 ∨ j = 2 ∨ j = 3 ∨ j = 4 ∨ j = 5 ∨ j = 6 ∨ j = 7 ∨ j = 8 ∨ j = 9 ∨ j = 10 ∨ j = 11 ∨ j = 12 ∨ j = 13 ∨ j = 14 ∨ j = 15 ∨ j = 16 ∨ j = 17 ∨ j = 18 ∨ j = 19 ∨ j = 20 ∨ j = 21 ∨ j = 22 ∨ j = 23 ∨ j = 24 ∨ j = 25 ∨ j = 26 ∨ j = 27 by omega) with rfl | rfl | rfl | rfl | rfl | rfl | rfl | rfl | rfl | rfl | rfl | rfl | rfl | rfl | rfl | rfl | rfl | rfl | rfl | rfl | rfl | rfl | rfl | rfl | rfl | rfl | rfl | rfl <;> exact va_eqt (hf _ (by decide +kernel))) hA
  exact ⟨(tA, tB), fun D f cs => ⟨⟨va_Zof (hts _ ln_s1) (hts _ ln_i1) htA hA, hTA⟩, ⟨va_Zof (hts _ ln_s2) (hts _ ln_i2) htB hA, hTB⟩⟩⟩
theorem kn_at {s : State} {args : Array Value} (hts : ∀ w ∈ gw, w.before args s = true) (hAO : va_AO "ScullerySweets$Sheet" s) : ∃ (D : va_G) (cI cB cS : ClassId), va_K D vwCl (tyL cI cB cS) s := by
  obtain ⟨c0, iS0, hK0⟩ := u_known (C := RX0) (T := TX0) (N := 13) (n := 13) hts i_X0 (hts _ h_95)
  obtain ⟨c1, iS1, hK1⟩ := u_known (C := RX2) (T := TX2) (N := 4) (n := 4) hts i_X2 (hts _ h_204)
  obtain ⟨c2, iS2, hK2⟩ := u_known (C := RX3) (T := TX3) (N := 5) (n := 5) hts i_X3 (hts _ h_227)
  obtain ⟨c3, iS3, hK3⟩ := u_known (C := RX4) (T := TX4) (N := 2) (n := 2) hts i_X4 (hts _ h_154)
  obtain ⟨c4, iS4, hK4⟩ := u_known (C := RX5) (T := TX5) (N := 3) (n := 3) hts i_X5 (hts _ h_275)
  obtain ⟨c5, iS5, hK5⟩ := u_known (C := RX6) (T := TX6) (N := 4) (n := 4) hts i_X6 (hts _ h_252)
  obtain ⟨c6, iS6, hK6⟩ := u_known (C := RX7) (T := TX7) (N := 6) (n := 6) hts i_X7 (hts _ h_89)
  obtain ⟨c7, iS7, hK7⟩ := u_known (C := RX8) (T := TX8) (N := 11) (n := 11) hts i_X8 (hts _ j_81)
  obtain ⟨c8, iS8, hK8⟩ := u_known (C := RX9) (T := TX9) (N := 28) (n := 28) hts i_X9 (hts _ j_765)
  obtain ⟨cI, hI⟩ := ar_of (ty := .int) (fun _ h => h) (hts _ h_152)
  obtain ⟨cB, hB⟩ := ar_of (ty := .byte) (fun _ h => h) (hts _ h_225)
  obtain ⟨cS, hS⟩ := ao_of hAO
  refine ⟨(fun k => ([c0, c1, c2, c3, c4, c5, c6, c7, c8] : List ClassId).getD k c0, fun k => ([iS0, iS1, iS2, iS3, iS4, iS5, iS6, iS7, iS8] : List (Nat → Nat)).getD k iS0), cI, cB, cS, fun k q hq => ?_, fun k q hq => ?_⟩
  · match k, hq with
    | 0, hq => cases hq; exact hK0
    | 1, hq => cases hq; exact hK1
    | 2, hq => cases hq; exact hK2
    | 3, hq => cases hq; exact hK3
    | 4, hq => cases hq; exact hK4
    | 5, hq => cases hq; exact hK5
    | 6, hq => cases hq; exact hK6
    | 7, hq => cases hq; exact hK7
    | 8, hq => cases hq; exact hK8
    | k + 9, hq => simp [vwCl] at hq
  · match k, hq with
    | 0, hq => cases hq; exact hI
    | 1, hq => cases hq; exact hB
    | 2, hq => cases hq; exact hS
    | k + 3, hq => simp [tyL] at hq
set_option maxHeartbeats 1000000 in
set_option maxRecDepth 100000 in
theorem whole_start {p : Program} {e : Env} {s : State} {m : MethodId} {below : List Frame} {meth : Method} {c : Code} (l : Launch) {b L : Nat} {xs : Nat → Int32} (hL : L ≤ 3072) (C0 : lw_At p s m meth c b L xs) : W p l e room_1 s m #[Value.ref b] below meth c s.heap [] 0 0 (lw_Z below #[Value.ref b] s) (entryFrame m ([Value.ref b] : List Value).toArray 4) := by
  obtain ⟨sA, hWZ⟩ := wz_at C0
  have hNw := nw_C C0
  obtain ⟨hx, hb, hr, hml, hown, hts, hX, hbl, hlocks, hgv⟩ := C0
  have htsG : ∀ w ∈ gw, w.before #[Value.ref b] s = true := fun w hw => hts w (List.mem_filter.mp hw).1
  obtain ⟨D, cI, cB, cS, hK⟩ := kn_at htsG hNw.2.2.2
  have X : Cy D (LA s) (tyL cI cB cS) p s m #[Value.ref b] c cL_law RL 4 := ⟨hx, hb, hml, hown, htsG, hK, fun q h => h⟩
  have hl := lv_entry ([.ref b]) (n := 4) (Nat.le_of_ble_eq_true rfl)
  rw [lg_entry_eq]
  have key : BW D (LA s) p l e room_1 s m #[Value.ref b] below meth c 4 0 0 (lw_Z below #[Value.ref b] s) 0 [(0, .ref b)] [] [] := by
    refine q_new X i_X8 tyX8_ok j_80 j_81 g_67 v_X8 df_X8 (by constructor <;> exact Nat.le_of_ble_eq_true rfl) dL_law_0 (fun q0 => ?_)
    refine q_dup X dL_law_3 rfl ?_
    refine q_callI X (b := q0) (wr := []) [] [.ref q0] (i_Class (cI := cI) (cB := cB) (cS := cS)) dL_law_4 j_82 j_83 g_67 j_84 rfl nX8_init rfl rfl (Nat.le_of_ble_eq_true rfl) ?_ ?_ nw_b (fun U hW => nw_w hNw hW) [0] [] (by decide) rfl rfl (by decide) (by decide) ?_
    · constructor <;> exact Nat.le_of_ble_eq_true rfl
    · constructor <;> exact Nat.le_of_ble_eq_true rfl
    intro f1 hf
    subst hf
    refine q_ws (ws' := wClass cI cB cS f1) rfl ?_
    refine q_astore_n (L' := [(0, .ref b), (1, .ref (f1 0))]) X dL_law_7 [1, 0] rfl rfl (by decide) ?_
    refine q_new X i_X9 tyX9_ok j_764 j_765 h_77 v_X9 df_X9 (by constructor <;> exact Nat.le_of_ble_eq_true rfl) dL_law_8 (fun q8 => ?_)
    refine q_dup X dL_law_11 rfl ?_
    refine q_callEI X (b := q8) [] [.ref q8] (i_Model (cB := cB) (cS := cS)) dL_law_12 j_766 j_767 h_77 j_768 rfl nX9_init rfl rfl (Nat.le_of_ble_eq_true rfl) ?_ ?_ (wr := wClass cI cB cS f1) ?_
    · constructor <;> exact Nat.le_of_ble_eq_true rfl
    · constructor <;> exact Nat.le_of_ble_eq_true rfl
    intro f2 hf
    subst hf
    refine q_astore_n (L' := [(0, .ref b), (1, .ref (f1 0)), (2, .ref (f2 0))]) X dL_law_15 [1, 2, 0] rfl rfl (by decide) ?_
    refine q_iconst X dL_law_16 (v := 0) (by decide) ?_
    refine q_istore_n (L' := [(0, .ref b), (1, .ref (f1 0)), (2, .ref (f2 0)), (3, .int (nI 0))]) X dL_law_17 [1, 2, 3, 0] rfl rfl (by decide) ?_
    intro H locs ls hP hD hS hl
    rw [wClass_eq D cI cB cS sA f1, wModel_eq D cI cB cS sA f2] at hP hD
    obtain ⟨hP1, hP2⟩ := wp_split hP
    obtain ⟨hD1, hD2, hDn⟩ := wd_split hD
    have hI1 := wi_of hD1
    have hI2 := wi_of hD2
    have XL : LCx (D, f1, (cI, cB, cS), sA) (D, f2, (cI, cB, cS), sA) p s m c b L xs := ⟨hx, hb, hml, hown, htsG, ⟨hX, hbl⟩, ⟨hK, hI1.1, hWZ D f1 (cI, cB, cS), hI1.2⟩, ⟨hK, hI2.1, hWZ D f2 (cI, cB, cS), hI2.2⟩, wn_of hDn⟩
    refine law_loop XL hL ?_ ?_ 3073 0 0 s0C s0M (Nat.zero_le _) (by omega) (Nat.le_refl 0) rel0 H locs ls hP1 hP2 hS hl
    · constructor <;> exact Nat.le_of_ble_eq_true rfl
    · intro σ τ Lc
      refine zt_iconst XL dL_law_1578 (v := 1) (by decide) ?_
      intro H locs ls hP1 hP2 hS hl
      refine va_forget (fun q hq => hS.2.2 q hq) ?_
      refine W.widen (k := 600000) (n := 7302250) ?_ ?_ (lw_ret hx hb hr hlocks dL_law_1579)
      · exact Nat.le_of_ble_eq_true rfl
      · exact Nat.le_of_ble_eq_true rfl
  exact key s.heap [] _ (fun k q h => by simp at h) ⟨fun i j p q h => by simp at h, fun k q h => by simp at h⟩ va_S.rf hl
