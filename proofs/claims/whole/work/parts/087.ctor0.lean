/-! constructors: words, rows that are made -/
abbrev z0 : Nat → Int32 := fun _ => 0
def tyL (cI cB cS : ClassId) : List (ClassId × FieldType) := [(cI, .int), (cB, .byte), (cS, .object "ScullerySweets$Sheet")]
theorem q_sub {D : va_G} {A : Nat → Prop} {p : Program} {l : Launch} {e : Env} {R : Room} {s : State} {m : MethodId} {args : Array Value} {below : List Frame} {meth : Method} {c : Code} {nL cells slots : Nat} {Q : State → Prop} {pc : Nat} {L L' : List (Nat × Value)} {st : List Value} {ws : va_W} (ks : List Nat) (hL : lv_pick L ks = L') (k : BW D A p l e R s m args below meth c nL cells slots Q pc L' st ws) : BW D A p l e R s m args below meth c nL cells slots Q pc L st ws :=
  fun H locs ls hP hD hS hl => k H locs ls hP hD hS (lv_sub hl ks hL)
theorem df_X0 : ∀ j, j < 13 → defaultValue (tyX0 j) = vp_V [.null, .null, .null, .null, .null, .null, .null, .null, .null, .int 0, .int 0, .int 0, .int 0] j := by
  intro j hj
  rcases (show j = 0 ∨ j = 1 ∨ j = 2 ∨ j = 3 ∨ j = 4 ∨ j = 5 ∨ j = 6 ∨ j = 7 ∨ j = 8 ∨ j = 9 ∨ j = 10 ∨ j = 11 ∨ j = 12 by omega) with rfl | rfl | rfl | rfl | rfl | rfl | rfl | rfl | rfl | rfl | rfl | rfl | rfl <;> rfl
theorem nX0_init : yX0_init.cls ≠ "java/lang/invoke/MethodHandle" ∧ yX0_init.cls ≠ "java/lang/invoke/VarHandle" ∧ (parseMethodDescriptor yX0_init.desc).map (fun d => d.parameters.length) = some 0 := by decide +kernel
theorem df_X2 : ∀ j, j < 4 → defaultValue (tyX2 j) = vp_V [.null, .null, .null, .null] j := by
  intro j hj
  rcases (show j = 0 ∨ j = 1 ∨ j = 2 ∨ j = 3 by omega) with rfl | rfl | rfl | rfl <;> rfl
theorem nX2_init : yX2_init.cls ≠ "java/lang/invoke/MethodHandle" ∧ yX2_init.cls ≠ "java/lang/invoke/VarHandle" ∧ (parseMethodDescriptor yX2_init.desc).map (fun d => d.parameters.length) = some 2 := by decide +kernel
theorem df_X3 : ∀ j, j < 5 → defaultValue (tyX3 j) = vp_V [.null, .null, .int 0, .int 0, .int 0] j := by
  intro j hj
  rcases (show j = 0 ∨ j = 1 ∨ j = 2 ∨ j = 3 ∨ j = 4 by omega) with rfl | rfl | rfl | rfl | rfl <;> rfl
theorem nX3_init : yX3_init.cls ≠ "java/lang/invoke/MethodHandle" ∧ yX3_init.cls ≠ "java/lang/invoke/VarHandle" ∧ (parseMethodDescriptor yX3_init.desc).map (fun d => d.parameters.length) = some 1 := by decide +kernel
theorem df_X4 : ∀ j, j < 2 → defaultValue (tyX4 j) = vp_V [.null, .int 0] j := by
  intro j hj
  rcases (show j = 0 ∨ j = 1 by omega) with rfl | rfl <;> rfl
theorem nX4_init : yX4_init.cls ≠ "java/lang/invoke/MethodHandle" ∧ yX4_init.cls ≠ "java/lang/invoke/VarHandle" ∧ (parseMethodDescriptor yX4_init.desc).map (fun d => d.parameters.length) = some 1 := by decide +kernel
theorem df_X5 : ∀ j, j < 3 → defaultValue (tyX5 j) = vp_V [.null, .int 0, .int 0] j := by
  intro j hj
  rcases (show j = 0 ∨ j = 1 ∨ j = 2 by omega) with rfl | rfl | rfl <;> rfl
theorem nX5_init : yX5_init.cls ≠ "java/lang/invoke/MethodHandle" ∧ yX5_init.cls ≠ "java/lang/invoke/VarHandle" ∧ (parseMethodDescriptor yX5_init.desc).map (fun d => d.parameters.length) = some 0 := by decide +kernel
theorem df_X6 : ∀ j, j < 4 → defaultValue (tyX6 j) = vp_V [.null, .int 0, .int 0, .int 0] j := by
  intro j hj
  rcases (show j = 0 ∨ j = 1 ∨ j = 2 ∨ j = 3 by omega) with rfl | rfl | rfl | rfl <;> rfl
theorem nX6_init : yX6_init.cls ≠ "java/lang/invoke/MethodHandle" ∧ yX6_init.cls ≠ "java/lang/invoke/VarHandle" ∧ (parseMethodDescriptor yX6_init.desc).map (fun d => d.parameters.length) = some 0 := by decide +kernel
theorem df_X7 : ∀ j, j < 6 → defaultValue (tyX7 j) = vp_V [.null, .null, .null, .null, .null, .int 0] j := by
  intro j hj
  rcases (show j = 0 ∨ j = 1 ∨ j = 2 ∨ j = 3 ∨ j = 4 ∨ j = 5 by omega) with rfl | rfl | rfl | rfl | rfl | rfl <;> rfl
theorem nX7_init : yX7_init.cls ≠ "java/lang/invoke/MethodHandle" ∧ yX7_init.cls ≠ "java/lang/invoke/VarHandle" ∧ (parseMethodDescriptor yX7_init.desc).map (fun d => d.parameters.length) = some 0 := by decide +kernel
theorem df_X8 : ∀ j, j < 11 → defaultValue (tyX8 j) = vp_V [.null, .null, .null, .null, .null, .null, .null, .null, .null, .null, .int 0] j := by
  intro j hj
  rcases (show j = 0 ∨ j = 1 ∨ j = 2 ∨ j = 3 ∨ j = 4 ∨ j = 5 ∨ j = 6 ∨ j = 7 ∨ j = 8 ∨ j = 9 ∨ j = 10 by omega) with rfl | rfl | rfl | rfl | rfl | rfl | rfl | rfl | rfl | rfl | rfl <;> rfl
theorem nX8_init : yX8_init.cls ≠ "java/lang/invoke/MethodHandle" ∧ yX8_init.cls ≠ "java/lang/invoke/VarHandle" ∧ (parseMethodDescriptor yX8_init.desc).map (fun d => d.parameters.length) = some 0 := by decide +kernel
theorem df_X9 : ∀ j, j < 28 → defaultValue (tyX9 j) = vp_V [.null, .null, .null, .null, .int 0, .int 0, .null, .int 0, .int 0, .int 0, .int 0, .int 0, .int 0, .int 0, .int 0, .null, .int 0, .null, .null, .null, .null, .null, .null, .null, .int 0, .int 0, .int 0, .int 0] j := by
  intro j hj
  rcases (show j = 0 ∨ j = 1 ∨ j = 2 ∨ j = 3 ∨ j = 4 ∨ j = 5 ∨ j = 6 ∨ j = 7 ∨ j = 8 ∨ j = 9 ∨ j = 10 ∨ j = 11 ∨ j = 12 ∨ j = 13 ∨ j = 14 ∨ j = 15 ∨ j = 16 ∨ j = 17 ∨ j = 18 ∨ j = 19 ∨ j = 20 ∨ j = 21 ∨ j = 22 ∨ j = 23 ∨ j = 24 ∨ j = 25 ∨ j = 26 ∨ j = 27 by omega) with rfl | rfl | rfl | rfl | rfl | rfl | rfl | rfl | rfl | rfl | rfl | rfl | rfl | rfl | rfl | rfl | rfl | rfl | rfl | rfl | rfl | rfl | rfl | rfl | rfl | rfl | rfl | rfl <;> rfl
theorem nX9_init : yX9_init.cls ≠ "java/lang/invoke/MethodHandle" ∧ yX9_init.cls ≠ "java/lang/invoke/VarHandle" ∧ (parseMethodDescriptor yX9_init.desc).map (fun d => d.parameters.length) = some 0 := by decide +kernel
/-- the first i places hold v, the others 0 -/
def ff (v : Int32) (i : Nat) : Nat → Int32 := fun j => if j < i then v else 0
theorem ff_0 (v : Int32) : ff v 0 = z0 := by funext j; simp [ff]
theorem ff_s (v : Int32) (i : Nat) : upd (ff v i) i v = ff v (i + 1) := by
  funext j
  simp only [upd, ff]
  by_cases h : j = i
  · subst h; simp
  · rw [if_neg h]
    by_cases h2 : j < i
    · rw [if_pos h2, if_pos (by omega)]
    · rw [if_neg h2, if_neg (by omega)]
def m1 : Nat → Int32 := ff (-1) 1800
def m2 : Nat → Int32 := ff (-1) 2000
def rmFill : Room := { frames := 0, cells := 0, slots := 0, locals := 0 }
def NwC (U : State) : Prop := (va_Nw (.methodLinkNest RX8 9 yX7_init "ScullerySweets") U ∧ va_Nw (.methodLinkNest RX8 56 yX6_init "ScullerySweets") U ∧ va_Nw (.methodLinkNest RX8 67 yX5_init "ScullerySweets") U ∧ va_AO "ScullerySweets$Sheet" U)
theorem h_20 : Cond.selects RX9 yX9_forgets yX9_forgets ∈ gw := gwm 20 (by decide +kernel) (by decide +kernel)
theorem h_68 : Cond.initialized RX7 ∈ gw := gwm 68 (by decide +kernel) (by decide +kernel)
theorem h_69 : Cond.initialized RX0 ∈ gw := gwm 69 (by decide +kernel) (by decide +kernel)
theorem h_70 : Cond.initialized RX4 ∈ gw := gwm 70 (by decide +kernel) (by decide +kernel)
theorem h_71 : Cond.initialized "java/lang/Math" ∈ gw := gwm 71 (by decide +kernel) (by decide +kernel)
theorem h_72 : Cond.initialized RX2 ∈ gw := gwm 72 (by decide +kernel) (by decide +kernel)
theorem h_73 : Cond.initialized RJ7 ∈ gw := gwm 73 (by decide +kernel) (by decide +kernel)
theorem h_74 : Cond.initialized RX3 ∈ gw := gwm 74 (by decide +kernel) (by decide +kernel)
theorem h_75 : Cond.initialized RX6 ∈ gw := gwm 75 (by decide +kernel) (by decide +kernel)
theorem h_76 : Cond.initialized RX5 ∈ gw := gwm 76 (by decide +kernel) (by decide +kernel)
theorem h_77 : Cond.initialized RX9 ∈ gw := gwm 77 (by decide +kernel) (by decide +kernel)
theorem h_85 : Cond.methodLink RX8 1 Lib.objectInit ∈ gw := gwm 85 (by decide +kernel) (by decide +kernel)
theorem h_86 : Cond.instanceMethod Lib.objectInit ∈ gw := gwm 86 (by decide +kernel) (by decide +kernel)
theorem h_87 : Cond.code Lib.objectInit ⟨#[0xb1]⟩ 1 none ∈ gw := gwm 87 (by decide +kernel) (by decide +kernel)
theorem h_88 : Cond.classLink RX8 7 RX7 ∈ gw := gwm 88 (by decide +kernel) (by decide +kernel)
theorem h_89 : Cond.instantiable RX7 6 ∈ gw := gwm 89 (by decide +kernel) (by decide +kernel)
theorem h_91 : Cond.instanceMethod yX7_init ∈ gw := gwm 91 (by decide +kernel) (by decide +kernel)
theorem h_92 : Cond.code yX7_init cX7_init 1 none ∈ gw := gwm 92 (by decide +kernel) (by decide +kernel)
theorem h_93 : Cond.methodLink RX7 1 Lib.objectInit ∈ gw := gwm 93 (by decide +kernel) (by decide +kernel)
theorem h_94 : Cond.classLink RX7 7 RX0 ∈ gw := gwm 94 (by decide +kernel) (by decide +kernel)
theorem h_95 : Cond.instantiable RX0 13 ∈ gw := gwm 95 (by decide +kernel) (by decide +kernel)
theorem h_96 : Cond.methodLink RX7 9 yX0_init ∈ gw := gwm 96 (by decide +kernel) (by decide +kernel)
theorem h_97 : Cond.instanceMethod yX0_init ∈ gw := gwm 97 (by decide +kernel) (by decide +kernel)
theorem h_98 : Cond.code yX0_init cX0_init 2 none ∈ gw := gwm 98 (by decide +kernel) (by decide +kernel)
theorem h_99 : Cond.methodLink RX0 1 Lib.objectInit ∈ gw := gwm 99 (by decide +kernel) (by decide +kernel)
theorem h_100 : Cond.fieldLink RX0 9 (TX0 0).1 (TX0 0).2.1 (TX0 0).2.2.1 ∈ gw := gwm 100 (by decide +kernel) (by decide +kernel)
theorem h_102 : Cond.fieldLink RX0 13 (TX0 1).1 (TX0 1).2.1 (TX0 1).2.2.1 ∈ gw := gwm 102 (by decide +kernel) (by decide +kernel)
theorem h_104 : Cond.fieldLink RX0 16 (TX0 2).1 (TX0 2).2.1 (TX0 2).2.2.1 ∈ gw := gwm 104 (by decide +kernel) (by decide +kernel)
theorem h_106 : Cond.fieldLink RX0 19 (TX0 3).1 (TX0 3).2.1 (TX0 3).2.2.1 ∈ gw := gwm 106 (by decide +kernel) (by decide +kernel)
theorem h_108 : Cond.fieldLink RX0 22 (TX0 4).1 (TX0 4).2.1 (TX0 4).2.2.1 ∈ gw := gwm 108 (by decide +kernel) (by decide +kernel)
theorem h_110 : Cond.fieldLink RX0 25 (TX0 5).1 (TX0 5).2.1 (TX0 5).2.2.1 ∈ gw := gwm 110 (by decide +kernel) (by decide +kernel)
theorem h_112 : Cond.fieldLink RX0 28 (TX0 6).1 (TX0 6).2.1 (TX0 6).2.2.1 ∈ gw := gwm 112 (by decide +kernel) (by decide +kernel)
theorem h_114 : Cond.fieldLink RX0 31 (TX0 7).1 (TX0 7).2.1 (TX0 7).2.2.1 ∈ gw := gwm 114 (by decide +kernel) (by decide +kernel)
theorem h_116 : Cond.fieldLink RX0 34 (TX0 8).1 (TX0 8).2.1 (TX0 8).2.2.1 ∈ gw := gwm 116 (by decide +kernel) (by decide +kernel)
theorem h_117 : Cond.fieldLink RX0 37 (TX0 9).1 (TX0 9).2.1 (TX0 9).2.2.1 ∈ gw := gwm 117 (by decide +kernel) (by decide +kernel)
theorem h_119 : Cond.fieldLink RX0 41 (TX0 10).1 (TX0 10).2.1 (TX0 10).2.2.1 ∈ gw := gwm 119 (by decide +kernel) (by decide +kernel)
theorem h_121 : Cond.fieldLink RX0 44 (TX0 11).1 (TX0 11).2.1 (TX0 11).2.2.1 ∈ gw := gwm 121 (by decide +kernel) (by decide +kernel)
theorem h_123 : Cond.fieldLink RX0 47 (TX0 12).1 (TX0 12).2.1 (TX0 12).2.2.1 ∈ gw := gwm 123 (by decide +kernel) (by decide +kernel)
theorem h_152 : Cond.arrayClass .int ∈ gw := gwm 152 (by decide +kernel) (by decide +kernel)
theorem h_153 : Cond.classLink RX7 16 RX4 ∈ gw := gwm 153 (by decide +kernel) (by decide +kernel)
theorem h_154 : Cond.instantiable RX4 2 ∈ gw := gwm 154 (by decide +kernel) (by decide +kernel)
theorem h_155 : Cond.methodLink RX7 18 yX4_init ∈ gw := gwm 155 (by decide +kernel) (by decide +kernel)
theorem h_156 : Cond.instanceMethod yX4_init ∈ gw := gwm 156 (by decide +kernel) (by decide +kernel)
theorem h_157 : Cond.code yX4_init cX4_init 2 none ∈ gw := gwm 157 (by decide +kernel) (by decide +kernel)
theorem h_158 : Cond.methodLink RX4 1 Lib.objectInit ∈ gw := gwm 158 (by decide +kernel) (by decide +kernel)
theorem h_159 : Cond.methodLink RX4 13 Lib.Math.max.name ∈ gw := gwm 159 (by decide +kernel) (by decide +kernel)
theorem h_160 : Cond.static Lib.Math.max.name ∈ gw := gwm 160 (by decide +kernel) (by decide +kernel)
theorem h_161 : Cond.code Lib.Math.max.name Lib.Math.max.code 2 (some .int) ∈ gw := gwm 161 (by decide +kernel) (by decide +kernel)
theorem h_162 : Cond.fieldLink RX4 19 (TX4 0).1 (TX4 0).2.1 (TX4 0).2.2.1 ∈ gw := gwm 162 (by decide +kernel) (by decide +kernel)
theorem h_166 : Cond.fieldLink RX4 7 (TX4 1).1 (TX4 1).2.1 (TX4 1).2.2.1 ∈ gw := gwm 166 (by decide +kernel) (by decide +kernel)
theorem h_176 : Cond.fieldLink RX7 10 (TX7 0).1 (TX7 0).2.1 (TX7 0).2.2.1 ∈ gw := gwm 176 (by decide +kernel) (by decide +kernel)
theorem h_178 : Cond.fieldLink RX7 21 (TX7 1).1 (TX7 1).2.1 (TX7 1).2.2.1 ∈ gw := gwm 178 (by decide +kernel) (by decide +kernel)
theorem h_179 : Cond.fieldLink RX8 44 (TX7 1).1 (TX7 1).2.1 (TX7 1).2.2.1 ∈ gw := gwm 179 (by decide +kernel) (by decide +kernel)
theorem h_180 : Cond.fieldLink RX7 25 (TX7 2).1 (TX7 2).2.1 (TX7 2).2.2.1 ∈ gw := gwm 180 (by decide +kernel) (by decide +kernel)
theorem h_182 : Cond.fieldLink RX8 28 (TX7 3).1 (TX7 3).2.1 (TX7 3).2.2.1 ∈ gw := gwm 182 (by decide +kernel) (by decide +kernel)
theorem h_183 : Cond.fieldLink RX7 28 (TX7 3).1 (TX7 3).2.1 (TX7 3).2.2.1 ∈ gw := gwm 183 (by decide +kernel) (by decide +kernel)
theorem h_184 : Cond.fieldLink RX8 32 (TX7 4).1 (TX7 4).2.1 (TX7 4).2.2.1 ∈ gw := gwm 184 (by decide +kernel) (by decide +kernel)
theorem h_185 : Cond.fieldLink RX7 31 (TX7 4).1 (TX7 4).2.1 (TX7 4).2.2.1 ∈ gw := gwm 185 (by decide +kernel) (by decide +kernel)
theorem h_186 : Cond.fieldLink RX7 34 (TX7 5).1 (TX7 5).2.1 (TX7 5).2.2.1 ∈ gw := gwm 186 (by decide +kernel) (by decide +kernel)
theorem h_201 : Cond.classLink RX8 19 RX0 ∈ gw := gwm 201 (by decide +kernel) (by decide +kernel)
theorem h_202 : Cond.methodLink RX8 21 yX0_init ∈ gw := gwm 202 (by decide +kernel) (by decide +kernel)
theorem h_203 : Cond.classLink RX8 26 RX2 ∈ gw := gwm 203 (by decide +kernel) (by decide +kernel)
theorem h_204 : Cond.instantiable RX2 4 ∈ gw := gwm 204 (by decide +kernel) (by decide +kernel)
theorem h_205 : Cond.methodLink RX8 35 yX2_init ∈ gw := gwm 205 (by decide +kernel) (by decide +kernel)
theorem h_206 : Cond.instanceMethod yX2_init ∈ gw := gwm 206 (by decide +kernel) (by decide +kernel)
theorem h_207 : Cond.code yX2_init cX2_init 3 none ∈ gw := gwm 207 (by decide +kernel) (by decide +kernel)
theorem h_208 : Cond.methodLink RX2 3 Lib.objectInit ∈ gw := gwm 208 (by decide +kernel) (by decide +kernel)
theorem h_209 : Cond.methodLink RX2 26 yJ7_fill_031fb ∈ gw := gwm 209 (by decide +kernel) (by decide +kernel)
theorem h_210 : Cond.static yJ7_fill_031fb ∈ gw := gwm 210 (by decide +kernel) (by decide +kernel)
theorem h_211 : Cond.code yJ7_fill_031fb cJ7_fill_031fb 4 none ∈ gw := gwm 211 (by decide +kernel) (by decide +kernel)
theorem h_212 : Cond.fieldLink RX2 19 (TX2 0).1 (TX2 0).2.1 (TX2 0).2.2.1 ∈ gw := gwm 212 (by decide +kernel) (by decide +kernel)
theorem h_213 : Cond.fieldLink RX2 23 (TX2 1).1 (TX2 1).2.1 (TX2 1).2.2.1 ∈ gw := gwm 213 (by decide +kernel) (by decide +kernel)
theorem h_214 : Cond.fieldLink RX2 11 (TX2 2).1 (TX2 2).2.1 (TX2 2).2.2.1 ∈ gw := gwm 214 (by decide +kernel) (by decide +kernel)
theorem h_215 : Cond.fieldLink RX2 15 (TX2 3).1 (TX2 3).2.1 (TX2 3).2.2.1 ∈ gw := gwm 215 (by decide +kernel) (by decide +kernel)
theorem h_225 : Cond.arrayClass .byte ∈ gw := gwm 225 (by decide +kernel) (by decide +kernel)
theorem h_226 : Cond.classLink RX8 42 RX3 ∈ gw := gwm 226 (by decide +kernel) (by decide +kernel)
theorem h_227 : Cond.instantiable RX3 5 ∈ gw := gwm 227 (by decide +kernel) (by decide +kernel)
theorem h_228 : Cond.methodLink RX8 47 yX3_init ∈ gw := gwm 228 (by decide +kernel) (by decide +kernel)
theorem h_229 : Cond.instanceMethod yX3_init ∈ gw := gwm 229 (by decide +kernel) (by decide +kernel)
theorem h_230 : Cond.code yX3_init cX3_init 2 none ∈ gw := gwm 230 (by decide +kernel) (by decide +kernel)
theorem h_231 : Cond.methodLink RX3 1 Lib.objectInit ∈ gw := gwm 231 (by decide +kernel) (by decide +kernel)
theorem h_232 : Cond.classLink RX3 7 RX4 ∈ gw := gwm 232 (by decide +kernel) (by decide +kernel)
theorem h_233 : Cond.methodLink RX3 11 yX4_init ∈ gw := gwm 233 (by decide +kernel) (by decide +kernel)
theorem h_234 : Cond.fieldLink RX3 14 (TX3 0).1 (TX3 0).2.1 (TX3 0).2.2.1 ∈ gw := gwm 234 (by decide +kernel) (by decide +kernel)
theorem h_236 : Cond.fieldLink RX3 31 (TX3 1).1 (TX3 1).2.1 (TX3 1).2.2.1 ∈ gw := gwm 236 (by decide +kernel) (by decide +kernel)
theorem h_237 : Cond.fieldLink RX3 20 (TX3 2).1 (TX3 2).2.1 (TX3 2).2.2.1 ∈ gw := gwm 237 (by decide +kernel) (by decide +kernel)
theorem h_238 : Cond.fieldLink RX3 24 (TX3 3).1 (TX3 3).2.1 (TX3 3).2.2.1 ∈ gw := gwm 238 (by decide +kernel) (by decide +kernel)
theorem h_239 : Cond.fieldLink RX3 27 (TX3 4).1 (TX3 4).2.1 (TX3 4).2.2.1 ∈ gw := gwm 239 (by decide +kernel) (by decide +kernel)
theorem h_251 : Cond.classLink RX8 54 RX6 ∈ gw := gwm 251 (by decide +kernel) (by decide +kernel)
theorem h_252 : Cond.instantiable RX6 4 ∈ gw := gwm 252 (by decide +kernel) (by decide +kernel)
theorem h_254 : Cond.instanceMethod yX6_init ∈ gw := gwm 254 (by decide +kernel) (by decide +kernel)
theorem h_255 : Cond.code yX6_init cX6_init 1 none ∈ gw := gwm 255 (by decide +kernel) (by decide +kernel)
theorem h_256 : Cond.methodLink RX6 1 Lib.objectInit ∈ gw := gwm 256 (by decide +kernel) (by decide +kernel)
theorem h_257 : Cond.classLink RX6 7 RX4 ∈ gw := gwm 257 (by decide +kernel) (by decide +kernel)
theorem h_258 : Cond.methodLink RX6 11 yX4_init ∈ gw := gwm 258 (by decide +kernel) (by decide +kernel)
theorem h_259 : Cond.fieldLink RX6 14 (TX6 0).1 (TX6 0).2.1 (TX6 0).2.2.1 ∈ gw := gwm 259 (by decide +kernel) (by decide +kernel)
theorem h_261 : Cond.fieldLink RX6 18 (TX6 1).1 (TX6 1).2.1 (TX6 1).2.2.1 ∈ gw := gwm 261 (by decide +kernel) (by decide +kernel)
theorem h_262 : Cond.fieldLink RX6 22 (TX6 2).1 (TX6 2).2.1 (TX6 2).2.2.1 ∈ gw := gwm 262 (by decide +kernel) (by decide +kernel)
theorem h_263 : Cond.fieldLink RX6 25 (TX6 3).1 (TX6 3).2.1 (TX6 3).2.2.1 ∈ gw := gwm 263 (by decide +kernel) (by decide +kernel)
theorem h_273 : Cond.classLink RX8 61 RX5 ∈ gw := gwm 273 (by decide +kernel) (by decide +kernel)
theorem h_275 : Cond.instantiable RX5 3 ∈ gw := gwm 275 (by decide +kernel) (by decide +kernel)
theorem h_277 : Cond.instanceMethod yX5_init ∈ gw := gwm 277 (by decide +kernel) (by decide +kernel)
theorem h_278 : Cond.code yX5_init cX5_init 1 none ∈ gw := gwm 278 (by decide +kernel) (by decide +kernel)
theorem h_279 : Cond.methodLink RX5 3 Lib.objectInit ∈ gw := gwm 279 (by decide +kernel) (by decide +kernel)
theorem h_280 : Cond.fieldLink RX5 9 (TX5 0).1 (TX5 0).2.1 (TX5 0).2.2.1 ∈ gw := gwm 280 (by decide +kernel) (by decide +kernel)
theorem h_282 : Cond.fieldLink RX5 15 (TX5 1).1 (TX5 1).2.1 (TX5 1).2.2.1 ∈ gw := gwm 282 (by decide +kernel) (by decide +kernel)
theorem h_284 : Cond.fieldLink RX5 19 (TX5 2).1 (TX5 2).2.1 (TX5 2).2.2.1 ∈ gw := gwm 284 (by decide +kernel) (by decide +kernel)
theorem h_293 : Cond.fieldLink RX8 10 (TX8 0).1 (TX8 0).2.1 (TX8 0).2.2.1 ∈ gw := gwm 293 (by decide +kernel) (by decide +kernel)
theorem h_294 : Cond.fieldLink RX8 16 (TX8 1).1 (TX8 1).2.1 (TX8 1).2.2.1 ∈ gw := gwm 294 (by decide +kernel) (by decide +kernel)
theorem h_295 : Cond.fieldLink RX8 22 (TX8 2).1 (TX8 2).2.1 (TX8 2).2.2.1 ∈ gw := gwm 295 (by decide +kernel) (by decide +kernel)
theorem h_296 : Cond.fieldLink RX8 38 (TX8 3).1 (TX8 3).2.1 (TX8 3).2.2.1 ∈ gw := gwm 296 (by decide +kernel) (by decide +kernel)
theorem h_297 : Cond.fieldLink RX8 50 (TX8 4).1 (TX8 4).2.1 (TX8 4).2.2.1 ∈ gw := gwm 297 (by decide +kernel) (by decide +kernel)
theorem h_298 : Cond.fieldLink RX8 57 (TX8 5).1 (TX8 5).2.1 (TX8 5).2.2.1 ∈ gw := gwm 298 (by decide +kernel) (by decide +kernel)
theorem h_299 : Cond.fieldLink RX8 63 (TX8 6).1 (TX8 6).2.1 (TX8 6).2.2.1 ∈ gw := gwm 299 (by decide +kernel) (by decide +kernel)
theorem h_300 : Cond.fieldLink RX8 68 (TX8 7).1 (TX8 7).2.1 (TX8 7).2.2.1 ∈ gw := gwm 300 (by decide +kernel) (by decide +kernel)
theorem h_301 : Cond.fieldLink RX8 72 (TX8 8).1 (TX8 8).2.1 (TX8 8).2.2.1 ∈ gw := gwm 301 (by decide +kernel) (by decide +kernel)
theorem h_302 : Cond.fieldLink RX8 75 (TX8 9).1 (TX8 9).2.1 (TX8 9).2.2.1 ∈ gw := gwm 302 (by decide +kernel) (by decide +kernel)
theorem h_303 : Cond.fieldLink RX8 78 (TX8 10).1 (TX8 10).2.1 (TX8 10).2.2.1 ∈ gw := gwm 303 (by decide +kernel) (by decide +kernel)
theorem h_769 : Cond.methodLink RX9 1 Lib.objectInit ∈ gw := gwm 769 (by decide +kernel) (by decide +kernel)
theorem h_770 : Cond.methodLink RX9 49 yX9_forgets ∈ gw := gwm 770 (by decide +kernel) (by decide +kernel)
theorem h_772 : Cond.instanceMethod yX9_forgets ∈ gw := gwm 772 (by decide +kernel) (by decide +kernel)
theorem h_773 : Cond.code yX9_forgets cX9_forgets 2 none ∈ gw := gwm 773 (by decide +kernel) (by decide +kernel)
theorem h_774 : Cond.fieldLink RX9 7 (TX9 0).1 (TX9 0).2.1 (TX9 0).2.2.1 ∈ gw := gwm 774 (by decide +kernel) (by decide +kernel)
theorem h_775 : Cond.fieldLink RX9 13 (TX9 1).1 (TX9 1).2.1 (TX9 1).2.2.1 ∈ gw := gwm 775 (by decide +kernel) (by decide +kernel)
theorem h_776 : Cond.fieldLink RX9 16 (TX9 2).1 (TX9 2).2.1 (TX9 2).2.2.1 ∈ gw := gwm 776 (by decide +kernel) (by decide +kernel)
theorem h_777 : Cond.fieldLink RX9 19 (TX9 3).1 (TX9 3).2.1 (TX9 3).2.2.1 ∈ gw := gwm 777 (by decide +kernel) (by decide +kernel)
theorem h_780 : Cond.fieldLink RX9 22 (TX9 6).1 (TX9 6).2.1 (TX9 6).2.2.1 ∈ gw := gwm 780 (by decide +kernel) (by decide +kernel)
theorem h_789 : Cond.fieldLink RX9 25 (TX9 15).1 (TX9 15).2.1 (TX9 15).2.2.1 ∈ gw := gwm 789 (by decide +kernel) (by decide +kernel)
theorem h_791 : Cond.fieldLink RX9 28 (TX9 17).1 (TX9 17).2.1 (TX9 17).2.2.1 ∈ gw := gwm 791 (by decide +kernel) (by decide +kernel)
theorem h_792 : Cond.fieldLink RX9 31 (TX9 18).1 (TX9 18).2.1 (TX9 18).2.2.1 ∈ gw := gwm 792 (by decide +kernel) (by decide +kernel)
theorem h_793 : Cond.fieldLink RX9 34 (TX9 19).1 (TX9 19).2.1 (TX9 19).2.2.1 ∈ gw := gwm 793 (by decide +kernel) (by decide +kernel)
theorem h_794 : Cond.fieldLink RX9 37 (TX9 20).1 (TX9 20).2.1 (TX9 20).2.2.1 ∈ gw := gwm 794 (by decide +kernel) (by decide +kernel)
theorem h_795 : Cond.fieldLink RX9 40 (TX9 21).1 (TX9 21).2.1 (TX9 21).2.2.1 ∈ gw := gwm 795 (by decide +kernel) (by decide +kernel)
theorem h_796 : Cond.fieldLink RX9 43 (TX9 22).1 (TX9 22).2.1 (TX9 22).2.2.1 ∈ gw := gwm 796 (by decide +kernel) (by decide +kernel)
theorem h_797 : Cond.fieldLink RX9 46 (TX9 23).1 (TX9 23).2.1 (TX9 23).2.2.1 ∈ gw := gwm 797 (by decide +kernel) (by decide +kernel)
section Fill
variable {l : Launch} {D : va_G} {A : Nat → Prop} {cI cB cS : ClassId} {p : Program} {e : Env} {R : Room} {s : State} {m : MethodId} {args : Array Value} {below : List Frame} {meth : Method} {c : Code} {Q : State → Prop}
set_option maxRecDepth 100000 in
theorem fl_loop {a : Nat} (X : Cy D A (tyL cI cB cS) p s m args c cJ7_fill_031fb RJ7 4) (hE : BW D A p l e R s m args below meth c 4 0 0 Q 20 [] [] [(a, .inl (cB, 1800, .inl m1))]) : ∀ (n i : Nat), i ≤ 1800 → 1801 ≤ i + n → BW D A p l e R s m args below meth c 4 0 0 Q 5 [(0, .ref a), (1, .int (-1)), (2, .int (nI i)), (3, .int 1800)] [] [(a, .inl (cB, 1800, .inl (ff (-1) i)))] := by
  intro n
  induction n with
  | zero => intro i h1 h2; exact absurd h2 (by omega)
  | succ n ih =>
    intro i h1 h2
    refine q_iload_n X dJ7_fill_031fb_5 2 rfl rfl ?_
    refine q_iload_n X dJ7_fill_031fb_6 3 rfl rfl ?_
    refine q_icmp_ge X 20 dJ7_fill_031fb_7 (by decide) (fun c3 => ?_) (fun c3 => ?_)
    · have e1 : i = 1800 := by
        rcases Nat.lt_or_ge i 1800 with q | q
        · exact absurd c3 (by rw [show (1800 : Int32) = nI 1800 from rfl]; exact nI_ge q (by decide))
        · omega
      subst e1
      exact q_sub [] rfl hE
    · have hlt : i < 1800 := by
        rcases Nat.lt_or_ge i 1800 with q | q
        · exact q
        · exact absurd (by rw [show (1800 : Int32) = nI 1800 from rfl]; exact nI_le q (by omega)) c3
      refine q_aload_n X dJ7_fill_031fb_10 0 rfl rfl ?_
      refine q_iload_n X dJ7_fill_031fb_11 2 rfl rfl ?_
      refine q_iload_n X dJ7_fill_031fb_12 1 rfl rfl ?_
      refine q_bast (q0 := 0) X 1 dJ7_fill_031fb_13 rfl rfl (vp_in_nI hlt (by decide)) (nI_clamp (by omega)) (ws' := [(a, .inl (cB, 1800, .inl (ff (-1) (i + 1))))]) ?_ ?_
      · rw [show vp_nar .byte (-1) = (-1 : Int32) from rfl, ff_s]; rfl
      refine q_iinc (L' := [(0, .ref a), (1, .int (-1)), (2, .int (nI (i + 1))), (3, .int 1800)]) (v := nI (i + 1)) X dJ7_fill_031fb_14 2 rfl (nI_1 i) [1, 2, 0, 3] rfl (Nat.le_of_ble_eq_true rfl) ?_
      refine q_goto X 5 dJ7_fill_031fb_17 (by decide) ?_
      exact ih (i + 1) (by omega) (by omega)
set_option maxRecDepth 100000 in
theorem c_fill {a : Nat} (sz : Nat) : Nt l D (tyL cI cB cS) yJ7_fill_031fb cJ7_fill_031fb 4 rmFill (fun _ => True) [.ref a, .int (-1)] [(a, .inl (cB, 1800, .inl z0))] sz (fun f => f 0 = a) (fun f => [(f 0, .inl (cB, 1800, .inl m1))]) := by
  refine Nt.of (by decide) (Nat.le_of_ble_eq_true rfl) ?_ sz
  intro p e s m below meth c A X hlocks hr hin hPp
  have X : Cy D A (tyL cI cB cS) p s m [.ref a, .int (-1)].toArray c cJ7_fill_031fb RJ7 4 := X
  refine q_sub (L' := [(0, .ref a), (1, .int (-1))]) [0, 1] rfl ?_
  refine q_iconst X dJ7_fill_031fb_0 (v := 0) (by decide) ?_
  refine q_istore_n (L' := [(0, .ref a), (1, .int (-1)), (2, .int 0)]) X dJ7_fill_031fb_1 [1, 2, 0] rfl rfl (Nat.le_of_ble_eq_true rfl) ?_
  refine q_aload_n X dJ7_fill_031fb_2 0 rfl rfl ?_
  refine q_alen (q0 := 0) (t0 := 1) X dJ7_fill_031fb_3 rfl rfl (v := 1800) rfl ?_
  refine q_istore_n (L' := [(0, .ref a), (1, .int (-1)), (2, .int (nI 0)), (3, .int 1800)]) X dJ7_fill_031fb_4 [1, 2, 3, 0] rfl rfl (Nat.le_of_ble_eq_true rfl) ?_
  refine q_ws (ws' := [(a, .inl (cB, 1800, .inl (ff (-1) 0)))]) (by rw [ff_0]) ?_
  refine fl_loop X ?_ 1801 0 (by decide) (by decide)
  exact q_vret X hlocks hr dJ7_fill_031fb_20 (fun _ => a) rfl [0] (by decide) rfl ⟨Nat.le_refl _, Nat.le_refl _⟩
set_option maxRecDepth 100000 in
theorem fg_loop {h0 g : Nat} {fs : List Value} (hfs : fs[15]? = some (.ref g)) (X : Cy D A (tyL cI cB cS) p s m args c cX9_forgets RX9 2) (hE : BW D A p l e R s m args below meth c 2 0 0 Q 22 [] [] [(h0, .inr (8, fs)), (g, .inl (cI, 2000, .inl m2))]) : ∀ (n i : Nat), i ≤ 2000 → 2001 ≤ i + n → BW D A p l e R s m args below meth c 2 0 0 Q 2 [(0, .ref h0), (1, .int (nI i))] [] [(h0, .inr (8, fs)), (g, .inl (cI, 2000, .inl (ff (-1) i)))] := by
  intro n
  induction n with
  | zero => intro i h1 h2; exact absurd h2 (by omega)
  | succ n ih =>
    intro i h1 h2
    refine q_iload_n X dX9_forgets_2 1 rfl rfl ?_
    refine q_sipush X dX9_forgets_3 (v := 2000) (by decide) ?_
    refine q_icmp_ge X 22 dX9_forgets_6 (by decide) (fun c3 => ?_) (fun c3 => ?_)
    · have e1 : i = 2000 := by
        rcases Nat.lt_or_ge i 2000 with q | q
        · exact absurd c3 (by rw [show (2000 : Int32) = nI 2000 from rfl]; exact nI_ge q (by decide))
        · omega
      subst e1
      exact q_sub [] rfl hE
    · have hlt : i < 2000 := by
        rcases Nat.lt_or_ge i 2000 with q | q
        · exact q
        · exact absurd (by rw [show (2000 : Int32) = nI 2000 from rfl]; exact nI_le q (by omega)) c3
      refine q_aload_n X dX9_forgets_9 0 rfl rfl ?_
      refine q_get (q0 := 0) (v := .ref g) X dX9_forgets_10 i_X9 v_X9 rfl 15 (Nat.le_of_ble_eq_true rfl) g_789 hfs ?_
      refine q_iload_n X dX9_forgets_13 1 rfl rfl ?_
      refine q_iconst X dX9_forgets_14 (v := (-1)) (by decide) ?_
      refine q_iast (q0 := 1) X 0 dX9_forgets_15 rfl rfl (vp_in_nI hlt (by decide)) (nI_clamp (by omega)) (ws' := [(h0, .inr (8, fs)), (g, .inl (cI, 2000, .inl (ff (-1) (i + 1))))]) ?_ ?_
      · rw [ff_s]; rfl
      refine q_iinc (L' := [(0, .ref h0), (1, .int (nI (i + 1)))]) (v := nI (i + 1)) X dX9_forgets_16 1 rfl (nI_1 i) [1, 0] rfl (Nat.le_of_ble_eq_true rfl) ?_
      refine q_goto X 2 dX9_forgets_19 (by decide) ?_
      exact ih (i + 1) (by omega) (by omega)
set_option maxRecDepth 100000 in
theorem c_forgets {h0 g : Nat} {fs : List Value} (hfs : fs[15]? = some (.ref g)) (sz : Nat) : Nt l D (tyL cI cB cS) yX9_forgets cX9_forgets 2 rmFill (fun _ => True) [.ref h0] [(h0, .inr (8, fs)), (g, .inl (cI, 2000, .inl z0))] sz (fun _ => True) (fun _ => [(h0, .inr (8, fs)), (g, .inl (cI, 2000, .inl m2))]) := by
  refine Nt.of (by decide) (Nat.le_of_ble_eq_true rfl) ?_ sz
  intro p e s m below meth c A X hlocks hr hin hPp
  have X : Cy D A (tyL cI cB cS) p s m [.ref h0].toArray c cX9_forgets RX9 2 := X
  refine q_sub (L' := [(0, .ref h0)]) [0] rfl ?_
  refine q_iconst X dX9_forgets_0 (v := 0) (by decide) ?_
  refine q_istore_n (L' := [(0, .ref h0), (1, .int (nI 0))]) X dX9_forgets_1 [1, 0] rfl rfl (Nat.le_of_ble_eq_true rfl) ?_
  refine q_ws (ws' := [(h0, .inr (8, fs)), (g, .inl (cI, 2000, .inl (ff (-1) 0)))]) (by rw [ff_0]) ?_
  refine fg_loop hfs X ?_ 2001 0 (by decide) (by decide)
  exact q_vret X hlocks hr dX9_forgets_22 (fun _ => 0) trivial [0, 1] (by decide) rfl ⟨Nat.le_refl _, Nat.le_refl _⟩
end Fill
def wRow (cI _cB : ClassId) (n : Nat) (f : Nat → Nat) : va_W := [(f 0, .inr (3, [.ref (f 1), .int 0])), (f 1, .inl (cI, n, .inl z0))]
def wSheet (cI cB : ClassId) (f : Nat → Nat) : va_W := [((f 0), .inr (4, [.ref (f 1), .int 0, .int 0])),
  ((f 1), .inl (cI, 40, .inl z0))]
