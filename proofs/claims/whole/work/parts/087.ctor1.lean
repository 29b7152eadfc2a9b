/-! constructors: words, rows that are made -/
abbrev z0 : Nat → Int32 := fun _ => 0
def tyL (cI cB cS : ClassId) : List (ClassId × FieldType) := [(cI, .int), (cB, .byte), (cS, .object "ScullerySweets$Sheet")]
theorem q_sub {D : va_G} {A : Nat → Prop} {p : Program} {l : Launch} {e : Env} {R : Room} {s : State} {m : MethodId} {args : Array Value} {below : List Frame} {meth : Method} {c : Code} {nL cells slots : Nat} {Q : State → Prop} {pc : Nat} {L L' : List (Nat × Value)} {st : List Value} {ws : va_W} (ks : List Nat) (hL : lv_pick L ks = L') (k : BW D A p l e R s m args below meth c nL cells slots Q pc L' st ws) : BW D A p l e R s m args below meth c nL cells slots Q pc L st ws :=
  fun H locs ls hP hD hS hl => k H locs ls hP hD hS (lv_sub hl ks hL)
theorem df_X0 : ∀ j, j < 13 → defaultValue (tyX0 j) = vp_V [.null, .null, .null, .null, .null, .null, .null, .null, .null, .int 0, .int 0, .int 0, .int 0] j := by
  intro j hj
  rcases (show j = 0 ∨ j = 1 ∨ j = 2 ∨ j = 3 ∨ j = 4 ∨ j = 5 ∨ j = 6 ∨ j = 7 ∨ j = 8 ∨ j = 9 ∨ j = 10 ∨ j = 11 ∨ j = 12 by omega) with rfl | rfl | rfl | rfl | rfl | rfl | rfl | rfl | rfl | rfl | rfl | rfl | rfl <;> rfl
theorem nX0_init : yX0_init.cls ≠ "java/lang/invoke/MethodHandle" ∧ yX0_init.cls ≠ "java/lang/invoke/VarHandle" ∧ (parseMethodDescriptor yX0_init.desc).map (fun d => d.parameters.length) = some 0 := by decide +kernel
theorem df_X2 : ∀ j, j < 4 → defaultValue (tyX2 j) = vp_V [.null, .null, .null, .null] j := by
  intro j hj
  rcases (show j = 0 ∨ j = 1 ∨ j = 2 ∨ j = 3 by omega) with rfl | rfl | rfl | rfl <;> rfl
theorem nX2_init : yX2_init.cls ≠ "java/lang/invoke/MethodHandle" ∧ yX2_init.cls ≠ "java/lang/invoke/VarHandle" ∧ (parseMethodDescriptor yX2_init.desc).map (fun d => d.parameters.length) = some 2 := by decide +kernel
theorem df_X3 : ∀ j, j < 5 → defaultValue (tyX3 j) = vp_V [.null, .null, .int 0, .int 0, .int 0] j := by
  intro j hj
  rcases (show j = 0 ∨ j = 1 ∨ j = 2 ∨ j = 3 ∨ j = 4 by omega) with rfl | rfl | rfl | rfl | rfl <;> rfl
theorem nX3_init : yX3_init.cls ≠ "java/lang/invoke/MethodHandle" ∧ yX3_init.cls ≠ "java/lang/invoke/VarHandle" ∧ (parseMethodDescriptor yX3_init.desc).map (fun d => d.parameters.length) = some 1 := by decide +kernel
theorem df_X4 : ∀ j, j < 2 → defaultValue (tyX4 j) = vp_V [.null, .int 0] j := by
  intro j hj
  rcases (show j = 0 ∨ j = 1 by omega) with rfl | rfl <;> rfl
theorem nX4_init : yX4_init.cls ≠ "java/lang/invoke/MethodHandle" ∧ yX4_init.cls ≠ "java/lang/invoke/VarHandle" ∧ (parseMethodDescriptor yX4_init.desc).map (fun d => d.parameters.length) = some 1 := by decide +kernel
theorem df_X5 : ∀ j, j < 3 → defaultValue (tyX5 j) = vp_V [.null, .int 0, .int 0] j := by
  intro j hj
  rcases (show j = 0 ∨ j = 1 ∨ j = 2 by omega) with rfl | rfl | rfl <;> rfl
theorem nX5_init : yX5_init.cls ≠ "java/lang/invoke/MethodHandle" ∧ yX5_init.cls ≠ "java/lang/invoke/VarHandle" ∧ (parseMethodDescriptor yX5_init.desc).map (fun d => d.parameters.length) = some 0 := by decide +kernel
theorem df_X6 : ∀ j, j < 4 → defaultValue (tyX6 j) = vp_V [.null, .int 0, .int 0, .int 0] j := by
  intro j hj
  rcases (show j = 0 ∨ j = 1 ∨ j = 2 ∨ j = 3 by omega) with rfl | rfl | rfl | rfl <;> rfl
theorem nX6_init : yX6_init.cls ≠ "java/lang/invoke/MethodHandle" ∧ yX6_init.cls ≠ "java/lang/invoke/VarHandle" ∧ (parseMethodDescriptor yX6_init.desc).map (fun d => d.parameters.length) = some 0 := by decide +kernel
theorem df_X7 : ∀ j, j < 6 → defaultValue (tyX7 j) = vp_V [.null, .null, .null, .null, .null, .int 0] j := by
  intro j hj
  rcases (show j = 0 ∨ j = 1 ∨ j = 2 ∨ j = 3 ∨ j = 4 ∨ j = 5 by omega) with rfl | rfl | rfl | rfl | rfl | rfl <;> rfl
theorem nX7_init : yX7_init.cls ≠ "java/lang/invoke/MethodHandle" ∧ yX7_init.cls ≠ "java/lang/invoke/VarHandle" ∧ (parseMethodDescriptor yX7_init.desc).map (fun d => d.parameters.length) = some 0 := by decide +kernel
theorem df_X8 : ∀ j, j < 11 → defaultValue (tyX8 j) = vp_V [.null, .null, .null, .null, .null, .null, .null, .null, .null, .null, .int 0] j := by
  intro j hj
  rcases (show j = 0 ∨ j = 1 ∨ j = 2 ∨ j = 3 ∨ j = 4 ∨ j = 5 ∨ j = 6 ∨ j = 7 ∨ j = 8 ∨ j = 9 ∨ j = 10 by omega) with rfl | rfl | rfl | rfl | rfl | rfl | rfl | rfl | rfl | rfl | rfl <;> rfl
theorem nX8_init : yX8_init.cls ≠ "java/lang/invoke/MethodHandle" ∧ yX8_init.cls ≠ "java/lang/invoke/VarHandle" ∧ (parseMethodDescriptor yX8_init.desc).map (fun d => d.parameters.length) = some 0 := by decide +kernel
theorem df_X9 : ∀ j, j < 28 → defaultValue (tyX9 j) = vp_V [.null, .null, .null, .null, .int 0, .int 0, .null, .int 0, .int 0, .int 0, .int 0, .int 0, .int 0, .int 0, .int 0, .null, .int 0, .null, .null, .null, .null, .null, .null, .null, .int 0, .int 0, .int 0, .int 0] j := by
  intro j hj
  rcases (show j = 0 ∨ j = 1 ∨ j = 2 ∨ j = 3 ∨ j = 4 ∨ j = 5 ∨ j = 6 ∨ j = 7 ∨ j = 8 ∨ j = 9 ∨ j = 10 ∨ j = 11 ∨ j = 12 ∨ j = 13 ∨ j = 14 ∨ j = 15 ∨ j = 16 ∨ j = 17 ∨ j = 18 ∨ j = 19 ∨ j = 20 ∨ j = 21 ∨ j = 22 ∨ j = 23 ∨ j = 24 ∨ j = 25 ∨ j = 26 ∨ j = 27 by omega) with rfl | rfl | rfl | rfl | rfl | rfl | rfl | rfl | rfl | rfl | rfl | rfl | rfl | rfl | rfl | rfl | rfl | rfl | rfl | rfl | rfl | rfl | rfl | rfl | rfl | rfl | rfl | rfl <;> rfl
theorem nX9_init : yX9_init.cls ≠ "java/lang/invoke/MethodHandle" ∧ yX9_init.cls ≠ "java/lang/invoke/VarHandle" ∧ (parseMethodDescriptor yX9_init.desc).map (fun d => d.parameters.length) = some 0 := by decide +kernel
/-- the first i places hold v, the others 0 -/
def ff (v : Int32) (i : Nat) : Nat → Int32 := fun j => if j < i then v else 0
theorem ff_0 (v : Int32) : ff v 0 = z0 := by funext j; simp [ff]
theorem ff_s (v : Int32) (i : Nat) : upd (ff v i) i v = ff v (i + 1) := by
  funext j
  simp only [upd, ff]
  by_cases h : j = i
  · subst h; simp
  · rw [if_neg h]
    by_cases h2 : j < i
    · rw [if_pos h2, if_pos (by omega)]
    · rw [if_neg h2, if_neg (by omega)]
def m1 : Nat → Int32 := ff (-1) 1800
def m2 : Nat → Int32 := ff (-1) 2000
def rmFill : Room := { frames := 0, cells := 0, slots := 0, locals := 0 }
def NwC (U : State) : Prop := (va_Nw (.methodLinkNest RX8 9 yX7_init "ScullerySweets") U ∧ va_Nw (.methodLinkNest RX8 56 yX6_init "ScullerySweets") U ∧ va_Nw (.methodLinkNest RX8 67 yX5_init "ScullerySweets") U ∧ va_AO "ScullerySweets$Sheet" U)
theorem h_20 : Cond.selects RX9 yX9_forgets yX9_forgets ∈ gw := gwm 20 (by decide +kernel) (by decide +kernel)
theorem h_68 : Cond.initialized RX7 ∈ gw := gwm 68 (by decide +kernel) (by decide +kernel)
theorem h_69 : Cond.initialized RX0 ∈ gw := gwm 69 (by decide +kernel) (by decide +kernel)
theorem h_70 : Cond.initialized RX4 ∈ gw := gwm 70 (by decide +kernel) (by decide +kernel)
theorem h_71 : Cond.initialized "java/lang/Math" ∈ gw := gwm 71 (by decide +kernel) (by decide +kernel)
theorem h_72 : Cond.initialized RX2 ∈ gw := gwm 72 (by decide +kernel) (by decide +kernel)
theorem h_73 : Cond.initialized RJ7 ∈ gw := gwm 73 (by decide +kernel) (by decide +kernel)
theorem h_74 : Cond.initialized RX3 ∈ gw := gwm 74 (by decide +kernel) (by decide +kernel)
theorem h_75 : Cond.initialized RX6 ∈ gw := gwm 75 (by decide +kernel) (by decide +kernel)
theorem h_76 : Cond.initialized RX5 ∈ gw := gwm 76 (by decide +kernel) (by decide +kernel)
theorem h_77 : Cond.initialized RX9 ∈ gw := gwm 77 (by decide +kernel) (by decide +kernel)
theorem h_85 : Cond.methodLink RX8 1 Lib.objectInit ∈ gw := gwm 85 (by decide +kernel) (by decide +kernel)
theorem h_86 : Cond.instanceMethod Lib.objectInit ∈ gw := gwm 86 (by decide +kernel) (by decide +kernel)
theorem h_87 : Cond.code Lib.objectInit ⟨#[0xb1]⟩ 1 none ∈ gw := gwm 87 (by decide +kernel) (by decide +kernel)
theorem h_88 : Cond.classLink RX8 7 RX7 ∈ gw := gwm 88 (by decide +kernel) (by decide +kernel)
theorem h_89 : Cond.instantiable RX7 6 ∈ gw := gwm 89 (by decide +kernel) (by decide +kernel)
theorem h_91 : Cond.instanceMethod yX7_init ∈ gw := gwm 91 (by decide +kernel) (by decide +kernel)
theorem h_92 : Cond.code yX7_init cX7_init 1 none ∈ gw := gwm 92 (by decide +kernel) (by decide +kernel)
theorem h_93 : Cond.methodLink RX7 1 Lib.objectInit ∈ gw := gwm 93 (by decide +kernel) (by decide +kernel)
theorem h_94 : Cond.classLink RX7 7 RX0 ∈ gw := gwm 94 (by decide +kernel) (by decide +kernel)
theorem h_95 : Cond.instantiable RX0 13 ∈ gw := gwm 95 (by decide +kernel) (by decide +kernel)
theorem h_96 : Cond.methodLink RX7 9 yX0_init ∈ gw := gwm 96 (by decide +kernel) (by decide +kernel)
theorem h_97 : Cond.instanceMethod yX0_init ∈ gw := gwm 97 (by decide +kernel) (by decide +kernel)
theorem h_98 : Cond.code yX0_init cX0_init 2 none ∈ gw := gwm 98 (by decide +kernel) (by decide +kernel)
theorem h_99 : Cond.methodLink RX0 1 Lib.objectInit ∈ gw := gwm 99 (by decide +kernel) (by decide +kernel)
theorem h_100 : Cond.fieldLink RX0 9 (TX0 0).1 (TX0 0).2.1 (TX0 0).2.2.1 ∈ gw := gwm 100 (by decide +kernel) (by decide +kernel)
theorem h_102 : Cond.fieldLink RX0 13 (TX0 1).1 (TX0 1).2.1 (TX0 1).2.2.1 ∈ gw := gwm 102 (by decide +kernel) (by decide +kernel)
theorem h_104 : Cond.fieldLink RX0 16 (TX0 2).1 (TX0 2).2.1 (TX0 2).2.2.1 ∈ gw := gwm 104 (by decide +kernel) (by decide +kernel)
theorem h_106 : Cond.fieldLink RX0 19 (TX0 3).1 (TX0 3).2.1 (TX0 3).2.2.1 ∈ gw := gwm 106 (by decide +kernel) (by decide +kernel)
theorem h_108 : Cond.fieldLink RX0 22 (TX0 4).1 (TX0 4).2.1 (TX0 4).2.2.1 ∈ gw := gwm 108 (by decide +kernel) (by decide +kernel)
theorem h_110 : Cond.fieldLink RX0 25 (TX0 5).1 (TX0 5).2.1 (TX0 5).2.2.1 ∈ gw := gwm 110 (by decide +kernel) (by decide +kernel)
theorem h_112 : Cond.fieldLink RX0 28 (TX0 6).1 (TX0 6).2.1 (TX0 6).2.2.1 ∈ gw := gwm 112 (by decide +kernel) (by decide +kernel)
theorem h_114 : Cond.fieldLink RX0 31 (TX0 7).1 (TX0 7).2.1 (TX0 7).2.2.1 ∈ gw := gwm 114 (by decide +kernel) (by decide +kernel)
theorem h_116 : Cond.fieldLink RX0 34 (TX0 8).1 (TX0 8).2.1 (TX0 8).2.2.1 ∈ gw := gwm 116 (by decide +kernel) (by decide +kernel)
theorem h_117 : Cond.fieldLink RX0 37 (TX0 9).1 (TX0 9).2.1 (TX0 9).2.2.1 ∈ gw := gwm 117 (by decide +kernel) (by decide +kernel)
theorem h_119 : Cond.fieldLink RX0 41 (TX0 10).1 (TX0 10).2.1 (TX0 10).2.2.1 ∈ gw := gwm 119 (by decide +kernel) (by decide +kernel)
theorem h_121 : Cond.fieldLink RX0 44 (TX0 11).1 (TX0 11).2.1 (TX0 11).2.2.1 ∈ gw := gwm 121 (by decide +kernel) (by decide +kernel)
theorem h_123 : Cond.fieldLink RX0 47 (TX0 12).1 (TX0 12).2.1 (TX0 12).2.2.1 ∈ gw := gwm 123 (by decide +kernel) (by decide +kernel)
theorem h_152 : Cond.arrayClass .int ∈ gw := gwm 152 (by decide +kernel) (by decide +kernel)
theorem h_153 : Cond.classLink RX7 16 RX4 ∈ gw := gwm 153 (by decide +kernel) (by decide +kernel)
theorem h_154 : Cond.instantiable RX4 2 ∈ gw := gwm 154 (by decide +kernel) (by decide +kernel)
theorem h_155 : Cond.methodLink RX7 18 yX4_init ∈ gw := gwm 155 (by decide +kernel) (by decide +kernel)
theorem h_156 : Cond.instanceMethod yX4_init ∈ gw := gwm 156 (by decide +kernel) (by decide +kernel)
theorem h_157 : Cond.code yX4_init cX4_init 2 none ∈ gw := gwm 157 (by decide +kernel) (by decide +kernel)
theorem h_158 : Cond.methodLink RX4 1 Lib.objectInit ∈ gw := gwm 158 (by decide +kernel) (by decide +kernel)
theorem h_159 : Cond.methodLink RX4 13 Lib.Math.max.name ∈ gw := gwm 159 (by decide +kernel) (by decide +kernel)
theorem h_160 : Cond.static Lib.Math.max.name ∈ gw := gwm 160 (by decide +kernel) (by decide +kernel)
theorem h_161 : Cond.code Lib.Math.max.name Lib.Math.max.code 2 (some .int) ∈ gw := gwm 161 (by decide +kernel) (by decide +kernel)
theorem h_162 : Cond.fieldLink RX4 19 (TX4 0).1 (TX4 0).2.1 (TX4 0).2.2.1 ∈ gw := gwm 162 (by decide +kernel) (by decide +kernel)
theorem h_166 : Cond.fieldLink RX4 7 (TX4 1).1 (TX4 1).2.1 (TX4 1).2.2.1 ∈ gw := gwm 166 (by decide +kernel) (by decide +kernel)
theorem h_176 : Cond.fieldLink RX7 10 (TX7 0).1 (TX7 0).2.1 (TX7 0).2.2.1 ∈ gw := gwm 176 (by decide +kernel) (by decide +kernel)
theorem h_178 : Cond.fieldLink RX7 21 (TX7 1).1 (TX7 1).2.1 (TX7 1).2.2.1 ∈ gw := gwm 178 (by decide +kernel) (by decide +kernel)
theorem h_179 : Cond.fieldLink RX8 44 (TX7 1).1 (TX7 1).2.1 (TX7 1).2.2.1 ∈ gw := gwm 179 (by decide +kernel) (by decide +kernel)
theorem h_180 : Cond.fieldLink RX7 25 (TX7 2).1 (TX7 2).2.1 (TX7 2).2.2.1 ∈ gw := gwm 180 (by decide +kernel) (by decide +kernel)
theorem h_182 : Cond.fieldLink RX8 28 (TX7 3).1 (TX7 3).2.1 (TX7 3).2.2.1 ∈ gw := gwm 182 (by decide +kernel) (by decide +kernel)
theorem h_183 : Cond.fieldLink RX7 28 (TX7 3).1 (TX7 3).2.1 (TX7 3).2.2.1 ∈ gw := gwm 183 (by decide +kernel) (by decide +kernel)
theorem h_184 : Cond.fieldLink RX8 32 (TX7 4).1 (TX7 4).2.1 (TX7 4).2.2.1 ∈ gw := gwm 184 (by decide +kernel) (by decide +kernel)
theorem h_185 : Cond.fieldLink RX7 31 (TX7 4).1 (TX7 4).2.1 (TX7 4).2.2.1 ∈ gw := gwm 185 (by decide +kernel) (by decide +kernel)
theorem h_186 : Cond.fieldLink RX7 34 (TX7 5).1 (TX7 5).2.1 (TX7 5).2.2.1 ∈ gw := gwm 186 (by decide +kernel) (by decide +kernel)
theorem h_201 : Cond.classLink RX8 19 RX0 ∈ gw := gwm 201 (by decide +kernel) (by decide +kernel)
theorem h_202 : Cond.methodLink RX8 21 yX0_init ∈ gw := gwm 202 (by decide +kernel) (by decide +kernel)
theorem h_203 : Cond.classLink RX8 26 RX2 ∈ gw := gwm 203 (by decide +kernel) (by decide +kernel)
theorem h_204 : Cond.instantiable RX2 4 ∈ gw := gwm 204 (by decide +kernel) (by decide +kernel)
theorem h_205 : Cond.methodLink RX8 35 yX2_init ∈ gw := gwm 205 (by decide +kernel) (by decide +kernel)
theorem h_206 : Cond.instanceMethod yX2_init ∈ gw := gwm 206 (by decide +kernel) (by decide +kernel)
theorem h_207 : Cond.code yX2_init cX2_init 3 none ∈ gw := gwm 207 (by decide +kernel) (by decide +kernel)
theorem h_208 : Cond.methodLink RX2 3 Lib.objectInit ∈ gw := gwm 208 (by decide +kernel) (by decide +kernel)
theorem h_209 : Cond.methodLink RX2 26 yJ7_fill_031fb ∈ gw := gwm 209 (by decide +kernel) (by decide +kernel)
theorem h_210 : Cond.static yJ7_fill_031fb ∈ gw := gwm 210 (by decide +kernel) (by decide +kernel)
theorem h_211 : Cond.code yJ7_fill_031fb cJ7_fill_031fb 4 none ∈ gw := gwm 211 (by decide +kernel) (by decide +kernel)
theorem h_212 : Cond.fieldLink RX2 19 (TX2 0).1 (TX2 0).2.1 (TX2 0).2.2.1 ∈ gw := gwm 212 (by decide +kernel) (by decide +kernel)
theorem h_213 : Cond.fieldLink RX2 23 (TX2 1).1 (TX2 1).2.1 (TX2 1).2.2.1 ∈ gw := gwm 213 (by decide +kernel) (by decide +kernel)
theorem h_214 : Cond.fieldLink RX2 11 (TX2 2).1 (TX2 2).2.1 (TX2 2).2.2.1 ∈ gw := gwm 214 (by decide +kernel) (by decide +kernel)
theorem h_215 : Cond.fieldLink RX2 15 (TX2 3).1 (TX2 3).2.1 (TX2 3).2.2.1 ∈ gw := gwm 215 (by decide +kernel) (by decide +kernel)
theorem h_225 : Cond.arrayClass .byte ∈ gw := gwm 225 (by decide +kernel) (by decide +kernel)
theorem h_226 : Cond.classLink RX8 42 RX3 ∈ gw := gwm 226 (by decide +kernel) (by decide +kernel)
theorem h_227 : Cond.instantiable RX3 5 ∈ gw := gwm 227 (by decide +kernel) (by decide +kernel)
theorem h_228 : Cond.methodLink RX8 47 yX3_init ∈ gw := gwm 228 (by decide +kernel) (by decide +kernel)
theorem h_229 : Cond.instanceMethod yX3_init ∈ gw := gwm 229 (by decide +kernel) (by decide +kernel)
theorem h_230 : Cond.code yX3_init cX3_init 2 none ∈ gw := gwm 230 (by decide +kernel) (by decide +kernel)
theorem h_231 : Cond.methodLink RX3 1 Lib.objectInit ∈ gw := gwm 231 (by decide +kernel) (by decide +kernel)
theorem h_232 : Cond.classLink RX3 7 RX4 ∈ gw := gwm 232 (by decide +kernel) (by decide +kernel)
theorem h_233 : Cond.methodLink RX3 11 yX4_init ∈ gw := gwm 233 (by decide +kernel) (by decide +kernel)
theorem h_234 : Cond.fieldLink RX3 14 (TX3 0).1 (TX3 0).2.1 (TX3 0).2.2.1 ∈ gw := gwm 234 (by decide +kernel) (by decide +kernel)
theorem h_236 : Cond.fieldLink RX3 31 (TX3 1).1 (TX3 1).2.1 (TX3 1).2.2.1 ∈ gw := gwm 236 (by decide +kernel) (by decide +kernel)
theorem h_237 : Cond.fieldLink RX3 20 (TX3 2).1 (TX3 2).2.1 (TX3 2).2.2.1 ∈ gw := gwm 237 (by decide +kernel) (by decide +kernel)
theorem h_238 : Cond.fieldLink RX3 24 (TX3 3).1 (TX3 3).2.1 (TX3 3).2.2.1 ∈ gw := gwm 238 (by decide +kernel) (by decide +kernel)
theorem h_239 : Cond.fieldLink RX3 27 (TX3 4).1 (TX3 4).2.1 (TX3 4).2.2.1 ∈ gw := gwm 239 (by decide +kernel) (by decide +kernel)
theorem h_251 : Cond.classLink RX8 54 RX6 ∈ gw := gwm 251 (by decide +kernel) (by decide +kernel)
theorem h_252 : Cond.instantiable RX6 4 ∈ gw := gwm 252 (by decide +kernel) (by decide +kernel)
theorem h_254 : Cond.instanceMethod yX6_init ∈ gw := gwm 254 (by decide +kernel) (by decide +kernel)
theorem h_255 : Cond.code yX6_init cX6_init 1 none ∈ gw := gwm 255 (by decide +kernel) (by decide +kernel)
theorem h_256 : Cond.methodLink RX6 1 Lib.objectInit ∈ gw := gwm 256 (by decide +kernel) (by decide +kernel)
theorem h_257 : Cond.classLink RX6 7 RX4 ∈ gw := gwm 257 (by decide +kernel) (by decide +kernel)
theorem h_258 : Cond.methodLink RX6 11 yX4_init ∈ gw := gwm 258 (by decide +kernel) (by decide +kernel)
theorem h_259 : Cond.fieldLink RX6 14 (TX6 0).1 (TX6 0).2.1 (TX6 0).2.2.1 ∈ gw := gwm 259 (by decide +kernel) (by decide +kernel)
theorem h_261 : Cond.fieldLink RX6 18 (TX6 1).1 (TX6 1).2.1 (TX6 1).2.2.1 ∈ gw := gwm 261 (by decide +kernel) (by decide +kernel)
theorem h_262 : Cond.fieldLink RX6 22 (TX6 2).1 (TX6 2).2.1 (TX6 2).2.2.1 ∈ gw := gwm 262 (by decide +kernel) (by decide +kernel)
theorem h_263 : Cond.fieldLink RX6 25 (TX6 3).1 (TX6 3).2.1 (TX6 3).2.2.1 ∈ gw := gwm 263 (by decide +kernel) (by decide +kernel)
theorem h_273 : Cond.classLink RX8 61 RX5 ∈ gw := gwm 273 (by decide +kernel) (by decide +kernel)
theorem h_275 : Cond.instantiable RX5 3 ∈ gw := gwm 275 (by decide +kernel) (by decide +kernel)
theorem h_277 : Cond.instanceMethod yX5_init ∈ gw := gwm 277 (by decide +kernel) (by decide +kernel)
theorem h_278 : Cond.code yX5_init cX5_init 1 none ∈ gw := gwm 278 (by decide +kernel) (by decide +kernel)
theorem h_279 : Cond.methodLink RX5 3 Lib.objectInit ∈ gw := gwm 279 (by decide +kernel) (by decide +kernel)
theorem h_280 : Cond.fieldLink RX5 9 (TX5 0).1 (TX5 0).2.1 (TX5 0).2.2.1 ∈ gw := gwm 280 (by decide +kernel) (by decide +kernel)
theorem h_282 : Cond.fieldLink RX5 15 (TX5 1).1 (TX5 1).2.1 (TX5 1).2.2.1 ∈ gw := gwm 282 (by decide +kernel) (by decide +kernel)
theorem h_284 : Cond.fieldLink RX5 19 (TX5 2).1 (TX5 2).2.1 (TX5 2).2.2.1 ∈ gw := gwm 284 (by decide +kernel) (by decide +kernel)
theorem h_293 : Cond.fieldLink RX8 10 (TX8 0).1 (TX8 0).2.1 (TX8 0).2.2.1 ∈ gw := gwm 293 (by decide +kernel) (by decide +kernel)
theorem h_294 : Cond.fieldLink RX8 16 (TX8 1).1 (TX8 1).2.1 (TX8 1).2.2.1 ∈ gw := gwm 294 (by decide +kernel) (by decide +kernel)
theorem h_295 : Cond.fieldLink RX8 22 (TX8 2).1 (TX8 2).2.1 (TX8 2).2.2.1 ∈ gw := gwm 295 (by decide +kernel) (by decide +kernel)
theorem h_296 : Cond.fieldLink RX8 38 (TX8 3).1 (TX8 3).2.1 (TX8 3).2.2.1 ∈ gw := gwm 296 (by decide +kernel) (by decide +kernel)
theorem h_297 : Cond.fieldLink RX8 50 (TX8 4).1 (TX8 4).2.1 (TX8 4).2.2.1 ∈ gw := gwm 297 (by decide +kernel) (by decide +kernel)
theorem h_298 : Cond.fieldLink RX8 57 (TX8 5).1 (TX8 5).2.1 (TX8 5).2.2.1 ∈ gw := gwm 298 (by decide +kernel) (by decide +kernel)
theorem h_299 : Cond.fieldLink RX8 63 (TX8 6).1 (TX8 6).2.1 (TX8 6).2.2.1 ∈ gw := gwm 299 (by decide +kernel) (by decide +kernel)
theorem h_300 : Cond.fieldLink RX8 68 (TX8 7).1 (TX8 7).2.1 (TX8 7).2.2.1 ∈ gw := gwm 300 (by decide +kernel) (by decide +kernel)
theorem h_301 : Cond.fieldLink RX8 72 (TX8 8).1 (TX8 8).2.1 (TX8 8).2.2.1 ∈ gw := gwm 301 (by decide +kernel) (by decide +kernel)
theorem h_302 : Cond.fieldLink RX8 75 (TX8 9).1 (TX8 9).2.1 (TX8 9).2.2.1 ∈ gw := gwm 302 (by decide +kernel) (by decide +kernel)
theorem h_303 : Cond.fieldLink RX8 78 (TX8 10).1 (TX8 10).2.1 (TX8 10).2.2.1 ∈ gw := gwm 303 (by decide +kernel) (by decide +kernel)
theorem h_769 : Cond.methodLink RX9 1 Lib.objectInit ∈ gw := gwm 769 (by decide +kernel) (by decide +kernel)
theorem h_770 : Cond.methodLink RX9 49 yX9_forgets ∈ gw := gwm 770 (by decide +kernel) (by decide +kernel)
theorem h_772 : Cond.instanceMethod yX9_forgets ∈ gw := gwm 772 (by decide +kernel) (by decide +kernel)
theorem h_773 : Cond.code yX9_forgets cX9_forgets 2 none ∈ gw := gwm 773 (by decide +kernel) (by decide +kernel)
theorem h_774 : Cond.fieldLink RX9 7 (TX9 0).1 (TX9 0).2.1 (TX9 0).2.2.1 ∈ gw := gwm 774 (by decide +kernel) (by decide +kernel)
theorem h_775 : Cond.fieldLink RX9 13 (TX9 1).1 (TX9 1).2.1 (TX9 1).2.2.1 ∈ gw := gwm 775 (by decide +kernel) (by decide +kernel)
theorem h_776 : Cond.fieldLink RX9 16 (TX9 2).1 (TX9 2).2.1 (TX9 2).2.2.1 ∈ gw := gwm 776 (by decide +kernel) (by decide +kernel)
theorem h_777 : Cond.fieldLink RX9 19 (TX9 3).1 (TX9 3).2.1 (TX9 3).2.2.1 ∈ gw := gwm 777 (by decide +kernel) (by decide +kernel)
theorem h_780 : Cond.fieldLink RX9 22 (TX9 6).1 (TX9 6).2.1 (TX9 6).2.2.1 ∈ gw := gwm 780 (by decide +kernel) (by decide +kernel)
theorem h_789 : Cond.fieldLink RX9 25 (TX9 15).1 (TX9 15).2.1 (TX9 15).2.2.1 ∈ gw := gwm 789 (by decide +kernel) (by decide +kernel)
theorem h_791 : Cond.fieldLink RX9 28 (TX9 17).1 (TX9 17).2.1 (TX9 17).2.2.1 ∈ gw := gwm 791 (by decide +kernel) (by decide +kernel)
theorem h_792 : Cond.fieldLink RX9 31 (TX9 18).1 (TX9 18).2.1 (TX9 18).2.2.1 ∈ gw := gwm 792 (by decide +kernel) (by decide +kernel)
theorem h_793 : Cond.fieldLink RX9 34 (TX9 19).1 (TX9 19).2.1 (TX9 19).2.2.1 ∈ gw := gwm 793 (by decide +kernel) (by decide +kernel)
theorem h_794 : Cond.fieldLink RX9 37 (TX9 20).1 (TX9 20).2.1 (TX9 20).2.2.1 ∈ gw := gwm 794 (by decide +kernel) (by decide +kernel)
theorem h_795 : Cond.fieldLink RX9 40 (TX9 21).1 (TX9 21).2.1 (TX9 21).2.2.1 ∈ gw := gwm 795 (by decide +kernel) (by decide +kernel)
theorem h_796 : Cond.fieldLink RX9 43 (TX9 22).1 (TX9 22).2.1 (TX9 22).2.2.1 ∈ gw := gwm 796 (by decide +kernel) (by decide +kernel)
theorem h_797 : Cond.fieldLink RX9 46 (TX9 23).1 (TX9 23).2.1 (TX9 23).2.2.1 ∈ gw := gwm 797 (by decide +kernel) (by decide +kernel)
section Fill
variable {l : Launch} {D : va_G} {A : Nat → Prop} {cI cB cS : ClassId} {p : Program} {e : Env} {R : Room} {s : State} {m : MethodId} {args : Array Value} {below : List Frame} {meth : Method} {c : Code} {Q : State → Prop}
set_option maxRecDepth 100000 in
theorem fill_loop {a : Nat} (X : Cy D A (tyL cI cB cS) p s m args c cJ7_fill_031fb RJ7 4) (hE : BW D A p l e R s m args below meth c 4 0 0 Q 20 [] [] [(a, .inl (cB, 1800, .inl m1))]) : ∀ (n i : Nat), i ≤ 1800 → 1801 ≤ i + n → BW D A p l e R s m args below meth c 4 0 0 Q 5 [(0, .ref a), (1, .int (-1)), (2, .int (nI i)), (3, .int 1800)] [] [(a, .inl (cB, 1800, .inl (ff (-1) i)))] := by
  intro n
  induction n with
  | zero => intro i h1 h2; exact absurd h2 (by omega)
  | succ n ih =>
    intro i h1 h2
    refine q_iload_n X dJ7_fill_031fb_5 2 rfl rfl ?_
    refine q_iload_n X dJ7_fill_031fb_6 3 rfl rfl ?_
    refine q_icmp_ge X 20 dJ7_fill_031fb_7 (by decide) (fun c3 => ?_) (fun c3 => ?_)
    · have e1 : i = 1800 := by
        rcases Nat.lt_or_ge i 1800 with q | q
        · exact absurd c3 (by rw [show (1800 : Int32) = nI 1800 from rfl]; exact nI_ge q (by decide))
        · omega
      subst e1
      exact q_sub [] rfl hE
    · have hlt : i < 1800 := by
        rcases Nat.lt_or_ge i 1800 with q | q
        · exact q
        · exact absurd (by rw [show (1800 : Int32) = nI 1800 from rfl]; exact nI_le q (by omega)) c3
      refine q_aload_n X dJ7_fill_031fb_10 0 rfl rfl ?_
      refine q_iload_n X dJ7_fill_031fb_11 2 rfl rfl ?_
      refine q_iload_n X dJ7_fill_031fb_12 1 rfl rfl ?_
      refine q_bast (q0 := 0) X 1 dJ7_fill_031fb_13 rfl rfl (vp_in_nI hlt (by decide)) (ws' := [(a, .inl (cB, 1800, .inl (ff (-1) (i + 1))))]) ?_ ?_
      · rw [nI_clamp (by omega), show vp_nar .byte (-1) = (-1 : Int32) from rfl, ff_s]; rfl
      refine q_iinc (L' := [(0, .ref a), (1, .int (-1)), (2, .int (nI (i + 1))), (3, .int 1800)]) (v := nI (i + 1)) X dJ7_fill_031fb_14 2 rfl (nI_1 i) [1, 2, 0, 3] rfl (Nat.le_of_ble_eq_true rfl) ?_
      refine q_goto X 5 dJ7_fill_031fb_17 (by decide) ?_
      exact ih (i + 1) (by omega) (by omega)
set_option maxRecDepth 100000 in
theorem c_fill {a : Nat} (sz : Nat) : Nt l D (tyL cI cB cS) yJ7_fill_031fb cJ7_fill_031fb 4 rmFill (fun _ => True) [.ref a, .int (-1)] [(a, .inl (cB, 1800, .inl z0))] sz (fun f => f 0 = a) (fun f => [(f 0, .inl (cB, 1800, .inl m1))]) := by
  refine Nt.of (by decide) (Nat.le_of_ble_eq_true rfl) ?_ sz
  intro p e s m below meth c A X hlocks hr hin hPp
  have X : Cy D A (tyL cI cB cS) p s m [.ref a, .int (-1)].toArray c cJ7_fill_031fb RJ7 4 := X
  refine q_sub (L' := [(0, .ref a), (1, .int (-1))]) [0, 1] rfl ?_
  refine q_iconst X dJ7_fill_031fb_0 (v := 0) (by decide) ?_
  refine q_istore_n (L' := [(0, .ref a), (1, .int (-1)), (2, .int 0)]) X dJ7_fill_031fb_1 [1, 2, 0] rfl rfl (Nat.le_of_ble_eq_true rfl) ?_
  refine q_aload_n X dJ7_fill_031fb_2 0 rfl rfl ?_
  refine q_alen (q0 := 0) (t0 := 1) X dJ7_fill_031fb_3 rfl rfl (v := 1800) rfl ?_
  refine q_istore_n (L' := [(0, .ref a), (1, .int (-1)), (2, .int (nI 0)), (3, .int 1800)]) X dJ7_fill_031fb_4 [1, 2, 3, 0] rfl rfl (Nat.le_of_ble_eq_true rfl) ?_
  refine q_ws (ws' := [(a, .inl (cB, 1800, .inl (ff (-1) 0)))]) (by rw [ff_0]) ?_
  refine fill_loop X ?_ 1801 0 (by decide) (by decide)
  exact q_vret X hlocks hr dJ7_fill_031fb_20 (fun _ => a) rfl [0] (by decide) rfl ⟨Nat.le_refl _, Nat.le_refl _⟩
set_option maxRecDepth 100000 in
theorem forg_loop {h0 g : Nat} {fs : List Value} (hfs : fs[15]? = some (.ref g)) (X : Cy D A (tyL cI cB cS) p s m args c cX9_forgets RX9 2) (hE : BW D A p l e R s m args below meth c 2 0 0 Q 22 [] [] [(h0, .inr (8, fs)), (g, .inl (cI, 2000, .inl m2))]) : ∀ (n i : Nat), i ≤ 2000 → 2001 ≤ i + n → BW D A p l e R s m args below meth c 2 0 0 Q 2 [(0, .ref h0), (1, .int (nI i))] [] [(h0, .inr (8, fs)), (g, .inl (cI, 2000, .inl (ff (-1) i)))] := by
  intro n
  induction n with
  | zero => intro i h1 h2; exact absurd h2 (by omega)
  | succ n ih =>
    intro i h1 h2
    refine q_iload_n X dX9_forgets_2 1 rfl rfl ?_
    refine q_sipush X dX9_forgets_3 (v := 2000) (by decide) ?_
    refine q_icmp_ge X 22 dX9_forgets_6 (by decide) (fun c3 => ?_) (fun c3 => ?_)
    · have e1 : i = 2000 := by
        rcases Nat.lt_or_ge i 2000 with q | q
        · exact absurd c3 (by rw [show (2000 : Int32) = nI 2000 from rfl]; exact nI_ge q (by decide))
        · omega
      subst e1
      exact q_sub [] rfl hE
    · have hlt : i < 2000 := by
        rcases Nat.lt_or_ge i 2000 with q | q
        · exact q
        · exact absurd (by rw [show (2000 : Int32) = nI 2000 from rfl]; exact nI_le q (by omega)) c3
      refine q_aload_n X dX9_forgets_9 0 rfl rfl ?_
      refine q_get (q0 := 0) (v := .ref g) X dX9_forgets_10 i_X9 v_X9 rfl 15 (Nat.le_of_ble_eq_true rfl) g_789 hfs ?_
      refine q_iload_n X dX9_forgets_13 1 rfl rfl ?_
      refine q_iconst X dX9_forgets_14 (v := (-1)) (by decide) ?_
      refine q_iast (q0 := 1) X 0 dX9_forgets_15 rfl rfl (vp_in_nI hlt (by decide)) (ws' := [(h0, .inr (8, fs)), (g, .inl (cI, 2000, .inl (ff (-1) (i + 1))))]) ?_ ?_
      · rw [nI_clamp (by omega), ff_s]; rfl
      refine q_iinc (L' := [(0, .ref h0), (1, .int (nI (i + 1)))]) (v := nI (i + 1)) X dX9_forgets_16 1 rfl (nI_1 i) [1, 0] rfl (Nat.le_of_ble_eq_true rfl) ?_
      refine q_goto X 2 dX9_forgets_19 (by decide) ?_
      exact ih (i + 1) (by omega) (by omega)
set_option maxRecDepth 100000 in
theorem c_forgets {h0 g : Nat} {fs : List Value} (hfs : fs[15]? = some (.ref g)) (sz : Nat) : Nt l D (tyL cI cB cS) yX9_forgets cX9_forgets 2 rmFill (fun _ => True) [.ref h0] [(h0, .inr (8, fs)), (g, .inl (cI, 2000, .inl z0))] sz (fun _ => True) (fun _ => [(h0, .inr (8, fs)), (g, .inl (cI, 2000, .inl m2))]) := by
  refine Nt.of (by decide) (Nat.le_of_ble_eq_true rfl) ?_ sz
  intro p e s m below meth c A X hlocks hr hin hPp
  have X : Cy D A (tyL cI cB cS) p s m [.ref h0].toArray c cX9_forgets RX9 2 := X
  refine q_sub (L' := [(0, .ref h0)]) [0] rfl ?_
  refine q_iconst X dX9_forgets_0 (v := 0) (by decide) ?_
  refine q_istore_n (L' := [(0, .ref h0), (1, .int (nI 0))]) X dX9_forgets_1 [1, 0] rfl rfl (Nat.le_of_ble_eq_true rfl) ?_
  refine q_ws (ws' := [(h0, .inr (8, fs)), (g, .inl (cI, 2000, .inl (ff (-1) 0)))]) (by rw [ff_0]) ?_
  refine forg_loop hfs X ?_ 2001 0 (by decide) (by decide)
  exact q_vret X hlocks hr dX9_forgets_22 (fun _ => 0) trivial [0, 1] (by decide) rfl ⟨Nat.le_refl _, Nat.le_refl _⟩
end Fill
def wRow (cI _cB : ClassId) (n : Nat) (f : Nat → Nat) : va_W := [(f 0, .inr (3, [.ref (f 1), .int 0])), (f 1, .inl (cI, n, .inl z0))]
def wSheet (cI cB : ClassId) (f : Nat → Nat) : va_W := [((f 0), .inr (4, [.ref (f 1), .int 0, .int 0])),
  ((f 1), .inl (cI, 40, .inl z0))]
def rmRow50 : Room := { frames := 1, cells := 1, slots := 50, locals := 20 }
set_option maxHeartbeats 8000000 in
set_option maxRecDepth 100000 in
theorem i_Row50 {l : Launch} {D : va_G} {cI cB cS : ClassId} {h0 : Nat} (sz : Nat) : Nt l D (tyL cI cB cS) yX4_init cX4_init 2 rmRow50 (fun _ => True) [.ref h0, .int 50] [(h0, .inr (3, [.null, .int 0]))] sz (fun f => f 0 = h0) (wRow cI cB 50) := by
  refine Nt.of (by decide) (Nat.le_of_ble_eq_true rfl) ?_ sz
  intro p e s m below meth c A X hlocks hr hin hPp
  have X : Cy D A (tyL cI cB cS) p s m [.ref h0, .int 50].toArray c cX4_init RX4 2 := X
  refine q_sub (L' := [(0, .ref h0), (1, .int 50)]) [0, 1] rfl ?_
  refine q_aload_n X dX4_init_0 0 rfl rfl ?_
  refine q_objInit X h_158 h_86 h_87 (Nat.le_of_ble_eq_true rfl) (Nat.le_of_ble_eq_true rfl) dX4_init_1 ?_
  refine q_aload_n X dX4_init_4 0 rfl rfl ?_
  refine q_iconst X dX4_init_5 (v := 0) (by decide) ?_
  refine q_put (q0 := 0) X dX4_init_6 i_X4 tyX4_ok nmX4 v_X4 rfl 1 (Nat.le_of_ble_eq_true rfl) h_166 rfl rfl rfl rfl (Nat.le_of_ble_eq_true rfl) (ws' := [(h0, .inr (3, [.null, .int 0]))]) rfl ?_
  refine q_aload_n X dX4_init_9 0 rfl rfl ?_
  refine q_iconst X dX4_init_10 (v := 0) (by decide) ?_
  refine q_iload_n X dX4_init_11 1 rfl rfl ?_
  refine q_mmax X dX4_init_12 h_159 h_160 h_71 h_161 (Nat.le_of_ble_eq_true rfl) (Nat.le_of_ble_eq_true rfl) ⟨Nat.le_of_ble_eq_true rfl, Nat.le_of_ble_eq_true rfl⟩ (v := 50) (by decide) ?_
  refine q_newa (cA := cI) X h_152 rfl 0 rfl (50, .inl z0) (fun _ => rfl) (by decide) (N := 50) (by decide) (by decide) ⟨Nat.le_of_ble_eq_true rfl, Nat.le_of_ble_eq_true rfl⟩ dX4_init_15 (fun q15 => ?_)
  refine q_ws (ws' := [(h0, .inr (3, [.null, .int 0])), (q15, .inl (cI, 50, .inl z0))]) rfl ?_
  refine q_putF (q0 := 0) X dX4_init_17 i_X4 tyX4_ok nmX4 v_X4 rfl 0 (Nat.le_of_ble_eq_true rfl) h_162 rfl rfl hin rfl rfl rfl (Nat.le_of_ble_eq_true rfl) (ws' := [(h0, .inr (3, [.ref q15, .int 0])), (q15, .inl (cI, 50, .inl z0))]) rfl ?_
  exact q_vret X hlocks hr dX4_init_20 (fun k => ([h0, q15] : List Nat).getD k 0) rfl [0, 1] (by decide) rfl ⟨Nat.le_of_ble_eq_true rfl, Nat.le_of_ble_eq_true rfl⟩
def rmRow20 : Room := { frames := 1, cells := 1, slots := 20, locals := 20 }
set_option maxHeartbeats 8000000 in
set_option maxRecDepth 100000 in
theorem i_Row20 {l : Launch} {D : va_G} {cI cB cS : ClassId} {h0 : Nat} (sz : Nat) : Nt l D (tyL cI cB cS) yX4_init cX4_init 2 rmRow20 (fun _ => True) [.ref h0, .int 20] [(h0, .inr (3, [.null, .int 0]))] sz (fun f => f 0 = h0) (wRow cI cB 20) := by
  refine Nt.of (by decide) (Nat.le_of_ble_eq_true rfl) ?_ sz
  intro p e s m below meth c A X hlocks hr hin hPp
  have X : Cy D A (tyL cI cB cS) p s m [.ref h0, .int 20].toArray c cX4_init RX4 2 := X
  refine q_sub (L' := [(0, .ref h0), (1, .int 20)]) [0, 1] rfl ?_
  refine q_aload_n X dX4_init_0 0 rfl rfl ?_
  refine q_objInit X h_158 h_86 h_87 (Nat.le_of_ble_eq_true rfl) (Nat.le_of_ble_eq_true rfl) dX4_init_1 ?_
  refine q_aload_n X dX4_init_4 0 rfl rfl ?_
  refine q_iconst X dX4_init_5 (v := 0) (by decide) ?_
  refine q_put (q0 := 0) X dX4_init_6 i_X4 tyX4_ok nmX4 v_X4 rfl 1 (Nat.le_of_ble_eq_true rfl) h_166 rfl rfl rfl rfl (Nat.le_of_ble_eq_true rfl) (ws' := [(h0, .inr (3, [.null, .int 0]))]) rfl ?_
  refine q_aload_n X dX4_init_9 0 rfl rfl ?_
  refine q_iconst X dX4_init_10 (v := 0) (by decide) ?_
  refine q_iload_n X dX4_init_11 1 rfl rfl ?_
  refine q_mmax X dX4_init_12 h_159 h_160 h_71 h_161 (Nat.le_of_ble_eq_true rfl) (Nat.le_of_ble_eq_true rfl) ⟨Nat.le_of_ble_eq_true rfl, Nat.le_of_ble_eq_true rfl⟩ (v := 20) (by decide) ?_
  refine q_newa (cA := cI) X h_152 rfl 0 rfl (20, .inl z0) (fun _ => rfl) (by decide) (N := 20) (by decide) (by decide) ⟨Nat.le_of_ble_eq_true rfl, Nat.le_of_ble_eq_true rfl⟩ dX4_init_15 (fun q15 => ?_)
  refine q_ws (ws' := [(h0, .inr (3, [.null, .int 0])), (q15, .inl (cI, 20, .inl z0))]) rfl ?_
  refine q_putF (q0 := 0) X dX4_init_17 i_X4 tyX4_ok nmX4 v_X4 rfl 0 (Nat.le_of_ble_eq_true rfl) h_162 rfl rfl hin rfl rfl rfl (Nat.le_of_ble_eq_true rfl) (ws' := [(h0, .inr (3, [.ref q15, .int 0])), (q15, .inl (cI, 20, .inl z0))]) rfl ?_
  exact q_vret X hlocks hr dX4_init_20 (fun k => ([h0, q15] : List Nat).getD k 0) rfl [0, 1] (by decide) rfl ⟨Nat.le_of_ble_eq_true rfl, Nat.le_of_ble_eq_true rfl⟩
def rmRow40 : Room := { frames := 1, cells := 1, slots := 40, locals := 20 }
set_option maxHeartbeats 8000000 in
set_option maxRecDepth 100000 in
theorem i_Row40 {l : Launch} {D : va_G} {cI cB cS : ClassId} {h0 : Nat} (sz : Nat) : Nt l D (tyL cI cB cS) yX4_init cX4_init 2 rmRow40 (fun _ => True) [.ref h0, .int 40] [(h0, .inr (3, [.null, .int 0]))] sz (fun f => f 0 = h0) (wRow cI cB 40) := by
  refine Nt.of (by decide) (Nat.le_of_ble_eq_true rfl) ?_ sz
  intro p e s m below meth c A X hlocks hr hin hPp
  have X : Cy D A (tyL cI cB cS) p s m [.ref h0, .int 40].toArray c cX4_init RX4 2 := X
  refine q_sub (L' := [(0, .ref h0), (1, .int 40)]) [0, 1] rfl ?_
  refine q_aload_n X dX4_init_0 0 rfl rfl ?_
  refine q_objInit X h_158 h_86 h_87 (Nat.le_of_ble_eq_true rfl) (Nat.le_of_ble_eq_true rfl) dX4_init_1 ?_
  refine q_aload_n X dX4_init_4 0 rfl rfl ?_
  refine q_iconst X dX4_init_5 (v := 0) (by decide) ?_
  refine q_put (q0 := 0) X dX4_init_6 i_X4 tyX4_ok nmX4 v_X4 rfl 1 (Nat.le_of_ble_eq_true rfl) h_166 rfl rfl rfl rfl (Nat.le_of_ble_eq_true rfl) (ws' := [(h0, .inr (3, [.null, .int 0]))]) rfl ?_
  refine q_aload_n X dX4_init_9 0 rfl rfl ?_
  refine q_iconst X dX4_init_10 (v := 0) (by decide) ?_
  refine q_iload_n X dX4_init_11 1 rfl rfl ?_
  refine q_mmax X dX4_init_12 h_159 h_160 h_71 h_161 (Nat.le_of_ble_eq_true rfl) (Nat.le_of_ble_eq_true rfl) ⟨Nat.le_of_ble_eq_true rfl, Nat.le_of_ble_eq_true rfl⟩ (v := 40) (by decide) ?_
  refine q_newa (cA := cI) X h_152 rfl 0 rfl (40, .inl z0) (fun _ => rfl) (by decide) (N := 40) (by decide) (by decide) ⟨Nat.le_of_ble_eq_true rfl, Nat.le_of_ble_eq_true rfl⟩ dX4_init_15 (fun q15 => ?_)
  refine q_ws (ws' := [(h0, .inr (3, [.null, .int 0])), (q15, .inl (cI, 40, .inl z0))]) rfl ?_
  refine q_putF (q0 := 0) X dX4_init_17 i_X4 tyX4_ok nmX4 v_X4 rfl 0 (Nat.le_of_ble_eq_true rfl) h_162 rfl rfl hin rfl rfl rfl (Nat.le_of_ble_eq_true rfl) (ws' := [(h0, .inr (3, [.ref q15, .int 0])), (q15, .inl (cI, 40, .inl z0))]) rfl ?_
  exact q_vret X hlocks hr dX4_init_20 (fun k => ([h0, q15] : List Nat).getD k 0) rfl [0, 1] (by decide) rfl ⟨Nat.le_of_ble_eq_true rfl, Nat.le_of_ble_eq_true rfl⟩
def rmSheet : Room := { frames := 1, cells := 1, slots := 40, locals := 20 }
set_option maxHeartbeats 8000000 in
set_option maxRecDepth 100000 in
theorem i_Sheet {l : Launch} {D : va_G} {cI cB cS : ClassId} {h0 : Nat} (sz : Nat) : Nt l D (tyL cI cB cS) yX5_init cX5_init 1 rmSheet (fun _ => True) [.ref h0] [(h0, .inr (4, [.null, .int 0, .int 0]))] sz (fun f => f 0 = h0) (wSheet cI cB) := by
  refine Nt.of (by decide) (Nat.le_of_ble_eq_true rfl) ?_ sz
  intro p e s m below meth c A X hlocks hr hin hPp
  have X : Cy D A (tyL cI cB cS) p s m [.ref h0].toArray c cX5_init RX5 1 := X
  refine q_sub (L' := [(0, .ref h0)]) [0] rfl ?_
  refine q_aload_n X dX5_init_0 0 rfl rfl ?_
  refine q_objInit X h_279 h_86 h_87 (Nat.le_of_ble_eq_true rfl) (Nat.le_of_ble_eq_true rfl) dX5_init_1 ?_
  refine q_aload_n X dX5_init_4 0 rfl rfl ?_
  refine q_bipush X dX5_init_5 (v := 40) (by decide) ?_
  refine q_newa (cA := cI) X h_152 rfl 0 rfl (40, .inl z0) (fun _ => rfl) (by decide) (N := 40) (by decide) (by decide) ⟨Nat.le_of_ble_eq_true rfl, Nat.le_of_ble_eq_true rfl⟩ dX5_init_7 (fun q7 => ?_)
  refine q_ws (ws' := [(h0, .inr (4, [.null, .int 0, .int 0])), (q7, .inl (cI, 40, .inl z0))]) rfl ?_
  refine q_putF (q0 := 0) X dX5_init_9 i_X5 tyX5_ok nmX5 v_X5 rfl 0 (Nat.le_of_ble_eq_true rfl) h_280 rfl rfl hin rfl rfl rfl (Nat.le_of_ble_eq_true rfl) (ws' := [(h0, .inr (4, [.ref q7, .int 0, .int 0])), (q7, .inl (cI, 40, .inl z0))]) rfl ?_
  refine q_aload_n X dX5_init_12 0 rfl rfl ?_
  refine q_iconst X dX5_init_13 (v := 0) (by decide) ?_
  refine q_put (q0 := 0) X dX5_init_14 i_X5 tyX5_ok nmX5 v_X5 rfl 1 (Nat.le_of_ble_eq_true rfl) h_282 rfl rfl rfl rfl (Nat.le_of_ble_eq_true rfl) (ws' := [(h0, .inr (4, [.ref q7, .int 0, .int 0])), (q7, .inl (cI, 40, .inl z0))]) rfl ?_
  refine q_aload_n X dX5_init_17 0 rfl rfl ?_
  refine q_iconst X dX5_init_18 (v := 0) (by decide) ?_
  refine q_put (q0 := 0) X dX5_init_19 i_X5 tyX5_ok nmX5 v_X5 rfl 2 (Nat.le_of_ble_eq_true rfl) h_284 rfl rfl rfl rfl (Nat.le_of_ble_eq_true rfl) (ws' := [(h0, .inr (4, [.ref q7, .int 0, .int 0])), (q7, .inl (cI, 40, .inl z0))]) rfl ?_
  exact q_vret X hlocks hr dX5_init_22 (fun k => ([h0, q7] : List Nat).getD k 0) rfl [0, 1] (by decide) rfl ⟨Nat.le_of_ble_eq_true rfl, Nat.le_of_ble_eq_true rfl⟩
def hA_1 : Nat → Int32 := upd z0 0 0
def hA_2 : Nat → Int32 := upd z0 0 3
def hA_3 : Nat → Int32 := upd hA_1 1 1
def hA_4 : Nat → Int32 := upd hA_2 1 3
def hA_5 : Nat → Int32 := upd hA_3 2 2
def hA_6 : Nat → Int32 := upd hA_4 2 3
def hA_7 : Nat → Int32 := upd hA_5 3 3
def hA_8 : Nat → Int32 := upd hA_6 3 3
def hA_9 : Nat → Int32 := upd hA_7 4 4
def hA_10 : Nat → Int32 := upd hA_8 4 3
def hA_11 : Nat → Int32 := upd hA_9 5 5
def hA_12 : Nat → Int32 := upd hA_10 5 3
def hA_13 : Nat → Int32 := upd hA_11 6 6
def hA_14 : Nat → Int32 := upd hA_12 6 3
def hA_15 : Nat → Int32 := upd hA_13 7 7
def hA_16 : Nat → Int32 := upd hA_14 7 3
def hA_17 : Nat → Int32 := upd hA_15 8 8
def hA_18 : Nat → Int32 := upd hA_16 8 3
def hA_19 : Nat → Int32 := upd hA_17 9 9
def hA_20 : Nat → Int32 := upd hA_18 9 3
def hA_21 : Nat → Int32 := upd hA_19 10 0
def hA_22 : Nat → Int32 := upd hA_20 10 3
def hA_23 : Nat → Int32 := upd hA_21 11 1
def hA_24 : Nat → Int32 := upd hA_22 11 3
def hA_25 : Nat → Int32 := upd hA_23 12 2
def hA_26 : Nat → Int32 := upd hA_24 12 3
def hA_27 : Nat → Int32 := upd hA_25 13 3
def hA_28 : Nat → Int32 := upd hA_26 13 3
def hA_29 : Nat → Int32 := upd hA_27 14 4
def hA_30 : Nat → Int32 := upd hA_28 14 3
def hA_31 : Nat → Int32 := upd hA_29 15 5
def hA_32 : Nat → Int32 := upd hA_30 15 3
def hA_33 : Nat → Int32 := upd z0 0 0
def hA_34 : Nat → Int32 := upd hA_33 1 1
def hA_35 : Nat → Int32 := upd hA_34 2 2
def hA_36 : Nat → Int32 := upd hA_35 3 3
def hA_37 : Nat → Int32 := upd hA_36 4 4
def hA_38 : Nat → Int32 := upd hA_37 5 5
abbrev hSw : Nat → Int32 := hA_31
abbrev hFt : Nat → Int32 := hA_32
abbrev hSv : Nat → Int32 := hA_38
def wHouse (cI cB : ClassId) (f : Nat → Nat) : va_W := [((f 0), .inr (0, [.ref (f 1), .ref (f 2), .ref (f 3), .ref (f 4), .ref (f 5), .ref (f 6), .ref (f 7), .ref (f 8), .ref (f 9), .int 12, .int 0, .int 0, .int 0])),
  ((f 1), .inl (cI, 16, .inl hSw)),
  ((f 2), .inl (cI, 16, .inl hFt)),
  ((f 3), .inl (cI, 6, .inl hSv)),
  ((f 4), .inl (cI, 8, .inl z0)),
  ((f 5), .inl (cI, 8, .inl z0)),
  ((f 6), .inl (cI, 8, .inl z0)),
  ((f 7), .inl (cI, 8, .inl z0)),
  ((f 8), .inl (cI, 8, .inl z0)),
  ((f 9), .inl (cI, 8, .inl z0))]
def rmHouse : Room := { frames := 1, cells := 9, slots := 86, locals := 20 }
set_option maxHeartbeats 8000000 in
set_option maxRecDepth 100000 in
theorem i_House {l : Launch} {D : va_G} {cI cB cS : ClassId} {h0 : Nat} (sz : Nat) : Nt l D (tyL cI cB cS) yX0_init cX0_init 2 rmHouse (fun _ => True) [.ref h0] [(h0, .inr (0, [.null, .null, .null, .null, .null, .null, .null, .null, .null, .int 0, .int 0, .int 0, .int 0]))] sz (fun f => f 0 = h0) (wHouse cI cB) := by
  refine Nt.of (by decide) (Nat.le_of_ble_eq_true rfl) ?_ sz
  intro p e s m below meth c A X hlocks hr hin hPp
  have X : Cy D A (tyL cI cB cS) p s m [.ref h0].toArray c cX0_init RX0 2 := X
  refine q_sub (L' := [(0, .ref h0)]) [0] rfl ?_
  refine q_aload_n X dX0_init_0 0 rfl rfl ?_
  refine q_objInit X h_99 h_86 h_87 (Nat.le_of_ble_eq_true rfl) (Nat.le_of_ble_eq_true rfl) dX0_init_1 ?_
  refine q_aload_n X dX0_init_4 0 rfl rfl ?_
  refine q_bipush X dX0_init_5 (v := 16) (by decide) ?_
  refine q_newa (cA := cI) X h_152 rfl 0 rfl (16, .inl z0) (fun _ => rfl) (by decide) (N := 16) (by decide) (by decide) ⟨Nat.le_of_ble_eq_true rfl, Nat.le_of_ble_eq_true rfl⟩ dX0_init_7 (fun q7 => ?_)
  refine q_ws (ws' := [(h0, .inr (0, [.null, .null, .null, .null, .null, .null, .null, .null, .null, .int 0, .int 0, .int 0, .int 0])), (q7, .inl (cI, 16, .inl z0))]) rfl ?_
  refine q_putF (q0 := 0) X dX0_init_9 i_X0 tyX0_ok nmX0 v_X0 rfl 0 (Nat.le_of_ble_eq_true rfl) h_100 rfl rfl hin rfl rfl rfl (Nat.le_of_ble_eq_true rfl) (ws' := [(h0, .inr (0, [.ref q7, .null, .null, .null, .null, .null, .null, .null, .null, .int 0, .int 0, .int 0, .int 0])), (q7, .inl (cI, 16, .inl z0))]) rfl ?_
  refine q_aload_n X dX0_init_12 0 rfl rfl ?_
  refine q_bipush X dX0_init_13 (v := 16) (by decide) ?_
  refine q_newa (cA := cI) X h_152 rfl 0 rfl (16, .inl z0) (fun _ => rfl) (by decide) (N := 16) (by decide) (by decide) ⟨Nat.le_of_ble_eq_true rfl, Nat.le_of_ble_eq_true rfl⟩ dX0_init_15 (fun q15 => ?_)
  refine q_ws (ws' := [(h0, .inr (0, [.ref q7, .null, .null, .null, .null, .null, .null, .null, .null, .int 0, .int 0, .int 0, .int 0])), (q7, .inl (cI, 16, .inl z0)), (q15, .inl (cI, 16, .inl z0))]) rfl ?_
  refine q_putF (q0 := 0) X dX0_init_17 i_X0 tyX0_ok nmX0 v_X0 rfl 1 (Nat.le_of_ble_eq_true rfl) h_102 rfl rfl hin rfl rfl rfl (Nat.le_of_ble_eq_true rfl) (ws' := [(h0, .inr (0, [.ref q7, .ref q15, .null, .null, .null, .null, .null, .null, .null, .int 0, .int 0, .int 0, .int 0])), (q7, .inl (cI, 16, .inl z0)), (q15, .inl (cI, 16, .inl z0))]) rfl ?_
  refine q_aload_n X dX0_init_20 0 rfl rfl ?_
  refine q_bipush X dX0_init_21 (v := 6) (by decide) ?_
  refine q_newa (cA := cI) X h_152 rfl 0 rfl (6, .inl z0) (fun _ => rfl) (by decide) (N := 6) (by decide) (by decide) ⟨Nat.le_of_ble_eq_true rfl, Nat.le_of_ble_eq_true rfl⟩ dX0_init_23 (fun q23 => ?_)
  refine q_ws (ws' := [(h0, .inr (0, [.ref q7, .ref q15, .null, .null, .null, .null, .null, .null, .null, .int 0, .int 0, .int 0, .int 0])), (q7, .inl (cI, 16, .inl z0)), (q15, .inl (cI, 16, .inl z0)), (q23, .inl (cI, 6, .inl z0))]) rfl ?_
  refine q_putF (q0 := 0) X dX0_init_25 i_X0 tyX0_ok nmX0 v_X0 rfl 2 (Nat.le_of_ble_eq_true rfl) h_104 rfl rfl hin rfl rfl rfl (Nat.le_of_ble_eq_true rfl) (ws' := [(h0, .inr (0, [.ref q7, .ref q15, .ref q23, .null, .null, .null, .null, .null, .null, .int 0, .int 0, .int 0, .int 0])), (q7, .inl (cI, 16, .inl z0)), (q15, .inl (cI, 16, .inl z0)), (q23, .inl (cI, 6, .inl z0))]) rfl ?_
  refine q_aload_n X dX0_init_28 0 rfl rfl ?_
  refine q_bipush X dX0_init_29 (v := 8) (by decide) ?_
  refine q_newa (cA := cI) X h_152 rfl 0 rfl (8, .inl z0) (fun _ => rfl) (by decide) (N := 8) (by decide) (by decide) ⟨Nat.le_of_ble_eq_true rfl, Nat.le_of_ble_eq_true rfl⟩ dX0_init_31 (fun q31 => ?_)
  refine q_ws (ws' := [(h0, .inr (0, [.ref q7, .ref q15, .ref q23, .null, .null, .null, .null, .null, .null, .int 0, .int 0, .int 0, .int 0])), (q7, .inl (cI, 16, .inl z0)), (q15, .inl (cI, 16, .inl z0)), (q23, .inl (cI, 6, .inl z0)), (q31, .inl (cI, 8, .inl z0))]) rfl ?_
  refine q_putF (q0 := 0) X dX0_init_33 i_X0 tyX0_ok nmX0 v_X0 rfl 3 (Nat.le_of_ble_eq_true rfl) h_106 rfl rfl hin rfl rfl rfl (Nat.le_of_ble_eq_true rfl) (ws' := [(h0, .inr (0, [.ref q7, .ref q15, .ref q23, .ref q31, .null, .null, .null, .null, .null, .int 0, .int 0, .int 0, .int 0])), (q7, .inl (cI, 16, .inl z0)), (q15, .inl (cI, 16, .inl z0)), (q23, .inl (cI, 6, .inl z0)), (q31, .inl (cI, 8, .inl z0))]) rfl ?_
  refine q_aload_n X dX0_init_36 0 rfl rfl ?_
  refine q_bipush X dX0_init_37 (v := 8) (by decide) ?_
  refine q_newa (cA := cI) X h_152 rfl 0 rfl (8, .inl z0) (fun _ => rfl) (by decide) (N := 8) (by decide) (by decide) ⟨Nat.le_of_ble_eq_true rfl, Nat.le_of_ble_eq_true rfl⟩ dX0_init_39 (fun q39 => ?_)
  refine q_ws (ws' := [(h0, .inr (0, [.ref q7, .ref q15, .ref q23, .ref q31, .null, .null, .null, .null, .null, .int 0, .int 0, .int 0, .int 0])), (q7, .inl (cI, 16, .inl z0)), (q15, .inl (cI, 16, .inl z0)), (q23, .inl (cI, 6, .inl z0)), (q31, .inl (cI, 8, .inl z0)), (q39, .inl (cI, 8, .inl z0))]) rfl ?_
  refine q_putF (q0 := 0) X dX0_init_41 i_X0 tyX0_ok nmX0 v_X0 rfl 4 (Nat.le_of_ble_eq_true rfl) h_108 rfl rfl hin rfl rfl rfl (Nat.le_of_ble_eq_true rfl) (ws' := [(h0, .inr (0, [.ref q7, .ref q15, .ref q23, .ref q31, .ref q39, .null, .null, .null, .null, .int 0, .int 0, .int 0, .int 0])), (q7, .inl (cI, 16, .inl z0)), (q15, .inl (cI, 16, .inl z0)), (q23, .inl (cI, 6, .inl z0)), (q31, .inl (cI, 8, .inl z0)), (q39, .inl (cI, 8, .inl z0))]) rfl ?_
  refine q_aload_n X dX0_init_44 0 rfl rfl ?_
  refine q_bipush X dX0_init_45 (v := 8) (by decide) ?_
  refine q_newa (cA := cI) X h_152 rfl 0 rfl (8, .inl z0) (fun _ => rfl) (by decide) (N := 8) (by decide) (by decide) ⟨Nat.le_of_ble_eq_true rfl, Nat.le_of_ble_eq_true rfl⟩ dX0_init_47 (fun q47 => ?_)
  refine q_ws (ws' := [(h0, .inr (0, [.ref q7, .ref q15, .ref q23, .ref q31, .ref q39, .null, .null, .null, .null, .int 0, .int 0, .int 0, .int 0])), (q7, .inl (cI, 16, .inl z0)), (q15, .inl (cI, 16, .inl z0)), (q23, .inl (cI, 6, .inl z0)), (q31, .inl (cI, 8, .inl z0)), (q39, .inl (cI, 8, .inl z0)), (q47, .inl (cI, 8, .inl z0))]) rfl ?_
  refine q_putF (q0 := 0) X dX0_init_49 i_X0 tyX0_ok nmX0 v_X0 rfl 5 (Nat.le_of_ble_eq_true rfl) h_110 rfl rfl hin rfl rfl rfl (Nat.le_of_ble_eq_true rfl) (ws' := [(h0, .inr (0, [.ref q7, .ref q15, .ref q23, .ref q31, .ref q39, .ref q47, .null, .null, .null, .int 0, .int 0, .int 0, .int 0])), (q7, .inl (cI, 16, .inl z0)), (q15, .inl (cI, 16, .inl z0)), (q23, .inl (cI, 6, .inl z0)), (q31, .inl (cI, 8, .inl z0)), (q39, .inl (cI, 8, .inl z0)), (q47, .inl (cI, 8, .inl z0))]) rfl ?_
  refine q_aload_n X dX0_init_52 0 rfl rfl ?_
  refine q_bipush X dX0_init_53 (v := 8) (by decide) ?_
  refine q_newa (cA := cI) X h_152 rfl 0 rfl (8, .inl z0) (fun _ => rfl) (by decide) (N := 8) (by decide) (by decide) ⟨Nat.le_of_ble_eq_true rfl, Nat.le_of_ble_eq_true rfl⟩ dX0_init_55 (fun q55 => ?_)
  refine q_ws (ws' := [(h0, .inr (0, [.ref q7, .ref q15, .ref q23, .ref q31, .ref q39, .ref q47, .null, .null, .null, .int 0, .int 0, .int 0, .int 0])), (q7, .inl (cI, 16, .inl z0)), (q15, .inl (cI, 16, .inl z0)), (q23, .inl (cI, 6, .inl z0)), (q31, .inl (cI, 8, .inl z0)), (q39, .inl (cI, 8, .inl z0)), (q47, .inl (cI, 8, .inl z0)), (q55, .inl (cI, 8, .inl z0))]) rfl ?_
  refine q_putF (q0 := 0) X dX0_init_57 i_X0 tyX0_ok nmX0 v_X0 rfl 6 (Nat.le_of_ble_eq_true rfl) h_112 rfl rfl hin rfl rfl rfl (Nat.le_of_ble_eq_true rfl) (ws' := [(h0, .inr (0, [.ref q7, .ref q15, .ref q23, .ref q31, .ref q39, .ref q47, .ref q55, .null, .null, .int 0, .int 0, .int 0, .int 0])), (q7, .inl (cI, 16, .inl z0)), (q15, .inl (cI, 16, .inl z0)), (q23, .inl (cI, 6, .inl z0)), (q31, .inl (cI, 8, .inl z0)), (q39, .inl (cI, 8, .inl z0)), (q47, .inl (cI, 8, .inl z0)), (q55, .inl (cI, 8, .inl z0))]) rfl ?_
  refine q_aload_n X dX0_init_60 0 rfl rfl ?_
  refine q_bipush X dX0_init_61 (v := 8) (by decide) ?_
  refine q_newa (cA := cI) X h_152 rfl 0 rfl (8, .inl z0) (fun _ => rfl) (by decide) (N := 8) (by decide) (by decide) ⟨Nat.le_of_ble_eq_true rfl, Nat.le_of_ble_eq_true rfl⟩ dX0_init_63 (fun q63 => ?_)
  refine q_ws (ws' := [(h0, .inr (0, [.ref q7, .ref q15, .ref q23, .ref q31, .ref q39, .ref q47, .ref q55, .null, .null, .int 0, .int 0, .int 0, .int 0])), (q7, .inl (cI, 16, .inl z0)), (q15, .inl (cI, 16, .inl z0)), (q23, .inl (cI, 6, .inl z0)), (q31, .inl (cI, 8, .inl z0)), (q39, .inl (cI, 8, .inl z0)), (q47, .inl (cI, 8, .inl z0)), (q55, .inl (cI, 8, .inl z0)), (q63, .inl (cI, 8, .inl z0))]) rfl ?_
  refine q_putF (q0 := 0) X dX0_init_65 i_X0 tyX0_ok nmX0 v_X0 rfl 7 (Nat.le_of_ble_eq_true rfl) h_114 rfl rfl hin rfl rfl rfl (Nat.le_of_ble_eq_true rfl) (ws' := [(h0, .inr (0, [.ref q7, .ref q15, .ref q23, .ref q31, .ref q39, .ref q47, .ref q55, .ref q63, .null, .int 0, .int 0, .int 0, .int 0])), (q7, .inl (cI, 16, .inl z0)), (q15, .inl (cI, 16, .inl z0)), (q23, .inl (cI, 6, .inl z0)), (q31, .inl (cI, 8, .inl z0)), (q39, .inl (cI, 8, .inl z0)), (q47, .inl (cI, 8, .inl z0)), (q55, .inl (cI, 8, .inl z0)), (q63, .inl (cI, 8, .inl z0))]) rfl ?_
  refine q_aload_n X dX0_init_68 0 rfl rfl ?_
  refine q_bipush X dX0_init_69 (v := 8) (by decide) ?_
  refine q_newa (cA := cI) X h_152 rfl 0 rfl (8, .inl z0) (fun _ => rfl) (by decide) (N := 8) (by decide) (by decide) ⟨Nat.le_of_ble_eq_true rfl, Nat.le_of_ble_eq_true rfl⟩ dX0_init_71 (fun q71 => ?_)
  refine q_ws (ws' := [(h0, .inr (0, [.ref q7, .ref q15, .ref q23, .ref q31, .ref q39, .ref q47, .ref q55, .ref q63, .null, .int 0, .int 0, .int 0, .int 0])), (q7, .inl (cI, 16, .inl z0)), (q15, .inl (cI, 16, .inl z0)), (q23, .inl (cI, 6, .inl z0)), (q31, .inl (cI, 8, .inl z0)), (q39, .inl (cI, 8, .inl z0)), (q47, .inl (cI, 8, .inl z0)), (q55, .inl (cI, 8, .inl z0)), (q63, .inl (cI, 8, .inl z0)), (q71, .inl (cI, 8, .inl z0))]) rfl ?_
  refine q_putF (q0 := 0) X dX0_init_73 i_X0 tyX0_ok nmX0 v_X0 rfl 8 (Nat.le_of_ble_eq_true rfl) h_116 rfl rfl hin rfl rfl rfl (Nat.le_of_ble_eq_true rfl) (ws' := [(h0, .inr (0, [.ref q7, .ref q15, .ref q23, .ref q31, .ref q39, .ref q47, .ref q55, .ref q63, .ref q71, .int 0, .int 0, .int 0, .int 0])), (q7, .inl (cI, 16, .inl z0)), (q15, .inl (cI, 16, .inl z0)), (q23, .inl (cI, 6, .inl z0)), (q31, .inl (cI, 8, .inl z0)), (q39, .inl (cI, 8, .inl z0)), (q47, .inl (cI, 8, .inl z0)), (q55, .inl (cI, 8, .inl z0)), (q63, .inl (cI, 8, .inl z0)), (q71, .inl (cI, 8, .inl z0))]) rfl ?_
  refine q_aload_n X dX0_init_76 0 rfl rfl ?_
  refine q_bipush X dX0_init_77 (v := 12) (by decide) ?_
  refine q_put (q0 := 0) X dX0_init_79 i_X0 tyX0_ok nmX0 v_X0 rfl 9 (Nat.le_of_ble_eq_true rfl) h_117 rfl rfl rfl rfl (Nat.le_of_ble_eq_true rfl) (ws' := [(h0, .inr (0, [.ref q7, .ref q15, .ref q23, .ref q31, .ref q39, .ref q47, .ref q55, .ref q63, .ref q71, .int 12, .int 0, .int 0, .int 0])), (q7, .inl (cI, 16, .inl z0)), (q15, .inl (cI, 16, .inl z0)), (q23, .inl (cI, 6, .inl z0)), (q31, .inl (cI, 8, .inl z0)), (q39, .inl (cI, 8, .inl z0)), (q47, .inl (cI, 8, .inl z0)), (q55, .inl (cI, 8, .inl z0)), (q63, .inl (cI, 8, .inl z0)), (q71, .inl (cI, 8, .inl z0))]) rfl ?_
  refine q_aload_n X dX0_init_82 0 rfl rfl ?_
  refine q_iconst X dX0_init_83 (v := 0) (by decide) ?_
  refine q_put (q0 := 0) X dX0_init_84 i_X0 tyX0_ok nmX0 v_X0 rfl 10 (Nat.le_of_ble_eq_true rfl) h_119 rfl rfl rfl rfl (Nat.le_of_ble_eq_true rfl) (ws' := [(h0, .inr (0, [.ref q7, .ref q15, .ref q23, .ref q31, .ref q39, .ref q47, .ref q55, .ref q63, .ref q71, .int 12, .int 0, .int 0, .int 0])), (q7, .inl (cI, 16, .inl z0)), (q15, .inl (cI, 16, .inl z0)), (q23, .inl (cI, 6, .inl z0)), (q31, .inl (cI, 8, .inl z0)), (q39, .inl (cI, 8, .inl z0)), (q47, .inl (cI, 8, .inl z0)), (q55, .inl (cI, 8, .inl z0)), (q63, .inl (cI, 8, .inl z0)), (q71, .inl (cI, 8, .inl z0))]) rfl ?_
  refine q_aload_n X dX0_init_87 0 rfl rfl ?_
  refine q_iconst X dX0_init_88 (v := 0) (by decide) ?_
  refine q_put (q0 := 0) X dX0_init_89 i_X0 tyX0_ok nmX0 v_X0 rfl 11 (Nat.le_of_ble_eq_true rfl) h_121 rfl rfl rfl rfl (Nat.le_of_ble_eq_true rfl) (ws' := [(h0, .inr (0, [.ref q7, .ref q15, .ref q23, .ref q31, .ref q39, .ref q47, .ref q55, .ref q63, .ref q71, .int 12, .int 0, .int 0, .int 0])), (q7, .inl (cI, 16, .inl z0)), (q15, .inl (cI, 16, .inl z0)), (q23, .inl (cI, 6, .inl z0)), (q31, .inl (cI, 8, .inl z0)), (q39, .inl (cI, 8, .inl z0)), (q47, .inl (cI, 8, .inl z0)), (q55, .inl (cI, 8, .inl z0)), (q63, .inl (cI, 8, .inl z0)), (q71, .inl (cI, 8, .inl z0))]) rfl ?_
  refine q_aload_n X dX0_init_92 0 rfl rfl ?_
  refine q_iconst X dX0_init_93 (v := 0) (by decide) ?_
  refine q_put (q0 := 0) X dX0_init_94 i_X0 tyX0_ok nmX0 v_X0 rfl 12 (Nat.le_of_ble_eq_true rfl) h_123 rfl rfl rfl rfl (Nat.le_of_ble_eq_true rfl) (ws' := [(h0, .inr (0, [.ref q7, .ref q15, .ref q23, .ref q31, .ref q39, .ref q47, .ref q55, .ref q63, .ref q71, .int 12, .int 0, .int 0, .int 0])), (q7, .inl (cI, 16, .inl z0)), (q15, .inl (cI, 16, .inl z0)), (q23, .inl (cI, 6, .inl z0)), (q31, .inl (cI, 8, .inl z0)), (q39, .inl (cI, 8, .inl z0)), (q47, .inl (cI, 8, .inl z0)), (q55, .inl (cI, 8, .inl z0)), (q63, .inl (cI, 8, .inl z0)), (q71, .inl (cI, 8, .inl z0))]) rfl ?_
  refine q_iconst X dX0_init_97 (v := 0) (by decide) ?_
  refine q_istore_n (L' := [(0, .ref h0), (1, .int 0)]) X dX0_init_98 [1, 0] rfl rfl (Nat.le_of_ble_eq_true rfl) ?_
  refine q_iload_n X dX0_init_99 1 rfl rfl ?_
  refine q_bipush X dX0_init_100 (v := 16) (by decide) ?_
  refine q_icmp_ge X 128 dX0_init_102 (by decide) (fun h => absurd h (by decide)) (fun _ => ?_)
  refine q_aload_n X dX0_init_105 0 rfl rfl ?_
  refine q_get (q0 := 0) (v := .ref q7) X dX0_init_106 i_X0 v_X0 rfl 0 (Nat.le_of_ble_eq_true rfl) h_100 rfl ?_
  refine q_iload_n X dX0_init_109 1 rfl rfl ?_
  refine q_iload_n X dX0_init_110 1 rfl rfl ?_
  refine q_bipush X dX0_init_111 (v := 10) (by decide) ?_
  refine q_irem X dX0_init_113 (by decide) (v := 0) (by decide) ?_
  refine q_iast (q0 := 1) X 0 dX0_init_114 rfl rfl (by unfold vp_in; decide) (ws' := [(h0, .inr (0, [.ref q7, .ref q15, .ref q23, .ref q31, .ref q39, .ref q47, .ref q55, .ref q63, .ref q71, .int 12, .int 0, .int 0, .int 0])), (q7, .inl (cI, 16, .inl hA_1)), (q15, .inl (cI, 16, .inl z0)), (q23, .inl (cI, 6, .inl z0)), (q31, .inl (cI, 8, .inl z0)), (q39, .inl (cI, 8, .inl z0)), (q47, .inl (cI, 8, .inl z0)), (q55, .inl (cI, 8, .inl z0)), (q63, .inl (cI, 8, .inl z0)), (q71, .inl (cI, 8, .inl z0))]) rfl ?_
  refine q_aload_n X dX0_init_115 0 rfl rfl ?_
  refine q_get (q0 := 0) (v := .ref q15) X dX0_init_116 i_X0 v_X0 rfl 1 (Nat.le_of_ble_eq_true rfl) h_102 rfl ?_
  refine q_iload_n X dX0_init_119 1 rfl rfl ?_
  refine q_iconst X dX0_init_120 (v := 3) (by decide) ?_
  refine q_iast (q0 := 2) X 0 dX0_init_121 rfl rfl (by unfold vp_in; decide) (ws' := [(h0, .inr (0, [.ref q7, .ref q15, .ref q23, .ref q31, .ref q39, .ref q47, .ref q55, .ref q63, .ref q71, .int 12, .int 0, .int 0, .int 0])), (q7, .inl (cI, 16, .inl hA_1)), (q15, .inl (cI, 16, .inl hA_2)), (q23, .inl (cI, 6, .inl z0)), (q31, .inl (cI, 8, .inl z0)), (q39, .inl (cI, 8, .inl z0)), (q47, .inl (cI, 8, .inl z0)), (q55, .inl (cI, 8, .inl z0)), (q63, .inl (cI, 8, .inl z0)), (q71, .inl (cI, 8, .inl z0))]) rfl ?_
  refine q_iinc (L' := [(0, .ref h0), (1, .int 1)]) (v := 1) X dX0_init_122 1 rfl (by decide) [1, 0] rfl (Nat.le_of_ble_eq_true rfl) ?_
  refine q_goto X 99 dX0_init_125 (by decide) ?_
  refine q_iload_n X dX0_init_99 1 rfl rfl ?_
  refine q_bipush X dX0_init_100 (v := 16) (by decide) ?_
  refine q_icmp_ge X 128 dX0_init_102 (by decide) (fun h => absurd h (by decide)) (fun _ => ?_)
  refine q_aload_n X dX0_init_105 0 rfl rfl ?_
  refine q_get (q0 := 0) (v := .ref q7) X dX0_init_106 i_X0 v_X0 rfl 0 (Nat.le_of_ble_eq_true rfl) h_100 rfl ?_
  refine q_iload_n X dX0_init_109 1 rfl rfl ?_
  refine q_iload_n X dX0_init_110 1 rfl rfl ?_
  refine q_bipush X dX0_init_111 (v := 10) (by decide) ?_
  refine q_irem X dX0_init_113 (by decide) (v := 1) (by decide) ?_
  refine q_iast (q0 := 1) X 0 dX0_init_114 rfl rfl (by unfold vp_in; decide) (ws' := [(h0, .inr (0, [.ref q7, .ref q15, .ref q23, .ref q31, .ref q39, .ref q47, .ref q55, .ref q63, .ref q71, .int 12, .int 0, .int 0, .int 0])), (q7, .inl (cI, 16, .inl hA_3)), (q15, .inl (cI, 16, .inl hA_2)), (q23, .inl (cI, 6, .inl z0)), (q31, .inl (cI, 8, .inl z0)), (q39, .inl (cI, 8, .inl z0)), (q47, .inl (cI, 8, .inl z0)), (q55, .inl (cI, 8, .inl z0)), (q63, .inl (cI, 8, .inl z0)), (q71, .inl (cI, 8, .inl z0))]) rfl ?_
  refine q_aload_n X dX0_init_115 0 rfl rfl ?_
  refine q_get (q0 := 0) (v := .ref q15) X dX0_init_116 i_X0 v_X0 rfl 1 (Nat.le_of_ble_eq_true rfl) h_102 rfl ?_
  refine q_iload_n X dX0_init_119 1 rfl rfl ?_
  refine q_iconst X dX0_init_120 (v := 3) (by decide) ?_
  refine q_iast (q0 := 2) X 0 dX0_init_121 rfl rfl (by unfold vp_in; decide) (ws' := [(h0, .inr (0, [.ref q7, .ref q15, .ref q23, .ref q31, .ref q39, .ref q47, .ref q55, .ref q63, .ref q71, .int 12, .int 0, .int 0, .int 0])), (q7, .inl (cI, 16, .inl hA_3)), (q15, .inl (cI, 16, .inl hA_4)), (q23, .inl (cI, 6, .inl z0)), (q31, .inl (cI, 8, .inl z0)), (q39, .inl (cI, 8, .inl z0)), (q47, .inl (cI, 8, .inl z0)), (q55, .inl (cI, 8, .inl z0)), (q63, .inl (cI, 8, .inl z0)), (q71, .inl (cI, 8, .inl z0))]) rfl ?_
  refine q_iinc (L' := [(0, .ref h0), (1, .int 2)]) (v := 2) X dX0_init_122 1 rfl (by decide) [1, 0] rfl (Nat.le_of_ble_eq_true rfl) ?_
  refine q_goto X 99 dX0_init_125 (by decide) ?_
  refine q_iload_n X dX0_init_99 1 rfl rfl ?_
  refine q_bipush X dX0_init_100 (v := 16) (by decide) ?_
  refine q_icmp_ge X 128 dX0_init_102 (by decide) (fun h => absurd h (by decide)) (fun _ => ?_)
  refine q_aload_n X dX0_init_105 0 rfl rfl ?_
  refine q_get (q0 := 0) (v := .ref q7) X dX0_init_106 i_X0 v_X0 rfl 0 (Nat.le_of_ble_eq_true rfl) h_100 rfl ?_
  refine q_iload_n X dX0_init_109 1 rfl rfl ?_
  refine q_iload_n X dX0_init_110 1 rfl rfl ?_
  refine q_bipush X dX0_init_111 (v := 10) (by decide) ?_
  refine q_irem X dX0_init_113 (by decide) (v := 2) (by decide) ?_
  refine q_iast (q0 := 1) X 0 dX0_init_114 rfl rfl (by unfold vp_in; decide) (ws' := [(h0, .inr (0, [.ref q7, .ref q15, .ref q23, .ref q31, .ref q39, .ref q47, .ref q55, .ref q63, .ref q71, .int 12, .int 0, .int 0, .int 0])), (q7, .inl (cI, 16, .inl hA_5)), (q15, .inl (cI, 16, .inl hA_4)), (q23, .inl (cI, 6, .inl z0)), (q31, .inl (cI, 8, .inl z0)), (q39, .inl (cI, 8, .inl z0)), (q47, .inl (cI, 8, .inl z0)), (q55, .inl (cI, 8, .inl z0)), (q63, .inl (cI, 8, .inl z0)), (q71, .inl (cI, 8, .inl z0))]) rfl ?_
  refine q_aload_n X dX0_init_115 0 rfl rfl ?_
  refine q_get (q0 := 0) (v := .ref q15) X dX0_init_116 i_X0 v_X0 rfl 1 (Nat.le_of_ble_eq_true rfl) h_102 rfl ?_
  refine q_iload_n X dX0_init_119 1 rfl rfl ?_
  refine q_iconst X dX0_init_120 (v := 3) (by decide) ?_
  refine q_iast (q0 := 2) X 0 dX0_init_121 rfl rfl (by unfold vp_in; decide) (ws' := [(h0, .inr (0, [.ref q7, .ref q15, .ref q23, .ref q31, .ref q39, .ref q47, .ref q55, .ref q63, .ref q71, .int 12, .int 0, .int 0, .int 0])), (q7, .inl (cI, 16, .inl hA_5)), (q15, .inl (cI, 16, .inl hA_6)), (q23, .inl (cI, 6, .inl z0)), (q31, .inl (cI, 8, .inl z0)), (q39, .inl (cI, 8, .inl z0)), (q47, .inl (cI, 8, .inl z0)), (q55, .inl (cI, 8, .inl z0)), (q63, .inl (cI, 8, .inl z0)), (q71, .inl (cI, 8, .inl z0))]) rfl ?_
  refine q_iinc (L' := [(0, .ref h0), (1, .int 3)]) (v := 3) X dX0_init_122 1 rfl (by decide) [1, 0] rfl (Nat.le_of_ble_eq_true rfl) ?_
  refine q_goto X 99 dX0_init_125 (by decide) ?_
  refine q_iload_n X dX0_init_99 1 rfl rfl ?_
  refine q_bipush X dX0_init_100 (v := 16) (by decide) ?_
  refine q_icmp_ge X 128 dX0_init_102 (by decide) (fun h => absurd h (by decide)) (fun _ => ?_)
  refine q_aload_n X dX0_init_105 0 rfl rfl ?_
  refine q_get (q0 := 0) (v := .ref q7) X dX0_init_106 i_X0 v_X0 rfl 0 (Nat.le_of_ble_eq_true rfl) h_100 rfl ?_
  refine q_iload_n X dX0_init_109 1 rfl rfl ?_
  refine q_iload_n X dX0_init_110 1 rfl rfl ?_
  refine q_bipush X dX0_init_111 (v := 10) (by decide) ?_
  refine q_irem X dX0_init_113 (by decide) (v := 3) (by decide) ?_
  refine q_iast (q0 := 1) X 0 dX0_init_114 rfl rfl (by unfold vp_in; decide) (ws' := [(h0, .inr (0, [.ref q7, .ref q15, .ref q23, .ref q31, .ref q39, .ref q47, .ref q55, .ref q63, .ref q71, .int 12, .int 0, .int 0, .int 0])), (q7, .inl (cI, 16, .inl hA_7)), (q15, .inl (cI, 16, .inl hA_6)), (q23, .inl (cI, 6, .inl z0)), (q31, .inl (cI, 8, .inl z0)), (q39, .inl (cI, 8, .inl z0)), (q47, .inl (cI, 8, .inl z0)), (q55, .inl (cI, 8, .inl z0)), (q63, .inl (cI, 8, .inl z0)), (q71, .inl (cI, 8, .inl z0))]) rfl ?_
  refine q_aload_n X dX0_init_115 0 rfl rfl ?_
  refine q_get (q0 := 0) (v := .ref q15) X dX0_init_116 i_X0 v_X0 rfl 1 (Nat.le_of_ble_eq_true rfl) h_102 rfl ?_
  refine q_iload_n X dX0_init_119 1 rfl rfl ?_
  refine q_iconst X dX0_init_120 (v := 3) (by decide) ?_
  refine q_iast (q0 := 2) X 0 dX0_init_121 rfl rfl (by unfold vp_in; decide) (ws' := [(h0, .inr (0, [.ref q7, .ref q15, .ref q23, .ref q31, .ref q39, .ref q47, .ref q55, .ref q63, .ref q71, .int 12, .int 0, .int 0, .int 0])), (q7, .inl (cI, 16, .inl hA_7)), (q15, .inl (cI, 16, .inl hA_8)), (q23, .inl (cI, 6, .inl z0)), (q31, .inl (cI, 8, .inl z0)), (q39, .inl (cI, 8, .inl z0)), (q47, .inl (cI, 8, .inl z0)), (q55, .inl (cI, 8, .inl z0)), (q63, .inl (cI, 8, .inl z0)), (q71, .inl (cI, 8, .inl z0))]) rfl ?_
  refine q_iinc (L' := [(0, .ref h0), (1, .int 4)]) (v := 4) X dX0_init_122 1 rfl (by decide) [1, 0] rfl (Nat.le_of_ble_eq_true rfl) ?_
  refine q_goto X 99 dX0_init_125 (by decide) ?_
  refine q_iload_n X dX0_init_99 1 rfl rfl ?_
  refine q_bipush X dX0_init_100 (v := 16) (by decide) ?_
  refine q_icmp_ge X 128 dX0_init_102 (by decide) (fun h => absurd h (by decide)) (fun _ => ?_)
  refine q_aload_n X dX0_init_105 0 rfl rfl ?_
  refine q_get (q0 := 0) (v := .ref q7) X dX0_init_106 i_X0 v_X0 rfl 0 (Nat.le_of_ble_eq_true rfl) h_100 rfl ?_
  refine q_iload_n X dX0_init_109 1 rfl rfl ?_
  refine q_iload_n X dX0_init_110 1 rfl rfl ?_
  refine q_bipush X dX0_init_111 (v := 10) (by decide) ?_
  refine q_irem X dX0_init_113 (by decide) (v := 4) (by decide) ?_
  refine q_iast (q0 := 1) X 0 dX0_init_114 rfl rfl (by unfold vp_in; decide) (ws' := [(h0, .inr (0, [.ref q7, .ref q15, .ref q23, .ref q31, .ref q39, .ref q47, .ref q55, .ref q63, .ref q71, .int 12, .int 0, .int 0, .int 0])), (q7, .inl (cI, 16, .inl hA_9)), (q15, .inl (cI, 16, .inl hA_8)), (q23, .inl (cI, 6, .inl z0)), (q31, .inl (cI, 8, .inl z0)), (q39, .inl (cI, 8, .inl z0)), (q47, .inl (cI, 8, .inl z0)), (q55, .inl (cI, 8, .inl z0)), (q63, .inl (cI, 8, .inl z0)), (q71, .inl (cI, 8, .inl z0))]) rfl ?_
  refine q_aload_n X dX0_init_115 0 rfl rfl ?_
  refine q_get (q0 := 0) (v := .ref q15) X dX0_init_116 i_X0 v_X0 rfl 1 (Nat.le_of_ble_eq_true rfl) h_102 rfl ?_
  refine q_iload_n X dX0_init_119 1 rfl rfl ?_
  refine q_iconst X dX0_init_120 (v := 3) (by decide) ?_
  refine q_iast (q0 := 2) X 0 dX0_init_121 rfl rfl (by unfold vp_in; decide) (ws' := [(h0, .inr (0, [.ref q7, .ref q15, .ref q23, .ref q31, .ref q39, .ref q47, .ref q55, .ref q63, .ref q71, .int 12, .int 0, .int 0, .int 0])), (q7, .inl (cI, 16, .inl hA_9)), (q15, .inl (cI, 16, .inl hA_10)), (q23, .inl (cI, 6, .inl z0)), (q31, .inl (cI, 8, .inl z0)), (q39, .inl (cI, 8, .inl z0)), (q47, .inl (cI, 8, .inl z0)), (q55, .inl (cI, 8, .inl z0)), (q63, .inl (cI, 8, .inl z0)), (q71, .inl (cI, 8, .inl z0))]) rfl ?_
  refine q_iinc (L' := [(0, .ref h0), (1, .int 5)]) (v := 5) X dX0_init_122 1 rfl (by decide) [1, 0] rfl (Nat.le_of_ble_eq_true rfl) ?_
  refine q_goto X 99 dX0_init_125 (by decide) ?_
  refine q_iload_n X dX0_init_99 1 rfl rfl ?_
  refine q_bipush X dX0_init_100 (v := 16) (by decide) ?_
  refine q_icmp_ge X 128 dX0_init_102 (by decide) (fun h => absurd h (by decide)) (fun _ => ?_)
  refine q_aload_n X dX0_init_105 0 rfl rfl ?_
  refine q_get (q0 := 0) (v := .ref q7) X dX0_init_106 i_X0 v_X0 rfl 0 (Nat.le_of_ble_eq_true rfl) h_100 rfl ?_
  refine q_iload_n X dX0_init_109 1 rfl rfl ?_
  refine q_iload_n X dX0_init_110 1 rfl rfl ?_
  refine q_bipush X dX0_init_111 (v := 10) (by decide) ?_
  refine q_irem X dX0_init_113 (by decide) (v := 5) (by decide) ?_
  refine q_iast (q0 := 1) X 0 dX0_init_114 rfl rfl (by unfold vp_in; decide) (ws' := [(h0, .inr (0, [.ref q7, .ref q15, .ref q23, .ref q31, .ref q39, .ref q47, .ref q55, .ref q63, .ref q71, .int 12, .int 0, .int 0, .int 0])), (q7, .inl (cI, 16, .inl hA_11)), (q15, .inl (cI, 16, .inl hA_10)), (q23, .inl (cI, 6, .inl z0)), (q31, .inl (cI, 8, .inl z0)), (q39, .inl (cI, 8, .inl z0)), (q47, .inl (cI, 8, .inl z0)), (q55, .inl (cI, 8, .inl z0)), (q63, .inl (cI, 8, .inl z0)), (q71, .inl (cI, 8, .inl z0))]) rfl ?_
  refine q_aload_n X dX0_init_115 0 rfl rfl ?_
  refine q_get (q0 := 0) (v := .ref q15) X dX0_init_116 i_X0 v_X0 rfl 1 (Nat.le_of_ble_eq_true rfl) h_102 rfl ?_
  refine q_iload_n X dX0_init_119 1 rfl rfl ?_
  refine q_iconst X dX0_init_120 (v := 3) (by decide) ?_
  refine q_iast (q0 := 2) X 0 dX0_init_121 rfl rfl (by unfold vp_in; decide) (ws' := [(h0, .inr (0, [.ref q7, .ref q15, .ref q23, .ref q31, .ref q39, .ref q47, .ref q55, .ref q63, .ref q71, .int 12, .int 0, .int 0, .int 0])), (q7, .inl (cI, 16, .inl hA_11)), (q15, .inl (cI, 16, .inl hA_12)), (q23, .inl (cI, 6, .inl z0)), (q31, .inl (cI, 8, .inl z0)), (q39, .inl (cI, 8, .inl z0)), (q47, .inl (cI, 8, .inl z0)), (q55, .inl (cI, 8, .inl z0)), (q63, .inl (cI, 8, .inl z0)), (q71, .inl (cI, 8, .inl z0))]) rfl ?_
  refine q_iinc (L' := [(0, .ref h0), (1, .int 6)]) (v := 6) X dX0_init_122 1 rfl (by decide) [1, 0] rfl (Nat.le_of_ble_eq_true rfl) ?_
  refine q_goto X 99 dX0_init_125 (by decide) ?_
  refine q_iload_n X dX0_init_99 1 rfl rfl ?_
  refine q_bipush X dX0_init_100 (v := 16) (by decide) ?_
  refine q_icmp_ge X 128 dX0_init_102 (by decide) (fun h => absurd h (by decide)) (fun _ => ?_)
  refine q_aload_n X dX0_init_105 0 rfl rfl ?_
  refine q_get (q0 := 0) (v := .ref q7) X dX0_init_106 i_X0 v_X0 rfl 0 (Nat.le_of_ble_eq_true rfl) h_100 rfl ?_
  refine q_iload_n X dX0_init_109 1 rfl rfl ?_
  refine q_iload_n X dX0_init_110 1 rfl rfl ?_
  refine q_bipush X dX0_init_111 (v := 10) (by decide) ?_
  refine q_irem X dX0_init_113 (by decide) (v := 6) (by decide) ?_
  refine q_iast (q0 := 1) X 0 dX0_init_114 rfl rfl (by unfold vp_in; decide) (ws' := [(h0, .inr (0, [.ref q7, .ref q15, .ref q23, .ref q31, .ref q39, .ref q47, .ref q55, .ref q63, .ref q71, .int 12, .int 0, .int 0, .int 0])), (q7, .inl (cI, 16, .inl hA_13)), (q15, .inl (cI, 16, .inl hA_12)), (q23, .inl (cI, 6, .inl z0)), (q31, .inl (cI, 8, .inl z0)), (q39, .inl (cI, 8, .inl z0)), (q47, .inl (cI, 8, .inl z0)), (q55, .inl (cI, 8, .inl z0)), (q63, .inl (cI, 8, .inl z0)), (q71, .inl (cI, 8, .inl z0))]) rfl ?_
  refine q_aload_n X dX0_init_115 0 rfl rfl ?_
  refine q_get (q0 := 0) (v := .ref q15) X dX0_init_116 i_X0 v_X0 rfl 1 (Nat.le_of_ble_eq_true rfl) h_102 rfl ?_
  refine q_iload_n X dX0_init_119 1 rfl rfl ?_
  refine q_iconst X dX0_init_120 (v := 3) (by decide) ?_
  refine q_iast (q0 := 2) X 0 dX0_init_121 rfl rfl (by unfold vp_in; decide) (ws' := [(h0, .inr (0, [.ref q7, .ref q15, .ref q23, .ref q31, .ref q39, .ref q47, .ref q55, .ref q63, .ref q71, .int 12, .int 0, .int 0, .int 0])), (q7, .inl (cI, 16, .inl hA_13)), (q15, .inl (cI, 16, .inl hA_14)), (q23, .inl (cI, 6, .inl z0)), (q31, .inl (cI, 8, .inl z0)), (q39, .inl (cI, 8, .inl z0)), (q47, .inl (cI, 8, .inl z0)), (q55, .inl (cI, 8, .inl z0)), (q63, .inl (cI, 8, .inl z0)), (q71, .inl (cI, 8, .inl z0))]) rfl ?_
  refine q_iinc (L' := [(0, .ref h0), (1, .int 7)]) (v := 7) X dX0_init_122 1 rfl (by decide) [1, 0] rfl (Nat.le_of_ble_eq_true rfl) ?_
  refine q_goto X 99 dX0_init_125 (by decide) ?_
  refine q_iload_n X dX0_init_99 1 rfl rfl ?_
  refine q_bipush X dX0_init_100 (v := 16) (by decide) ?_
  refine q_icmp_ge X 128 dX0_init_102 (by decide) (fun h => absurd h (by decide)) (fun _ => ?_)
  refine q_aload_n X dX0_init_105 0 rfl rfl ?_
  refine q_get (q0 := 0) (v := .ref q7) X dX0_init_106 i_X0 v_X0 rfl 0 (Nat.le_of_ble_eq_true rfl) h_100 rfl ?_
  refine q_iload_n X dX0_init_109 1 rfl rfl ?_
  refine q_iload_n X dX0_init_110 1 rfl rfl ?_
  refine q_bipush X dX0_init_111 (v := 10) (by decide) ?_
  refine q_irem X dX0_init_113 (by decide) (v := 7) (by decide) ?_
  refine q_iast (q0 := 1) X 0 dX0_init_114 rfl rfl (by unfold vp_in; decide) (ws' := [(h0, .inr (0, [.ref q7, .ref q15, .ref q23, .ref q31, .ref q39, .ref q47, .ref q55, .ref q63, .ref q71, .int 12, .int 0, .int 0, .int 0])), (q7, .inl (cI, 16, .inl hA_15)), (q15, .inl (cI, 16, .inl hA_14)), (q23, .inl (cI, 6, .inl z0)), (q31, .inl (cI, 8, .inl z0)), (q39, .inl (cI, 8, .inl z0)), (q47, .inl (cI, 8, .inl z0)), (q55, .inl (cI, 8, .inl z0)), (q63, .inl (cI, 8, .inl z0)), (q71, .inl (cI, 8, .inl z0))]) rfl ?_
  refine q_aload_n X dX0_init_115 0 rfl rfl ?_
  refine q_get (q0 := 0) (v := .ref q15) X dX0_init_116 i_X0 v_X0 rfl 1 (Nat.le_of_ble_eq_true rfl) h_102 rfl ?_
  refine q_iload_n X dX0_init_119 1 rfl rfl ?_
  refine q_iconst X dX0_init_120 (v := 3) (by decide) ?_
  refine q_iast (q0 := 2) X 0 dX0_init_121 rfl rfl (by unfold vp_in; decide) (ws' := [(h0, .inr (0, [.ref q7, .ref q15, .ref q23, .ref q31, .ref q39, .ref q47, .ref q55, .ref q63, .ref q71, .int 12, .int 0, .int 0, .int 0])), (q7, .inl (cI, 16, .inl hA_15)), (q15, .inl (cI, 16, .inl hA_16)), (q23, .inl (cI, 6, .inl z0)), (q31, .inl (cI, 8, .inl z0)), (q39, .inl (cI, 8, .inl z0)), (q47, .inl (cI, 8, .inl z0)), (q55, .inl (cI, 8, .inl z0)), (q63, .inl (cI, 8, .inl z0)), (q71, .inl (cI, 8, .inl z0))]) rfl ?_
  refine q_iinc (L' := [(0, .ref h0), (1, .int 8)]) (v := 8) X dX0_init_122 1 rfl (by decide) [1, 0] rfl (Nat.le_of_ble_eq_true rfl) ?_
  refine q_goto X 99 dX0_init_125 (by decide) ?_
  refine q_iload_n X dX0_init_99 1 rfl rfl ?_
  refine q_bipush X dX0_init_100 (v := 16) (by decide) ?_
  refine q_icmp_ge X 128 dX0_init_102 (by decide) (fun h => absurd h (by decide)) (fun _ => ?_)
  refine q_aload_n X dX0_init_105 0 rfl rfl ?_
  refine q_get (q0 := 0) (v := .ref q7) X dX0_init_106 i_X0 v_X0 rfl 0 (Nat.le_of_ble_eq_true rfl) h_100 rfl ?_
  refine q_iload_n X dX0_init_109 1 rfl rfl ?_
  refine q_iload_n X dX0_init_110 1 rfl rfl ?_
  refine q_bipush X dX0_init_111 (v := 10) (by decide) ?_
  refine q_irem X dX0_init_113 (by decide) (v := 8) (by decide) ?_
  refine q_iast (q0 := 1) X 0 dX0_init_114 rfl rfl (by unfold vp_in; decide) (ws' := [(h0, .inr (0, [.ref q7, .ref q15, .ref q23, .ref q31, .ref q39, .ref q47, .ref q55, .ref q63, .ref q71, .int 12, .int 0, .int 0, .int 0])), (q7, .inl (cI, 16, .inl hA_17)), (q15, .inl (cI, 16, .inl hA_16)), (q23, .inl (cI, 6, .inl z0)), (q31, .inl (cI, 8, .inl z0)), (q39, .inl (cI, 8, .inl z0)), (q47, .inl (cI, 8, .inl z0)), (q55, .inl (cI, 8, .inl z0)), (q63, .inl (cI, 8, .inl z0)), (q71, .inl (cI, 8, .inl z0))]) rfl ?_
  refine q_aload_n X dX0_init_115 0 rfl rfl ?_
  refine q_get (q0 := 0) (v := .ref q15) X dX0_init_116 i_X0 v_X0 rfl 1 (Nat.le_of_ble_eq_true rfl) h_102 rfl ?_
  refine q_iload_n X dX0_init_119 1 rfl rfl ?_
  refine q_iconst X dX0_init_120 (v := 3) (by decide) ?_
  refine q_iast (q0 := 2) X 0 dX0_init_121 rfl rfl (by unfold vp_in; decide) (ws' := [(h0, .inr (0, [.ref q7, .ref q15, .ref q23, .ref q31, .ref q39, .ref q47, .ref q55, .ref q63, .ref q71, .int 12, .int 0, .int 0, .int 0])), (q7, .inl (cI, 16, .inl hA_17)), (q15, .inl (cI, 16, .inl hA_18)), (q23, .inl (cI, 6, .inl z0)), (q31, .inl (cI, 8, .inl z0)), (q39, .inl (cI, 8, .inl z0)), (q47, .inl (cI, 8, .inl z0)), (q55, .inl (cI, 8, .inl z0)), (q63, .inl (cI, 8, .inl z0)), (q71, .inl (cI, 8, .inl z0))]) rfl ?_
  refine q_iinc (L' := [(0, .ref h0), (1, .int 9)]) (v := 9) X dX0_init_122 1 rfl (by decide) [1, 0] rfl (Nat.le_of_ble_eq_true rfl) ?_
  refine q_goto X 99 dX0_init_125 (by decide) ?_
  refine q_iload_n X dX0_init_99 1 rfl rfl ?_
  refine q_bipush X dX0_init_100 (v := 16) (by decide) ?_
  refine q_icmp_ge X 128 dX0_init_102 (by decide) (fun h => absurd h (by decide)) (fun _ => ?_)
  refine q_aload_n X dX0_init_105 0 rfl rfl ?_
  refine q_get (q0 := 0) (v := .ref q7) X dX0_init_106 i_X0 v_X0 rfl 0 (Nat.le_of_ble_eq_true rfl) h_100 rfl ?_
  refine q_iload_n X dX0_init_109 1 rfl rfl ?_
  refine q_iload_n X dX0_init_110 1 rfl rfl ?_
  refine q_bipush X dX0_init_111 (v := 10) (by decide) ?_
  refine q_irem X dX0_init_113 (by decide) (v := 9) (by decide) ?_
  refine q_iast (q0 := 1) X 0 dX0_init_114 rfl rfl (by unfold vp_in; decide) (ws' := [(h0, .inr (0, [.ref q7, .ref q15, .ref q23, .ref q31, .ref q39, .ref q47, .ref q55, .ref q63, .ref q71, .int 12, .int 0, .int 0, .int 0])), (q7, .inl (cI, 16, .inl hA_19)), (q15, .inl (cI, 16, .inl hA_18)), (q23, .inl (cI, 6, .inl z0)), (q31, .inl (cI, 8, .inl z0)), (q39, .inl (cI, 8, .inl z0)), (q47, .inl (cI, 8, .inl z0)), (q55, .inl (cI, 8, .inl z0)), (q63, .inl (cI, 8, .inl z0)), (q71, .inl (cI, 8, .inl z0))]) rfl ?_
  refine q_aload_n X dX0_init_115 0 rfl rfl ?_
  refine q_get (q0 := 0) (v := .ref q15) X dX0_init_116 i_X0 v_X0 rfl 1 (Nat.le_of_ble_eq_true rfl) h_102 rfl ?_
  refine q_iload_n X dX0_init_119 1 rfl rfl ?_
  refine q_iconst X dX0_init_120 (v := 3) (by decide) ?_
  refine q_iast (q0 := 2) X 0 dX0_init_121 rfl rfl (by unfold vp_in; decide) (ws' := [(h0, .inr (0, [.ref q7, .ref q15, .ref q23, .ref q31, .ref q39, .ref q47, .ref q55, .ref q63, .ref q71, .int 12, .int 0, .int 0, .int 0])), (q7, .inl (cI, 16, .inl hA_19)), (q15, .inl (cI, 16, .inl hA_20)), (q23, .inl (cI, 6, .inl z0)), (q31, .inl (cI, 8, .inl z0)), (q39, .inl (cI, 8, .inl z0)), (q47, .inl (cI, 8, .inl z0)), (q55, .inl (cI, 8, .inl z0)), (q63, .inl (cI, 8, .inl z0)), (q71, .inl (cI, 8, .inl z0))]) rfl ?_
  refine q_iinc (L' := [(0, .ref h0), (1, .int 10)]) (v := 10) X dX0_init_122 1 rfl (by decide) [1, 0] rfl (Nat.le_of_ble_eq_true rfl) ?_
  refine q_goto X 99 dX0_init_125 (by decide) ?_
  refine q_iload_n X dX0_init_99 1 rfl rfl ?_
  refine q_bipush X dX0_init_100 (v := 16) (by decide) ?_
  refine q_icmp_ge X 128 dX0_init_102 (by decide) (fun h => absurd h (by decide)) (fun _ => ?_)
  refine q_aload_n X dX0_init_105 0 rfl rfl ?_
  refine q_get (q0 := 0) (v := .ref q7) X dX0_init_106 i_X0 v_X0 rfl 0 (Nat.le_of_ble_eq_true rfl) h_100 rfl ?_
  refine q_iload_n X dX0_init_109 1 rfl rfl ?_
  refine q_iload_n X dX0_init_110 1 rfl rfl ?_
  refine q_bipush X dX0_init_111 (v := 10) (by decide) ?_
  refine q_irem X dX0_init_113 (by decide) (v := 0) (by decide) ?_
  refine q_iast (q0 := 1) X 0 dX0_init_114 rfl rfl (by unfold vp_in; decide) (ws' := [(h0, .inr (0, [.ref q7, .ref q15, .ref q23, .ref q31, .ref q39, .ref q47, .ref q55, .ref q63, .ref q71, .int 12, .int 0, .int 0, .int 0])), (q7, .inl (cI, 16, .inl hA_21)), (q15, .inl (cI, 16, .inl hA_20)), (q23, .inl (cI, 6, .inl z0)), (q31, .inl (cI, 8, .inl z0)), (q39, .inl (cI, 8, .inl z0)), (q47, .inl (cI, 8, .inl z0)), (q55, .inl (cI, 8, .inl z0)), (q63, .inl (cI, 8, .inl z0)), (q71, .inl (cI, 8, .inl z0))]) rfl ?_
  refine q_aload_n X dX0_init_115 0 rfl rfl ?_
  refine q_get (q0 := 0) (v := .ref q15) X dX0_init_116 i_X0 v_X0 rfl 1 (Nat.le_of_ble_eq_true rfl) h_102 rfl ?_
  refine q_iload_n X dX0_init_119 1 rfl rfl ?_
  refine q_iconst X dX0_init_120 (v := 3) (by decide) ?_
  refine q_iast (q0 := 2) X 0 dX0_init_121 rfl rfl (by unfold vp_in; decide) (ws' := [(h0, .inr (0, [.ref q7, .ref q15, .ref q23, .ref q31, .ref q39, .ref q47, .ref q55, .ref q63, .ref q71, .int 12, .int 0, .int 0, .int 0])), (q7, .inl (cI, 16, .inl hA_21)), (q15, .inl (cI, 16, .inl hA_22)), (q23, .inl (cI, 6, .inl z0)), (q31, .inl (cI, 8, .inl z0)), (q39, .inl (cI, 8, .inl z0)), (q47, .inl (cI, 8, .inl z0)), (q55, .inl (cI, 8, .inl z0)), (q63, .inl (cI, 8, .inl z0)), (q71, .inl (cI, 8, .inl z0))]) rfl ?_
  refine q_iinc (L' := [(0, .ref h0), (1, .int 11)]) (v := 11) X dX0_init_122 1 rfl (by decide) [1, 0] rfl (Nat.le_of_ble_eq_true rfl) ?_
  refine q_goto X 99 dX0_init_125 (by decide) ?_
  refine q_iload_n X dX0_init_99 1 rfl rfl ?_
  refine q_bipush X dX0_init_100 (v := 16) (by decide) ?_
  refine q_icmp_ge X 128 dX0_init_102 (by decide) (fun h => absurd h (by decide)) (fun _ => ?_)
  refine q_aload_n X dX0_init_105 0 rfl rfl ?_
  refine q_get (q0 := 0) (v := .ref q7) X dX0_init_106 i_X0 v_X0 rfl 0 (Nat.le_of_ble_eq_true rfl) h_100 rfl ?_
  refine q_iload_n X dX0_init_109 1 rfl rfl ?_
  refine q_iload_n X dX0_init_110 1 rfl rfl ?_
  refine q_bipush X dX0_init_111 (v := 10) (by decide) ?_
  refine q_irem X dX0_init_113 (by decide) (v := 1) (by decide) ?_
  refine q_iast (q0 := 1) X 0 dX0_init_114 rfl rfl (by unfold vp_in; decide) (ws' := [(h0, .inr (0, [.ref q7, .ref q15, .ref q23, .ref q31, .ref q39, .ref q47, .ref q55, .ref q63, .ref q71, .int 12, .int 0, .int 0, .int 0])), (q7, .inl (cI, 16, .inl hA_23)), (q15, .inl (cI, 16, .inl hA_22)), (q23, .inl (cI, 6, .inl z0)), (q31, .inl (cI, 8, .inl z0)), (q39, .inl (cI, 8, .inl z0)), (q47, .inl (cI, 8, .inl z0)), (q55, .inl (cI, 8, .inl z0)), (q63, .inl (cI, 8, .inl z0)), (q71, .inl (cI, 8, .inl z0))]) rfl ?_
  refine q_aload_n X dX0_init_115 0 rfl rfl ?_
  refine q_get (q0 := 0) (v := .ref q15) X dX0_init_116 i_X0 v_X0 rfl 1 (Nat.le_of_ble_eq_true rfl) h_102 rfl ?_
  refine q_iload_n X dX0_init_119 1 rfl rfl ?_
  refine q_iconst X dX0_init_120 (v := 3) (by decide) ?_
  refine q_iast (q0 := 2) X 0 dX0_init_121 rfl rfl (by unfold vp_in; decide) (ws' := [(h0, .inr (0, [.ref q7, .ref q15, .ref q23, .ref q31, .ref q39, .ref q47, .ref q55, .ref q63, .ref q71, .int 12, .int 0, .int 0, .int 0])), (q7, .inl (cI, 16, .inl hA_23)), (q15, .inl (cI, 16, .inl hA_24)), (q23, .inl (cI, 6, .inl z0)), (q31, .inl (cI, 8, .inl z0)), (q39, .inl (cI, 8, .inl z0)), (q47, .inl (cI, 8, .inl z0)), (q55, .inl (cI, 8, .inl z0)), (q63, .inl (cI, 8, .inl z0)), (q71, .inl (cI, 8, .inl z0))]) rfl ?_
  refine q_iinc (L' := [(0, .ref h0), (1, .int 12)]) (v := 12) X dX0_init_122 1 rfl (by decide) [1, 0] rfl (Nat.le_of_ble_eq_true rfl) ?_
  refine q_goto X 99 dX0_init_125 (by decide) ?_
  refine q_iload_n X dX0_init_99 1 rfl rfl ?_
  refine q_bipush X dX0_init_100 (v := 16) (by decide) ?_
  refine q_icmp_ge X 128 dX0_init_102 (by decide) (fun h => absurd h (by decide)) (fun _ => ?_)
  refine q_aload_n X dX0_init_105 0 rfl rfl ?_
  refine q_get (q0 := 0) (v := .ref q7) X dX0_init_106 i_X0 v_X0 rfl 0 (Nat.le_of_ble_eq_true rfl) h_100 rfl ?_
  refine q_iload_n X dX0_init_109 1 rfl rfl ?_
  refine q_iload_n X dX0_init_110 1 rfl rfl ?_
  refine q_bipush X dX0_init_111 (v := 10) (by decide) ?_
  refine q_irem X dX0_init_113 (by decide) (v := 2) (by decide) ?_
  refine q_iast (q0 := 1) X 0 dX0_init_114 rfl rfl (by unfold vp_in; decide) (ws' := [(h0, .inr (0, [.ref q7, .ref q15, .ref q23, .ref q31, .ref q39, .ref q47, .ref q55, .ref q63, .ref q71, .int 12, .int 0, .int 0, .int 0])), (q7, .inl (cI, 16, .inl hA_25)), (q15, .inl (cI, 16, .inl hA_24)), (q23, .inl (cI, 6, .inl z0)), (q31, .inl (cI, 8, .inl z0)), (q39, .inl (cI, 8, .inl z0)), (q47, .inl (cI, 8, .inl z0)), (q55, .inl (cI, 8, .inl z0)), (q63, .inl (cI, 8, .inl z0)), (q71, .inl (cI, 8, .inl z0))]) rfl ?_
  refine q_aload_n X dX0_init_115 0 rfl rfl ?_
  refine q_get (q0 := 0) (v := .ref q15) X dX0_init_116 i_X0 v_X0 rfl 1 (Nat.le_of_ble_eq_true rfl) h_102 rfl ?_
  refine q_iload_n X dX0_init_119 1 rfl rfl ?_
  refine q_iconst X dX0_init_120 (v := 3) (by decide) ?_
  refine q_iast (q0 := 2) X 0 dX0_init_121 rfl rfl (by unfold vp_in; decide) (ws' := [(h0, .inr (0, [.ref q7, .ref q15, .ref q23, .ref q31, .ref q39, .ref q47, .ref q55, .ref q63, .ref q71, .int 12, .int 0, .int 0, .int 0])), (q7, .inl (cI, 16, .inl hA_25)), (q15, .inl (cI, 16, .inl hA_26)), (q23, .inl (cI, 6, .inl z0)), (q31, .inl (cI, 8, .inl z0)), (q39, .inl (cI, 8, .inl z0)), (q47, .inl (cI, 8, .inl z0)), (q55, .inl (cI, 8, .inl z0)), (q63, .inl (cI, 8, .inl z0)), (q71, .inl (cI, 8, .inl z0))]) rfl ?_
  refine q_iinc (L' := [(0, .ref h0), (1, .int 13)]) (v := 13) X dX0_init_122 1 rfl (by decide) [1, 0] rfl (Nat.le_of_ble_eq_true rfl) ?_
  refine q_goto X 99 dX0_init_125 (by decide) ?_
  refine q_iload_n X dX0_init_99 1 rfl rfl ?_
  refine q_bipush X dX0_init_100 (v := 16) (by decide) ?_
  refine q_icmp_ge X 128 dX0_init_102 (by decide) (fun h => absurd h (by decide)) (fun _ => ?_)
  refine q_aload_n X dX0_init_105 0 rfl rfl ?_
  refine q_get (q0 := 0) (v := .ref q7) X dX0_init_106 i_X0 v_X0 rfl 0 (Nat.le_of_ble_eq_true rfl) h_100 rfl ?_
  refine q_iload_n X dX0_init_109 1 rfl rfl ?_
  refine q_iload_n X dX0_init_110 1 rfl rfl ?_
  refine q_bipush X dX0_init_111 (v := 10) (by decide) ?_
  refine q_irem X dX0_init_113 (by decide) (v := 3) (by decide) ?_
  refine q_iast (q0 := 1) X 0 dX0_init_114 rfl rfl (by unfold vp_in; decide) (ws' := [(h0, .inr (0, [.ref q7, .ref q15, .ref q23, .ref q31, .ref q39, .ref q47, .ref q55, .ref q63, .ref q71, .int 12, .int 0, .int 0, .int 0])), (q7, .inl (cI, 16, .inl hA_27)), (q15, .inl (cI, 16, .inl hA_26)), (q23, .inl (cI, 6, .inl z0)), (q31, .inl (cI, 8, .inl z0)), (q39, .inl (cI, 8, .inl z0)), (q47, .inl (cI, 8, .inl z0)), (q55, .inl (cI, 8, .inl z0)), (q63, .inl (cI, 8, .inl z0)), (q71, .inl (cI, 8, .inl z0))]) rfl ?_
  refine q_aload_n X dX0_init_115 0 rfl rfl ?_
  refine q_get (q0 := 0) (v := .ref q15) X dX0_init_116 i_X0 v_X0 rfl 1 (Nat.le_of_ble_eq_true rfl) h_102 rfl ?_
  refine q_iload_n X dX0_init_119 1 rfl rfl ?_
  refine q_iconst X dX0_init_120 (v := 3) (by decide) ?_
  refine q_iast (q0 := 2) X 0 dX0_init_121 rfl rfl (by unfold vp_in; decide) (ws' := [(h0, .inr (0, [.ref q7, .ref q15, .ref q23, .ref q31, .ref q39, .ref q47, .ref q55, .ref q63, .ref q71, .int 12, .int 0, .int 0, .int 0])), (q7, .inl (cI, 16, .inl hA_27)), (q15, .inl (cI, 16, .inl hA_28)), (q23, .inl (cI, 6, .inl z0)), (q31, .inl (cI, 8, .inl z0)), (q39, .inl (cI, 8, .inl z0)), (q47, .inl (cI, 8, .inl z0)), (q55, .inl (cI, 8, .inl z0)), (q63, .inl (cI, 8, .inl z0)), (q71, .inl (cI, 8, .inl z0))]) rfl ?_
  refine q_iinc (L' := [(0, .ref h0), (1, .int 14)]) (v := 14) X dX0_init_122 1 rfl (by decide) [1, 0] rfl (Nat.le_of_ble_eq_true rfl) ?_
  refine q_goto X 99 dX0_init_125 (by decide) ?_
  refine q_iload_n X dX0_init_99 1 rfl rfl ?_
  refine q_bipush X dX0_init_100 (v := 16) (by decide) ?_
  refine q_icmp_ge X 128 dX0_init_102 (by decide) (fun h => absurd h (by decide)) (fun _ => ?_)
  refine q_aload_n X dX0_init_105 0 rfl rfl ?_
  refine q_get (q0 := 0) (v := .ref q7) X dX0_init_106 i_X0 v_X0 rfl 0 (Nat.le_of_ble_eq_true rfl) h_100 rfl ?_
  refine q_iload_n X dX0_init_109 1 rfl rfl ?_
  refine q_iload_n X dX0_init_110 1 rfl rfl ?_
  refine q_bipush X dX0_init_111 (v := 10) (by decide) ?_
  refine q_irem X dX0_init_113 (by decide) (v := 4) (by decide) ?_
  refine q_iast (q0 := 1) X 0 dX0_init_114 rfl rfl (by unfold vp_in; decide) (ws' := [(h0, .inr (0, [.ref q7, .ref q15, .ref q23, .ref q31, .ref q39, .ref q47, .ref q55, .ref q63, .ref q71, .int 12, .int 0, .int 0, .int 0])), (q7, .inl (cI, 16, .inl hA_29)), (q15, .inl (cI, 16, .inl hA_28)), (q23, .inl (cI, 6, .inl z0)), (q31, .inl (cI, 8, .inl z0)), (q39, .inl (cI, 8, .inl z0)), (q47, .inl (cI, 8, .inl z0)), (q55, .inl (cI, 8, .inl z0)), (q63, .inl (cI, 8, .inl z0)), (q71, .inl (cI, 8, .inl z0))]) rfl ?_
  refine q_aload_n X dX0_init_115 0 rfl rfl ?_
  refine q_get (q0 := 0) (v := .ref q15) X dX0_init_116 i_X0 v_X0 rfl 1 (Nat.le_of_ble_eq_true rfl) h_102 rfl ?_
  refine q_iload_n X dX0_init_119 1 rfl rfl ?_
  refine q_iconst X dX0_init_120 (v := 3) (by decide) ?_
  refine q_iast (q0 := 2) X 0 dX0_init_121 rfl rfl (by unfold vp_in; decide) (ws' := [(h0, .inr (0, [.ref q7, .ref q15, .ref q23, .ref q31, .ref q39, .ref q47, .ref q55, .ref q63, .ref q71, .int 12, .int 0, .int 0, .int 0])), (q7, .inl (cI, 16, .inl hA_29)), (q15, .inl (cI, 16, .inl hA_30)), (q23, .inl (cI, 6, .inl z0)), (q31, .inl (cI, 8, .inl z0)), (q39, .inl (cI, 8, .inl z0)), (q47, .inl (cI, 8, .inl z0)), (q55, .inl (cI, 8, .inl z0)), (q63, .inl (cI, 8, .inl z0)), (q71, .inl (cI, 8, .inl z0))]) rfl ?_
  refine q_iinc (L' := [(0, .ref h0), (1, .int 15)]) (v := 15) X dX0_init_122 1 rfl (by decide) [1, 0] rfl (Nat.le_of_ble_eq_true rfl) ?_
  refine q_goto X 99 dX0_init_125 (by decide) ?_
  refine q_iload_n X dX0_init_99 1 rfl rfl ?_
  refine q_bipush X dX0_init_100 (v := 16) (by decide) ?_
  refine q_icmp_ge X 128 dX0_init_102 (by decide) (fun h => absurd h (by decide)) (fun _ => ?_)
  refine q_aload_n X dX0_init_105 0 rfl rfl ?_
  refine q_get (q0 := 0) (v := .ref q7) X dX0_init_106 i_X0 v_X0 rfl 0 (Nat.le_of_ble_eq_true rfl) h_100 rfl ?_
  refine q_iload_n X dX0_init_109 1 rfl rfl ?_
  refine q_iload_n X dX0_init_110 1 rfl rfl ?_
  refine q_bipush X dX0_init_111 (v := 10) (by decide) ?_
  refine q_irem X dX0_init_113 (by decide) (v := 5) (by decide) ?_
  refine q_iast (q0 := 1) X 0 dX0_init_114 rfl rfl (by unfold vp_in; decide) (ws' := [(h0, .inr (0, [.ref q7, .ref q15, .ref q23, .ref q31, .ref q39, .ref q47, .ref q55, .ref q63, .ref q71, .int 12, .int 0, .int 0, .int 0])), (q7, .inl (cI, 16, .inl hA_31)), (q15, .inl (cI, 16, .inl hA_30)), (q23, .inl (cI, 6, .inl z0)), (q31, .inl (cI, 8, .inl z0)), (q39, .inl (cI, 8, .inl z0)), (q47, .inl (cI, 8, .inl z0)), (q55, .inl (cI, 8, .inl z0)), (q63, .inl (cI, 8, .inl z0)), (q71, .inl (cI, 8, .inl z0))]) rfl ?_
  refine q_aload_n X dX0_init_115 0 rfl rfl ?_
  refine q_get (q0 := 0) (v := .ref q15) X dX0_init_116 i_X0 v_X0 rfl 1 (Nat.le_of_ble_eq_true rfl) h_102 rfl ?_
  refine q_iload_n X dX0_init_119 1 rfl rfl ?_
  refine q_iconst X dX0_init_120 (v := 3) (by decide) ?_
  refine q_iast (q0 := 2) X 0 dX0_init_121 rfl rfl (by unfold vp_in; decide) (ws' := [(h0, .inr (0, [.ref q7, .ref q15, .ref q23, .ref q31, .ref q39, .ref q47, .ref q55, .ref q63, .ref q71, .int 12, .int 0, .int 0, .int 0])), (q7, .inl (cI, 16, .inl hA_31)), (q15, .inl (cI, 16, .inl hA_32)), (q23, .inl (cI, 6, .inl z0)), (q31, .inl (cI, 8, .inl z0)), (q39, .inl (cI, 8, .inl z0)), (q47, .inl (cI, 8, .inl z0)), (q55, .inl (cI, 8, .inl z0)), (q63, .inl (cI, 8, .inl z0)), (q71, .inl (cI, 8, .inl z0))]) rfl ?_
  refine q_iinc (L' := [(0, .ref h0), (1, .int 16)]) (v := 16) X dX0_init_122 1 rfl (by decide) [1, 0] rfl (Nat.le_of_ble_eq_true rfl) ?_
  refine q_goto X 99 dX0_init_125 (by decide) ?_
  refine q_iload_n X dX0_init_99 1 rfl rfl ?_
  refine q_bipush X dX0_init_100 (v := 16) (by decide) ?_
  refine q_icmp_ge X 128 dX0_init_102 (by decide) (fun _ => ?_) (fun h => absurd (by decide) h)
  refine q_iconst X dX0_init_128 (v := 0) (by decide) ?_
  refine q_istore_n (L' := [(0, .ref h0), (1, .int 0)]) X dX0_init_129 [1, 0] rfl rfl (Nat.le_of_ble_eq_true rfl) ?_
  refine q_iload_n X dX0_init_130 1 rfl rfl ?_
  refine q_bipush X dX0_init_131 (v := 6) (by decide) ?_
  refine q_icmp_ge X 149 dX0_init_133 (by decide) (fun h => absurd h (by decide)) (fun _ => ?_)
  refine q_aload_n X dX0_init_136 0 rfl rfl ?_
  refine q_get (q0 := 0) (v := .ref q23) X dX0_init_137 i_X0 v_X0 rfl 2 (Nat.le_of_ble_eq_true rfl) h_104 rfl ?_
  refine q_iload_n X dX0_init_140 1 rfl rfl ?_
  refine q_iload_n X dX0_init_141 1 rfl rfl ?_
  refine q_iast (q0 := 3) X 0 dX0_init_142 rfl rfl (by unfold vp_in; decide) (ws' := [(h0, .inr (0, [.ref q7, .ref q15, .ref q23, .ref q31, .ref q39, .ref q47, .ref q55, .ref q63, .ref q71, .int 12, .int 0, .int 0, .int 0])), (q7, .inl (cI, 16, .inl hA_31)), (q15, .inl (cI, 16, .inl hA_32)), (q23, .inl (cI, 6, .inl hA_33)), (q31, .inl (cI, 8, .inl z0)), (q39, .inl (cI, 8, .inl z0)), (q47, .inl (cI, 8, .inl z0)), (q55, .inl (cI, 8, .inl z0)), (q63, .inl (cI, 8, .inl z0)), (q71, .inl (cI, 8, .inl z0))]) rfl ?_
  refine q_iinc (L' := [(0, .ref h0), (1, .int 1)]) (v := 1) X dX0_init_143 1 rfl (by decide) [1, 0] rfl (Nat.le_of_ble_eq_true rfl) ?_
  refine q_goto X 130 dX0_init_146 (by decide) ?_
  refine q_iload_n X dX0_init_130 1 rfl rfl ?_
  refine q_bipush X dX0_init_131 (v := 6) (by decide) ?_
  refine q_icmp_ge X 149 dX0_init_133 (by decide) (fun h => absurd h (by decide)) (fun _ => ?_)
  refine q_aload_n X dX0_init_136 0 rfl rfl ?_
  refine q_get (q0 := 0) (v := .ref q23) X dX0_init_137 i_X0 v_X0 rfl 2 (Nat.le_of_ble_eq_true rfl) h_104 rfl ?_
  refine q_iload_n X dX0_init_140 1 rfl rfl ?_
  refine q_iload_n X dX0_init_141 1 rfl rfl ?_
  refine q_iast (q0 := 3) X 0 dX0_init_142 rfl rfl (by unfold vp_in; decide) (ws' := [(h0, .inr (0, [.ref q7, .ref q15, .ref q23, .ref q31, .ref q39, .ref q47, .ref q55, .ref q63, .ref q71, .int 12, .int 0, .int 0, .int 0])), (q7, .inl (cI, 16, .inl hA_31)), (q15, .inl (cI, 16, .inl hA_32)), (q23, .inl (cI, 6, .inl hA_34)), (q31, .inl (cI, 8, .inl z0)), (q39, .inl (cI, 8, .inl z0)), (q47, .inl (cI, 8, .inl z0)), (q55, .inl (cI, 8, .inl z0)), (q63, .inl (cI, 8, .inl z0)), (q71, .inl (cI, 8, .inl z0))]) rfl ?_
  refine q_iinc (L' := [(0, .ref h0), (1, .int 2)]) (v := 2) X dX0_init_143 1 rfl (by decide) [1, 0] rfl (Nat.le_of_ble_eq_true rfl) ?_
  refine q_goto X 130 dX0_init_146 (by decide) ?_
  refine q_iload_n X dX0_init_130 1 rfl rfl ?_
  refine q_bipush X dX0_init_131 (v := 6) (by decide) ?_
  refine q_icmp_ge X 149 dX0_init_133 (by decide) (fun h => absurd h (by decide)) (fun _ => ?_)
  refine q_aload_n X dX0_init_136 0 rfl rfl ?_
  refine q_get (q0 := 0) (v := .ref q23) X dX0_init_137 i_X0 v_X0 rfl 2 (Nat.le_of_ble_eq_true rfl) h_104 rfl ?_
  refine q_iload_n X dX0_init_140 1 rfl rfl ?_
  refine q_iload_n X dX0_init_141 1 rfl rfl ?_
  refine q_iast (q0 := 3) X 0 dX0_init_142 rfl rfl (by unfold vp_in; decide) (ws' := [(h0, .inr (0, [.ref q7, .ref q15, .ref q23, .ref q31, .ref q39, .ref q47, .ref q55, .ref q63, .ref q71, .int 12, .int 0, .int 0, .int 0])), (q7, .inl (cI, 16, .inl hA_31)), (q15, .inl (cI, 16, .inl hA_32)), (q23, .inl (cI, 6, .inl hA_35)), (q31, .inl (cI, 8, .inl z0)), (q39, .inl (cI, 8, .inl z0)), (q47, .inl (cI, 8, .inl z0)), (q55, .inl (cI, 8, .inl z0)), (q63, .inl (cI, 8, .inl z0)), (q71, .inl (cI, 8, .inl z0))]) rfl ?_
  refine q_iinc (L' := [(0, .ref h0), (1, .int 3)]) (v := 3) X dX0_init_143 1 rfl (by decide) [1, 0] rfl (Nat.le_of_ble_eq_true rfl) ?_
  refine q_goto X 130 dX0_init_146 (by decide) ?_
  refine q_iload_n X dX0_init_130 1 rfl rfl ?_
  refine q_bipush X dX0_init_131 (v := 6) (by decide) ?_
  refine q_icmp_ge X 149 dX0_init_133 (by decide) (fun h => absurd h (by decide)) (fun _ => ?_)
  refine q_aload_n X dX0_init_136 0 rfl rfl ?_
  refine q_get (q0 := 0) (v := .ref q23) X dX0_init_137 i_X0 v_X0 rfl 2 (Nat.le_of_ble_eq_true rfl) h_104 rfl ?_
  refine q_iload_n X dX0_init_140 1 rfl rfl ?_
  refine q_iload_n X dX0_init_141 1 rfl rfl ?_
  refine q_iast (q0 := 3) X 0 dX0_init_142 rfl rfl (by unfold vp_in; decide) (ws' := [(h0, .inr (0, [.ref q7, .ref q15, .ref q23, .ref q31, .ref q39, .ref q47, .ref q55, .ref q63, .ref q71, .int 12, .int 0, .int 0, .int 0])), (q7, .inl (cI, 16, .inl hA_31)), (q15, .inl (cI, 16, .inl hA_32)), (q23, .inl (cI, 6, .inl hA_36)), (q31, .inl (cI, 8, .inl z0)), (q39, .inl (cI, 8, .inl z0)), (q47, .inl (cI, 8, .inl z0)), (q55, .inl (cI, 8, .inl z0)), (q63, .inl (cI, 8, .inl z0)), (q71, .inl (cI, 8, .inl z0))]) rfl ?_
  refine q_iinc (L' := [(0, .ref h0), (1, .int 4)]) (v := 4) X dX0_init_143 1 rfl (by decide) [1, 0] rfl (Nat.le_of_ble_eq_true rfl) ?_
  refine q_goto X 130 dX0_init_146 (by decide) ?_
  refine q_iload_n X dX0_init_130 1 rfl rfl ?_
  refine q_bipush X dX0_init_131 (v := 6) (by decide) ?_
  refine q_icmp_ge X 149 dX0_init_133 (by decide) (fun h => absurd h (by decide)) (fun _ => ?_)
  refine q_aload_n X dX0_init_136 0 rfl rfl ?_
  refine q_get (q0 := 0) (v := .ref q23) X dX0_init_137 i_X0 v_X0 rfl 2 (Nat.le_of_ble_eq_true rfl) h_104 rfl ?_
  refine q_iload_n X dX0_init_140 1 rfl rfl ?_
  refine q_iload_n X dX0_init_141 1 rfl rfl ?_
  refine q_iast (q0 := 3) X 0 dX0_init_142 rfl rfl (by unfold vp_in; decide) (ws' := [(h0, .inr (0, [.ref q7, .ref q15, .ref q23, .ref q31, .ref q39, .ref q47, .ref q55, .ref q63, .ref q71, .int 12, .int 0, .int 0, .int 0])), (q7, .inl (cI, 16, .inl hA_31)), (q15, .inl (cI, 16, .inl hA_32)), (q23, .inl (cI, 6, .inl hA_37)), (q31, .inl (cI, 8, .inl z0)), (q39, .inl (cI, 8, .inl z0)), (q47, .inl (cI, 8, .inl z0)), (q55, .inl (cI, 8, .inl z0)), (q63, .inl (cI, 8, .inl z0)), (q71, .inl (cI, 8, .inl z0))]) rfl ?_
  refine q_iinc (L' := [(0, .ref h0), (1, .int 5)]) (v := 5) X dX0_init_143 1 rfl (by decide) [1, 0] rfl (Nat.le_of_ble_eq_true rfl) ?_
  refine q_goto X 130 dX0_init_146 (by decide) ?_
  refine q_iload_n X dX0_init_130 1 rfl rfl ?_
  refine q_bipush X dX0_init_131 (v := 6) (by decide) ?_
  refine q_icmp_ge X 149 dX0_init_133 (by decide) (fun h => absurd h (by decide)) (fun _ => ?_)
  refine q_aload_n X dX0_init_136 0 rfl rfl ?_
  refine q_get (q0 := 0) (v := .ref q23) X dX0_init_137 i_X0 v_X0 rfl 2 (Nat.le_of_ble_eq_true rfl) h_104 rfl ?_
  refine q_iload_n X dX0_init_140 1 rfl rfl ?_
  refine q_iload_n X dX0_init_141 1 rfl rfl ?_
  refine q_iast (q0 := 3) X 0 dX0_init_142 rfl rfl (by unfold vp_in; decide) (ws' := [(h0, .inr (0, [.ref q7, .ref q15, .ref q23, .ref q31, .ref q39, .ref q47, .ref q55, .ref q63, .ref q71, .int 12, .int 0, .int 0, .int 0])), (q7, .inl (cI, 16, .inl hA_31)), (q15, .inl (cI, 16, .inl hA_32)), (q23, .inl (cI, 6, .inl hA_38)), (q31, .inl (cI, 8, .inl z0)), (q39, .inl (cI, 8, .inl z0)), (q47, .inl (cI, 8, .inl z0)), (q55, .inl (cI, 8, .inl z0)), (q63, .inl (cI, 8, .inl z0)), (q71, .inl (cI, 8, .inl z0))]) rfl ?_
  refine q_iinc (L' := [(0, .ref h0), (1, .int 6)]) (v := 6) X dX0_init_143 1 rfl (by decide) [1, 0] rfl (Nat.le_of_ble_eq_true rfl) ?_
  refine q_goto X 130 dX0_init_146 (by decide) ?_
  refine q_iload_n X dX0_init_130 1 rfl rfl ?_
  refine q_bipush X dX0_init_131 (v := 6) (by decide) ?_
  refine q_icmp_ge X 149 dX0_init_133 (by decide) (fun _ => ?_) (fun h => absurd (by decide) h)
  exact q_vret X hlocks hr dX0_init_149 (fun k => ([h0, q7, q15, q23, q31, q39, q47, q55, q63, q71] : List Nat).getD k 0) rfl [0, 1, 2, 3, 4, 5, 6, 7, 8, 9] (by decide) rfl ⟨Nat.le_of_ble_eq_true rfl, Nat.le_of_ble_eq_true rfl⟩
