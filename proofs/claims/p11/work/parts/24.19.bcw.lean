/-! the class's constructors (printed by wip/whole/genc.py) -/
theorem c_ob : Cond.instanceMethod objectInit ∈ gT ∧ Cond.code objectInit ⟨#[0xb1]⟩ 1 none ∈ gT := ⟨gT_c1 33 rfl rfl, gT_c1 34 rfl rfl⟩
theorem c_ac_int : Cond.arrayClass .int ∈ gT := gT_c1 100 rfl rfl
theorem c_ac_byte : Cond.arrayClass .byte ∈ gT := gT_c1 73 rfl rfl
theorem c_ac_boolean : Cond.arrayClass .boolean ∈ gT := gT_c1 101 rfl rfl
theorem c_df0 : ∀ j, j < 2 → defaultValue (tyX0 j) = vp_V [.null, .int 0] j := by
  intro j hj
  rcases (show j = 0 ∨ j = 1 by omega) with rfl | rfl <;> rfl
theorem c_oi0 : Cond.methodLink RX0 3 objectInit ∈ gT := gT_c2 12 rfl rfl
theorem c_is0 : Cond.instantiable RX0 2 ∈ gT ∧ Cond.initialized RX0 ∈ gT := ⟨gT_c2 8 rfl rfl, gT_c1 8 rfl rfl⟩
theorem c_cw0 : Cond.code yX0_init cX0_init 1 none ∈ gT ∧ Cond.instanceMethod yX0_init ∈ gT ∧ (yX0_init.cls ≠ "java/lang/invoke/MethodHandle" ∧ yX0_init.cls ≠ "java/lang/invoke/VarHandle" ∧ (parseMethodDescriptor yX0_init.desc).map (fun d => d.parameters.length) = some 0) := ⟨gT_c2 11 rfl rfl, gT_c2 10 rfl rfl, by decide +kernel, by decide +kernel, by decide +kernel⟩
theorem c_df1 : ∀ j, j < 4 → defaultValue (tyX1 j) = vp_V [.null, .null, .null, .null] j := by
  intro j hj
  rcases (show j = 0 ∨ j = 1 ∨ j = 2 ∨ j = 3 by omega) with rfl | rfl | rfl | rfl <;> rfl
theorem c_oi1 : Cond.methodLink RX1 3 objectInit ∈ gT := gT_c1 208 rfl rfl
theorem c_is1 : Cond.instantiable RX1 4 ∈ gT ∧ Cond.initialized RX1 ∈ gT := ⟨gT_c1 204 rfl rfl, gT_c1 6 rfl rfl⟩
theorem c_cl1_9 : Cond.classLink RX1 9 RX7 ∈ gT := gT_c1 209 rfl rfl
theorem c_cl1_18 : Cond.classLink RX1 18 RX0 ∈ gT := gT_c2 7 rfl rfl
theorem c_cl1_25 : Cond.classLink RX1 25 RX5 ∈ gT := gT_c2 22 rfl rfl
theorem c_cw1 : Cond.code yX1_init cX1_init 1 none ∈ gT ∧ Cond.instanceMethod yX1_init ∈ gT ∧ (yX1_init.cls ≠ "java/lang/invoke/MethodHandle" ∧ yX1_init.cls ≠ "java/lang/invoke/VarHandle" ∧ (parseMethodDescriptor yX1_init.desc).map (fun d => d.parameters.length) = some 0) := ⟨gT_c1 207 rfl rfl, gT_c1 206 rfl rfl, by decide +kernel, by decide +kernel, by decide +kernel⟩
theorem c_df2 : ∀ j, j < 6 → defaultValue (tyX2 j) = vp_V [.null, .null, .null, .int 0, .int 0, .int 0] j := by
  intro j hj
  rcases (show j = 0 ∨ j = 1 ∨ j = 2 ∨ j = 3 ∨ j = 4 ∨ j = 5 by omega) with rfl | rfl | rfl | rfl | rfl | rfl <;> rfl
theorem c_oi2 : Cond.methodLink RX2 3 objectInit ∈ gT := gT_c2 132 rfl rfl
theorem c_is2 : Cond.instantiable RX2 6 ∈ gT ∧ Cond.initialized RX2 ∈ gT := ⟨gT_c2 128 rfl rfl, gT_c1 12 rfl rfl⟩
theorem c_cw2 : Cond.code yX2_init cX2_init 1 none ∈ gT ∧ Cond.instanceMethod yX2_init ∈ gT ∧ (yX2_init.cls ≠ "java/lang/invoke/MethodHandle" ∧ yX2_init.cls ≠ "java/lang/invoke/VarHandle" ∧ (parseMethodDescriptor yX2_init.desc).map (fun d => d.parameters.length) = some 0) := ⟨gT_c2 131 rfl rfl, gT_c2 130 rfl rfl, by decide +kernel, by decide +kernel, by decide +kernel⟩
theorem c_df3 : ∀ j, j < 4 → defaultValue (tyX3 j) = vp_V [.null, .null, .int 0, .int 0] j := by
  intro j hj
  rcases (show j = 0 ∨ j = 1 ∨ j = 2 ∨ j = 3 by omega) with rfl | rfl | rfl | rfl <;> rfl
theorem c_oi3 : Cond.methodLink RX3 3 objectInit ∈ gT := gT_c1 40 rfl rfl
theorem c_is3 : Cond.instantiable RX3 4 ∈ gT ∧ Cond.initialized RX3 ∈ gT := ⟨gT_c1 36 rfl rfl, gT_c1 2 rfl rfl⟩
theorem c_cl3_9 : Cond.classLink RX3 9 RX8 ∈ gT := gT_c1 41 rfl rfl
theorem c_cl3_18 : Cond.classLink RX3 18 RX9 ∈ gT := gT_c1 74 rfl rfl
theorem c_cw3 : Cond.code yX3_init cX3_init 1 none ∈ gT ∧ Cond.instanceMethod yX3_init ∈ gT ∧ (yX3_init.cls ≠ "java/lang/invoke/MethodHandle" ∧ yX3_init.cls ≠ "java/lang/invoke/VarHandle" ∧ (parseMethodDescriptor yX3_init.desc).map (fun d => d.parameters.length) = some 0) := ⟨gT_c1 39 rfl rfl, gT_c1 38 rfl rfl, by decide +kernel, by decide +kernel, by decide +kernel⟩
theorem c_df4 : ∀ j, j < 4 → defaultValue (tyX4 j) = vp_V [.null, .null, .int 0, .int 0] j := by
  intro j hj
  rcases (show j = 0 ∨ j = 1 ∨ j = 2 ∨ j = 3 by omega) with rfl | rfl | rfl | rfl <;> rfl
theorem c_oi4 : Cond.methodLink RX4 3 objectInit ∈ gT := gT_c1 85 rfl rfl
theorem c_is4 : Cond.instantiable RX4 4 ∈ gT ∧ Cond.initialized RX4 ∈ gT := ⟨gT_c1 81 rfl rfl, gT_c1 5 rfl rfl⟩
theorem c_cw4 : Cond.code yX4_init cX4_init 2 none ∈ gT ∧ Cond.instanceMethod yX4_init ∈ gT ∧ (yX4_init.cls ≠ "java/lang/invoke/MethodHandle" ∧ yX4_init.cls ≠ "java/lang/invoke/VarHandle" ∧ (parseMethodDescriptor yX4_init.desc).map (fun d => d.parameters.length) = some 1) := ⟨gT_c1 84 rfl rfl, gT_c1 83 rfl rfl, by decide +kernel, by decide +kernel, by decide +kernel⟩
theorem c_df5 : ∀ j, j < 4 → defaultValue (tyX5 j) = vp_V [.null, .null, .null, .int 0] j := by
  intro j hj
  rcases (show j = 0 ∨ j = 1 ∨ j = 2 ∨ j = 3 by omega) with rfl | rfl | rfl | rfl <;> rfl
theorem c_oi5 : Cond.methodLink RX5 3 objectInit ∈ gT := gT_c2 27 rfl rfl
theorem c_is5 : Cond.instantiable RX5 4 ∈ gT ∧ Cond.initialized RX5 ∈ gT := ⟨gT_c2 23 rfl rfl, gT_c1 9 rfl rfl⟩
theorem c_cw5 : Cond.code yX5_init cX5_init 1 none ∈ gT ∧ Cond.instanceMethod yX5_init ∈ gT ∧ (yX5_init.cls ≠ "java/lang/invoke/MethodHandle" ∧ yX5_init.cls ≠ "java/lang/invoke/VarHandle" ∧ (parseMethodDescriptor yX5_init.desc).map (fun d => d.parameters.length) = some 0) := ⟨gT_c2 26 rfl rfl, gT_c2 25 rfl rfl, by decide +kernel, by decide +kernel, by decide +kernel⟩
theorem c_df6 : ∀ j, j < 4 → defaultValue (tyX6 j) = vp_V [.null, .null, .int 0, .int 0] j := by
  intro j hj
  rcases (show j = 0 ∨ j = 1 ∨ j = 2 ∨ j = 3 by omega) with rfl | rfl | rfl | rfl <;> rfl
theorem c_oi6 : Cond.methodLink RX6 3 objectInit ∈ gT := gT_c2 108 rfl rfl
theorem c_is6 : Cond.instantiable RX6 4 ∈ gT ∧ Cond.initialized RX6 ∈ gT := ⟨gT_c2 104 rfl rfl, gT_c1 11 rfl rfl⟩
theorem c_cw6 : Cond.code yX6_init cX6_init 1 none ∈ gT ∧ Cond.instanceMethod yX6_init ∈ gT ∧ (yX6_init.cls ≠ "java/lang/invoke/MethodHandle" ∧ yX6_init.cls ≠ "java/lang/invoke/VarHandle" ∧ (parseMethodDescriptor yX6_init.desc).map (fun d => d.parameters.length) = some 0) := ⟨gT_c2 107 rfl rfl, gT_c2 106 rfl rfl, by decide +kernel, by decide +kernel, by decide +kernel⟩
theorem c_df7 : ∀ j, j < 6 → defaultValue (tyX7 j) = vp_V [.int 0, .int 0, .null, .null, .null, .null] j := by
  intro j hj
  rcases (show j = 0 ∨ j = 1 ∨ j = 2 ∨ j = 3 ∨ j = 4 ∨ j = 5 by omega) with rfl | rfl | rfl | rfl | rfl | rfl <;> rfl
theorem c_oi7 : Cond.methodLink RX7 3 objectInit ∈ gT := gT_c1 214 rfl rfl
theorem c_is7 : Cond.instantiable RX7 6 ∈ gT ∧ Cond.initialized RX7 ∈ gT := ⟨gT_c1 210 rfl rfl, gT_c1 7 rfl rfl⟩
theorem c_cw7 : Cond.code yX7_init cX7_init 1 none ∈ gT ∧ Cond.instanceMethod yX7_init ∈ gT ∧ (yX7_init.cls ≠ "java/lang/invoke/MethodHandle" ∧ yX7_init.cls ≠ "java/lang/invoke/VarHandle" ∧ (parseMethodDescriptor yX7_init.desc).map (fun d => d.parameters.length) = some 0) := ⟨gT_c1 213 rfl rfl, gT_c1 212 rfl rfl, by decide +kernel, by decide +kernel, by decide +kernel⟩
theorem c_df8 : ∀ j, j < 7 → defaultValue (tyX8 j) = vp_V [.null, .int 0, .int 0, .int 0, .int 0, .int 0, .int 0] j := by
  intro j hj
  rcases (show j = 0 ∨ j = 1 ∨ j = 2 ∨ j = 3 ∨ j = 4 ∨ j = 5 ∨ j = 6 by omega) with rfl | rfl | rfl | rfl | rfl | rfl | rfl <;> rfl
theorem c_oi8 : Cond.methodLink RX8 3 objectInit ∈ gT := gT_c1 46 rfl rfl
theorem c_is8 : Cond.instantiable RX8 7 ∈ gT ∧ Cond.initialized RX8 ∈ gT := ⟨gT_c1 42 rfl rfl, gT_c1 3 rfl rfl⟩
theorem c_cw8 : Cond.code yX8_init cX8_init 1 none ∈ gT ∧ Cond.instanceMethod yX8_init ∈ gT ∧ (yX8_init.cls ≠ "java/lang/invoke/MethodHandle" ∧ yX8_init.cls ≠ "java/lang/invoke/VarHandle" ∧ (parseMethodDescriptor yX8_init.desc).map (fun d => d.parameters.length) = some 0) := ⟨gT_c1 45 rfl rfl, gT_c1 44 rfl rfl, by decide +kernel, by decide +kernel, by decide +kernel⟩
theorem c_df9 : ∀ j, j < 15 → defaultValue (tyX9 j) = vp_V [.int 0, .null, .null, .null, .null, .int 0, .null, .null, .null, .null, .int 0, .null, .int 0, .null, .null] j := by
  intro j hj
  rcases (show j = 0 ∨ j = 1 ∨ j = 2 ∨ j = 3 ∨ j = 4 ∨ j = 5 ∨ j = 6 ∨ j = 7 ∨ j = 8 ∨ j = 9 ∨ j = 10 ∨ j = 11 ∨ j = 12 ∨ j = 13 ∨ j = 14 by omega) with rfl | rfl | rfl | rfl | rfl | rfl | rfl | rfl | rfl | rfl | rfl | rfl | rfl | rfl | rfl <;> rfl
theorem c_oi9 : Cond.methodLink RX9 3 objectInit ∈ gT := gT_c1 79 rfl rfl
theorem c_is9 : Cond.instantiable RX9 15 ∈ gT ∧ Cond.initialized RX9 ∈ gT := ⟨gT_c1 75 rfl rfl, gT_c1 4 rfl rfl⟩
theorem c_cl9_53 : Cond.classLink RX9 53 RX4 ∈ gT := gT_c1 80 rfl rfl
theorem c_cw9 : Cond.code yX9_init cX9_init 1 none ∈ gT ∧ Cond.instanceMethod yX9_init ∈ gT ∧ (yX9_init.cls ≠ "java/lang/invoke/MethodHandle" ∧ yX9_init.cls ≠ "java/lang/invoke/VarHandle" ∧ (parseMethodDescriptor yX9_init.desc).map (fun d => d.parameters.length) = some 0) := ⟨gT_c1 78 rfl rfl, gT_c1 77 rfl rfl, by decide +kernel, by decide +kernel, by decide +kernel⟩
theorem c_df10 : ∀ j, j < 8 → defaultValue (tyX10 j) = vp_V [.int 0, .int 0, .int 0, .int 0, .int 0, .int 0, .int 0, .int 0] j := by
  intro j hj
  rcases (show j = 0 ∨ j = 1 ∨ j = 2 ∨ j = 3 ∨ j = 4 ∨ j = 5 ∨ j = 6 ∨ j = 7 by omega) with rfl | rfl | rfl | rfl | rfl | rfl | rfl | rfl <;> rfl
theorem c_oi10 : Cond.methodLink RX10 3 objectInit ∈ gT := gT_c2 69 rfl rfl
theorem c_is10 : Cond.instantiable RX10 8 ∈ gT ∧ Cond.initialized RX10 ∈ gT := ⟨gT_c2 65 rfl rfl, gT_c1 10 rfl rfl⟩
theorem c_cw10 : Cond.code yX10_init cX10_init 1 none ∈ gT ∧ Cond.instanceMethod yX10_init ∈ gT ∧ (yX10_init.cls ≠ "java/lang/invoke/MethodHandle" ∧ yX10_init.cls ≠ "java/lang/invoke/VarHandle" ∧ (parseMethodDescriptor yX10_init.desc).map (fun d => d.parameters.length) = some 0) := ⟨gT_c2 68 rfl rfl, gT_c2 67 rfl rfl, by decide +kernel, by decide +kernel, by decide +kernel⟩
theorem c_df11 : ∀ j, j < 10 → defaultValue (tyX11 j) = vp_V [.null, .null, .null, .null, .null, .null, .null, .null, .int 0, .int 0] j := by
  intro j hj
  rcases (show j = 0 ∨ j = 1 ∨ j = 2 ∨ j = 3 ∨ j = 4 ∨ j = 5 ∨ j = 6 ∨ j = 7 ∨ j = 8 ∨ j = 9 by omega) with rfl | rfl | rfl | rfl | rfl | rfl | rfl | rfl | rfl | rfl <;> rfl
theorem c_oi11 : Cond.methodLink RX11 3 objectInit ∈ gT := gT_c1 32 rfl rfl
theorem c_is11 : Cond.instantiable RX11 10 ∈ gT ∧ Cond.initialized RX11 ∈ gT := ⟨gT_c1 28 rfl rfl, gT_c1 1 rfl rfl⟩
theorem c_cl11_9 : Cond.classLink RX11 9 RX3 ∈ gT := gT_c1 35 rfl rfl
theorem c_cl11_16 : Cond.classLink RX11 16 RX1 ∈ gT := gT_c1 203 rfl rfl
theorem c_cl11_26 : Cond.classLink RX11 26 RX7 ∈ gT := gT_c2 62 rfl rfl
theorem c_cl11_33 : Cond.classLink RX11 33 RX10 ∈ gT := gT_c2 64 rfl rfl
theorem c_cl11_40 : Cond.classLink RX11 40 RX6 ∈ gT := gT_c2 103 rfl rfl
theorem c_cl11_47 : Cond.classLink RX11 47 RX2 ∈ gT := gT_c2 127 rfl rfl
theorem c_cl11_54 : Cond.classLink RX11 54 RX9 ∈ gT := gT_c2 156 rfl rfl
theorem c_cw11 : Cond.code yX11_init cX11_init 1 none ∈ gT ∧ Cond.instanceMethod yX11_init ∈ gT ∧ (yX11_init.cls ≠ "java/lang/invoke/MethodHandle" ∧ yX11_init.cls ≠ "java/lang/invoke/VarHandle" ∧ (parseMethodDescriptor yX11_init.desc).map (fun d => d.parameters.length) = some 0) := ⟨gT_c1 31 rfl rfl, gT_c1 30 rfl rfl, by decide +kernel, by decide +kernel, by decide +kernel⟩
theorem c_qq2 : Cond.classLink RX2 9 "[[I" ∈ gT := gT_c2 133 rfl rfl
theorem c_qq6 : Cond.classLink RX6 11 "[[I" ∈ gT := gT_c2 109 rfl rfl
theorem c_lk9_55 : Cond.methodLink RX9 55 yX4_init ∈ gT := gT_c1 82 rfl rfl
