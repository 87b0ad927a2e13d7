/-! the class's constructors (printed by wip/whole/genc.py) -/
theorem c_ob : Cond.instanceMethod objectInit ∈ gT ∧ Cond.code objectInit ⟨#[0xb1]⟩ 1 none ∈ gT := ⟨gT_of 139 (by decide +kernel) rfl, gT_of 140 (by decide +kernel) rfl⟩
theorem c_ac_int : Cond.arrayClass .int ∈ gT := gT_of 206 (by decide +kernel) rfl
theorem c_ac_byte : Cond.arrayClass .byte ∈ gT := gT_of 179 (by decide +kernel) rfl
theorem c_ac_boolean : Cond.arrayClass .boolean ∈ gT := gT_of 207 (by decide +kernel) rfl
theorem c_df0 : ∀ j, j < 2 → defaultValue (tyX0 j) = vp_V [.null, .int 0] j := by
  intro j hj
  rcases (show j = 0 ∨ j = 1 by omega) with rfl | rfl <;> rfl
theorem c_oi0 : Cond.methodLink RX0 3 objectInit ∈ gT := gT_of 358 (by decide +kernel) rfl
theorem c_is0 : Cond.instantiable RX0 2 ∈ gT ∧ Cond.initialized RX0 ∈ gT := ⟨gT_of 354 (by decide +kernel) rfl, gT_of 114 (by decide +kernel) rfl⟩
theorem c_cw0 : Cond.code yX0_init cX0_init 1 none ∈ gT ∧ Cond.instanceMethod yX0_init ∈ gT ∧ (yX0_init.cls ≠ "java/lang/invoke/MethodHandle" ∧ yX0_init.cls ≠ "java/lang/invoke/VarHandle" ∧ (parseMethodDescriptor yX0_init.desc).map (fun d => d.parameters.length) = some 0) := ⟨gT_of 357 (by decide +kernel) rfl, gT_of 356 (by decide +kernel) rfl, by decide +kernel, by decide +kernel, by decide +kernel⟩
theorem c_df1 : ∀ j, j < 4 → defaultValue (tyX1 j) = vp_V [.null, .null, .null, .null] j := by
  intro j hj
  rcases (show j = 0 ∨ j = 1 ∨ j = 2 ∨ j = 3 by omega) with rfl | rfl | rfl | rfl <;> rfl
theorem c_oi1 : Cond.methodLink RX1 3 objectInit ∈ gT := gT_of 314 (by decide +kernel) rfl
theorem c_is1 : Cond.instantiable RX1 4 ∈ gT ∧ Cond.initialized RX1 ∈ gT := ⟨gT_of 310 (by decide +kernel) rfl, gT_of 112 (by decide +kernel) rfl⟩
theorem c_cl1_9 : Cond.classLink RX1 9 RX7 ∈ gT := gT_of 315 (by decide +kernel) rfl
theorem c_cl1_18 : Cond.classLink RX1 18 RX0 ∈ gT := gT_of 353 (by decide +kernel) rfl
theorem c_cl1_25 : Cond.classLink RX1 25 RX5 ∈ gT := gT_of 368 (by decide +kernel) rfl
theorem c_cw1 : Cond.code yX1_init cX1_init 1 none ∈ gT ∧ Cond.instanceMethod yX1_init ∈ gT ∧ (yX1_init.cls ≠ "java/lang/invoke/MethodHandle" ∧ yX1_init.cls ≠ "java/lang/invoke/VarHandle" ∧ (parseMethodDescriptor yX1_init.desc).map (fun d => d.parameters.length) = some 0) := ⟨gT_of 313 (by decide +kernel) rfl, gT_of 312 (by decide +kernel) rfl, by decide +kernel, by decide +kernel, by decide +kernel⟩
theorem c_df2 : ∀ j, j < 6 → defaultValue (tyX2 j) = vp_V [.null, .null, .null, .int 0, .int 0, .int 0] j := by
  intro j hj
  rcases (show j = 0 ∨ j = 1 ∨ j = 2 ∨ j = 3 ∨ j = 4 ∨ j = 5 by omega) with rfl | rfl | rfl | rfl | rfl | rfl <;> rfl
theorem c_oi2 : Cond.methodLink RX2 3 objectInit ∈ gT := gT_of 478 (by decide +kernel) rfl
theorem c_is2 : Cond.instantiable RX2 6 ∈ gT ∧ Cond.initialized RX2 ∈ gT := ⟨gT_of 474 (by decide +kernel) rfl, gT_of 118 (by decide +kernel) rfl⟩
theorem c_cw2 : Cond.code yX2_init cX2_init 1 none ∈ gT ∧ Cond.instanceMethod yX2_init ∈ gT ∧ (yX2_init.cls ≠ "java/lang/invoke/MethodHandle" ∧ yX2_init.cls ≠ "java/lang/invoke/VarHandle" ∧ (parseMethodDescriptor yX2_init.desc).map (fun d => d.parameters.length) = some 0) := ⟨gT_of 477 (by decide +kernel) rfl, gT_of 476 (by decide +kernel) rfl, by decide +kernel, by decide +kernel, by decide +kernel⟩
theorem c_df3 : ∀ j, j < 4 → defaultValue (tyX3 j) = vp_V [.null, .null, .int 0, .int 0] j := by
  intro j hj
  rcases (show j = 0 ∨ j = 1 ∨ j = 2 ∨ j = 3 by omega) with rfl | rfl | rfl | rfl <;> rfl
theorem c_oi3 : Cond.methodLink RX3 3 objectInit ∈ gT := gT_of 146 (by decide +kernel) rfl
theorem c_is3 : Cond.instantiable RX3 4 ∈ gT ∧ Cond.initialized RX3 ∈ gT := ⟨gT_of 142 (by decide +kernel) rfl, gT_of 108 (by decide +kernel) rfl⟩
theorem c_cl3_9 : Cond.classLink RX3 9 RX8 ∈ gT := gT_of 147 (by decide +kernel) rfl
theorem c_cl3_18 : Cond.classLink RX3 18 RX9 ∈ gT := gT_of 180 (by decide +kernel) rfl
theorem c_cw3 : Cond.code yX3_init cX3_init 1 none ∈ gT ∧ Cond.instanceMethod yX3_init ∈ gT ∧ (yX3_init.cls ≠ "java/lang/invoke/MethodHandle" ∧ yX3_init.cls ≠ "java/lang/invoke/VarHandle" ∧ (parseMethodDescriptor yX3_init.desc).map (fun d => d.parameters.length) = some 0) := ⟨gT_of 145 (by decide +kernel) rfl, gT_of 144 (by decide +kernel) rfl, by decide +kernel, by decide +kernel, by decide +kernel⟩
theorem c_df4 : ∀ j, j < 4 → defaultValue (tyX4 j) = vp_V [.null, .null, .int 0, .int 0] j := by
  intro j hj
  rcases (show j = 0 ∨ j = 1 ∨ j = 2 ∨ j = 3 by omega) with rfl | rfl | rfl | rfl <;> rfl
theorem c_oi4 : Cond.methodLink RX4 3 objectInit ∈ gT := gT_of 191 (by decide +kernel) rfl
theorem c_is4 : Cond.instantiable RX4 4 ∈ gT ∧ Cond.initialized RX4 ∈ gT := ⟨gT_of 187 (by decide +kernel) rfl, gT_of 111 (by decide +kernel) rfl⟩
theorem c_cw4 : Cond.code yX4_init cX4_init 2 none ∈ gT ∧ Cond.instanceMethod yX4_init ∈ gT ∧ (yX4_init.cls ≠ "java/lang/invoke/MethodHandle" ∧ yX4_init.cls ≠ "java/lang/invoke/VarHandle" ∧ (parseMethodDescriptor yX4_init.desc).map (fun d => d.parameters.length) = some 1) := ⟨gT_of 190 (by decide +kernel) rfl, gT_of 189 (by decide +kernel) rfl, by decide +kernel, by decide +kernel, by decide +kernel⟩
theorem c_df5 : ∀ j, j < 4 → defaultValue (tyX5 j) = vp_V [.null, .null, .null, .int 0] j := by
  intro j hj
  rcases (show j = 0 ∨ j = 1 ∨ j = 2 ∨ j = 3 by omega) with rfl | rfl | rfl | rfl <;> rfl
theorem c_oi5 : Cond.methodLink RX5 3 objectInit ∈ gT := gT_of 373 (by decide +kernel) rfl
theorem c_is5 : Cond.instantiable RX5 4 ∈ gT ∧ Cond.initialized RX5 ∈ gT := ⟨gT_of 369 (by decide +kernel) rfl, gT_of 115 (by decide +kernel) rfl⟩
theorem c_cw5 : Cond.code yX5_init cX5_init 1 none ∈ gT ∧ Cond.instanceMethod yX5_init ∈ gT ∧ (yX5_init.cls ≠ "java/lang/invoke/MethodHandle" ∧ yX5_init.cls ≠ "java/lang/invoke/VarHandle" ∧ (parseMethodDescriptor yX5_init.desc).map (fun d => d.parameters.length) = some 0) := ⟨gT_of 372 (by decide +kernel) rfl, gT_of 371 (by decide +kernel) rfl, by decide +kernel, by decide +kernel, by decide +kernel⟩
theorem c_df6 : ∀ j, j < 4 → defaultValue (tyX6 j) = vp_V [.null, .null, .int 0, .int 0] j := by
  intro j hj
  rcases (show j = 0 ∨ j = 1 ∨ j = 2 ∨ j = 3 by omega) with rfl | rfl | rfl | rfl <;> rfl
theorem c_oi6 : Cond.methodLink RX6 3 objectInit ∈ gT := gT_of 454 (by decide +kernel) rfl
theorem c_is6 : Cond.instantiable RX6 4 ∈ gT ∧ Cond.initialized RX6 ∈ gT := ⟨gT_of 450 (by decide +kernel) rfl, gT_of 117 (by decide +kernel) rfl⟩
theorem c_cw6 : Cond.code yX6_init cX6_init 1 none ∈ gT ∧ Cond.instanceMethod yX6_init ∈ gT ∧ (yX6_init.cls ≠ "java/lang/invoke/MethodHandle" ∧ yX6_init.cls ≠ "java/lang/invoke/VarHandle" ∧ (parseMethodDescriptor yX6_init.desc).map (fun d => d.parameters.length) = some 0) := ⟨gT_of 453 (by decide +kernel) rfl, gT_of 452 (by decide +kernel) rfl, by decide +kernel, by decide +kernel, by decide +kernel⟩
theorem c_df7 : ∀ j, j < 6 → defaultValue (tyX7 j) = vp_V [.int 0, .int 0, .null, .null, .null, .null] j := by
  intro j hj
  rcases (show j = 0 ∨ j = 1 ∨ j = 2 ∨ j = 3 ∨ j = 4 ∨ j = 5 by omega) with rfl | rfl | rfl | rfl | rfl | rfl <;> rfl
theorem c_oi7 : Cond.methodLink RX7 3 objectInit ∈ gT := gT_of 320 (by decide +kernel) rfl
theorem c_is7 : Cond.instantiable RX7 6 ∈ gT ∧ Cond.initialized RX7 ∈ gT := ⟨gT_of 316 (by decide +kernel) rfl, gT_of 113 (by decide +kernel) rfl⟩
theorem c_cw7 : Cond.code yX7_init cX7_init 1 none ∈ gT ∧ Cond.instanceMethod yX7_init ∈ gT ∧ (yX7_init.cls ≠ "java/lang/invoke/MethodHandle" ∧ yX7_init.cls ≠ "java/lang/invoke/VarHandle" ∧ (parseMethodDescriptor yX7_init.desc).map (fun d => d.parameters.length) = some 0) := ⟨gT_of 319 (by decide +kernel) rfl, gT_of 318 (by decide +kernel) rfl, by decide +kernel, by decide +kernel, by decide +kernel⟩
theorem c_df8 : ∀ j, j < 7 → defaultValue (tyX8 j) = vp_V [.null, .int 0, .int 0, .int 0, .int 0, .int 0, .int 0] j := by
  intro j hj
  rcases (show j = 0 ∨ j = 1 ∨ j = 2 ∨ j = 3 ∨ j = 4 ∨ j = 5 ∨ j = 6 by omega) with rfl | rfl | rfl | rfl | rfl | rfl | rfl <;> rfl
theorem c_oi8 : Cond.methodLink RX8 3 objectInit ∈ gT := gT_of 152 (by decide +kernel) rfl
theorem c_is8 : Cond.instantiable RX8 7 ∈ gT ∧ Cond.initialized RX8 ∈ gT := ⟨gT_of 148 (by decide +kernel) rfl, gT_of 109 (by decide +kernel) rfl⟩
theorem c_cw8 : Cond.code yX8_init cX8_init 1 none ∈ gT ∧ Cond.instanceMethod yX8_init ∈ gT ∧ (yX8_init.cls ≠ "java/lang/invoke/MethodHandle" ∧ yX8_init.cls ≠ "java/lang/invoke/VarHandle" ∧ (parseMethodDescriptor yX8_init.desc).map (fun d => d.parameters.length) = some 0) := ⟨gT_of 151 (by decide +kernel) rfl, gT_of 150 (by decide +kernel) rfl, by decide +kernel, by decide +kernel, by decide +kernel⟩
theorem c_df9 : ∀ j, j < 15 → defaultValue (tyX9 j) = vp_V [.int 0, .null, .null, .null, .null, .int 0, .null, .null, .null, .null, .int 0, .null, .int 0, .null, .null] j := by
  intro j hj
  rcases (show j = 0 ∨ j = 1 ∨ j = 2 ∨ j = 3 ∨ j = 4 ∨ j = 5 ∨ j = 6 ∨ j = 7 ∨ j = 8 ∨ j = 9 ∨ j = 10 ∨ j = 11 ∨ j = 12 ∨ j = 13 ∨ j = 14 by omega) with rfl | rfl | rfl | rfl | rfl | rfl | rfl | rfl | rfl | rfl | rfl | rfl | rfl | rfl | rfl <;> rfl
theorem c_oi9 : Cond.methodLink RX9 3 objectInit ∈ gT := gT_of 185 (by decide +kernel) rfl
theorem c_is9 : Cond.instantiable RX9 15 ∈ gT ∧ Cond.initialized RX9 ∈ gT := ⟨gT_of 181 (by decide +kernel) rfl, gT_of 110 (by decide +kernel) rfl⟩
theorem c_cl9_53 : Cond.classLink RX9 53 RX4 ∈ gT := gT_of 186 (by decide +kernel) rfl
theorem c_cw9 : Cond.code yX9_init cX9_init 1 none ∈ gT ∧ Cond.instanceMethod yX9_init ∈ gT ∧ (yX9_init.cls ≠ "java/lang/invoke/MethodHandle" ∧ yX9_init.cls ≠ "java/lang/invoke/VarHandle" ∧ (parseMethodDescriptor yX9_init.desc).map (fun d => d.parameters.length) = some 0) := ⟨gT_of 184 (by decide +kernel) rfl, gT_of 183 (by decide +kernel) rfl, by decide +kernel, by decide +kernel, by decide +kernel⟩
theorem c_df10 : ∀ j, j < 8 → defaultValue (tyX10 j) = vp_V [.int 0, .int 0, .int 0, .int 0, .int 0, .int 0, .int 0, .int 0] j := by
  intro j hj
  rcases (show j = 0 ∨ j = 1 ∨ j = 2 ∨ j = 3 ∨ j = 4 ∨ j = 5 ∨ j = 6 ∨ j = 7 by omega) with rfl | rfl | rfl | rfl | rfl | rfl | rfl | rfl <;> rfl
theorem c_oi10 : Cond.methodLink RX10 3 objectInit ∈ gT := gT_of 415 (by decide +kernel) rfl
theorem c_is10 : Cond.instantiable RX10 8 ∈ gT ∧ Cond.initialized RX10 ∈ gT := ⟨gT_of 411 (by decide +kernel) rfl, gT_of 116 (by decide +kernel) rfl⟩
theorem c_cw10 : Cond.code yX10_init cX10_init 1 none ∈ gT ∧ Cond.instanceMethod yX10_init ∈ gT ∧ (yX10_init.cls ≠ "java/lang/invoke/MethodHandle" ∧ yX10_init.cls ≠ "java/lang/invoke/VarHandle" ∧ (parseMethodDescriptor yX10_init.desc).map (fun d => d.parameters.length) = some 0) := ⟨gT_of 414 (by decide +kernel) rfl, gT_of 413 (by decide +kernel) rfl, by decide +kernel, by decide +kernel, by decide +kernel⟩
theorem c_df11 : ∀ j, j < 10 → defaultValue (tyX11 j) = vp_V [.null, .null, .null, .null, .null, .null, .null, .null, .int 0, .int 0] j := by
  intro j hj
  rcases (show j = 0 ∨ j = 1 ∨ j = 2 ∨ j = 3 ∨ j = 4 ∨ j = 5 ∨ j = 6 ∨ j = 7 ∨ j = 8 ∨ j = 9 by omega) with rfl | rfl | rfl | rfl | rfl | rfl | rfl | rfl | rfl | rfl <;> rfl
theorem c_oi11 : Cond.methodLink RX11 3 objectInit ∈ gT := gT_of 138 (by decide +kernel) rfl
theorem c_is11 : Cond.instantiable RX11 10 ∈ gT ∧ Cond.initialized RX11 ∈ gT := ⟨gT_of 134 (by decide +kernel) rfl, gT_of 107 (by decide +kernel) rfl⟩
theorem c_cl11_9 : Cond.classLink RX11 9 RX3 ∈ gT := gT_of 141 (by decide +kernel) rfl
theorem c_cl11_16 : Cond.classLink RX11 16 RX1 ∈ gT := gT_of 309 (by decide +kernel) rfl
theorem c_cl11_26 : Cond.classLink RX11 26 RX7 ∈ gT := gT_of 408 (by decide +kernel) rfl
theorem c_cl11_33 : Cond.classLink RX11 33 RX10 ∈ gT := gT_of 410 (by decide +kernel) rfl
theorem c_cl11_40 : Cond.classLink RX11 40 RX6 ∈ gT := gT_of 449 (by decide +kernel) rfl
theorem c_cl11_47 : Cond.classLink RX11 47 RX2 ∈ gT := gT_of 473 (by decide +kernel) rfl
theorem c_cl11_54 : Cond.classLink RX11 54 RX9 ∈ gT := gT_of 502 (by decide +kernel) rfl
theorem c_cw11 : Cond.code yX11_init cX11_init 1 none ∈ gT ∧ Cond.instanceMethod yX11_init ∈ gT ∧ (yX11_init.cls ≠ "java/lang/invoke/MethodHandle" ∧ yX11_init.cls ≠ "java/lang/invoke/VarHandle" ∧ (parseMethodDescriptor yX11_init.desc).map (fun d => d.parameters.length) = some 0) := ⟨gT_of 137 (by decide +kernel) rfl, gT_of 136 (by decide +kernel) rfl, by decide +kernel, by decide +kernel, by decide +kernel⟩
theorem c_lk9_55 : Cond.methodLink RX9 55 yX4_init ∈ gT := gT_of 188 (by decide +kernel) rfl
set_option maxHeartbeats 4000000 in
set_option maxRecDepth 100000 in
theorem kc_7_46 (l : Launch) (D : va_G) (cI cB cZ cQ : ClassId) (h0 : Nat) : cM l yX7_init cX7_init 1 1 4 24 D (xtys cI cB cZ cQ) [.ref h0] [(h0, .inr (7, [.int 0, .int 0, .null, .null, .null, .null]))] 46 h0 (fun u => xb cI cB cZ cQ u 46 5) := by
  intro sz
  refine Met.ofW (cc := cX7_init) (maxL := 1) (ret := none) (by decide) rfl ?_
  intro p e s m args below meth c s₁ B hml hv
  obtain ⟨rfl, hsz, hP, hK, hD0, hN⟩ := hv
  have hx := B.exec
  have hb := B.bytes
  have hr := B.returns
  have hts : ∀ w ∈ gT, w.before _ s = true := fun w h => atoms_spec (ws := Cond.code yX7_init cX7_init 1 none :: gT) B.pre w (List.mem_cons_of_mem _ h)
  have hown : s.vm.findClass RX7 = some m.cls := findClass_of_methodNamed B.named
  have hlocks := B.notSynchronized
  have hin : meth.name = "<init>" := (name_of_methodNamed B.named B.method).1
  subst hsz
  have hD := hD0.self (sz := s.heap.size)
  generalize hAe : va_A [(h0, .inr (7, [.int 0, .int 0, .null, .null, .null, .null]))] s.heap.size = A at hD ⊢
  have hA : ∀ q : Nat, s.heap.size ≤ q → A q := fun q h => by rw [← hAe]; exact Or.inr h
  have hS : va_S A s.heap s.heap [] := va_S.rf
  have hl := lv_entry ([.ref h0]) (n := 1) (Nat.le_of_ble_eq_true rfl)
  rw [lg_entry_eq]
  generalize (lg_sl ([.ref h0]) ++ List.replicate (1 - (lg_sl ([.ref h0])).length) Slot.unset).toArray = ls at hl ⊢
  have hl : lv_has ls 1 [(0, .ref h0)] := hl
  have hP : va_P D vwCl [(h0, .inr (7, [.int 0, .int 0, .null, .null, .null, .null]))] s.heap := hP
  refine lv_aload_n hx hb dX7_init_0 rfl (lv_at hl 0 rfl) ?_
  refine W.objInit hx hb hown (hts _ c_oi7) (hts _ c_ob.1) (hts _ c_ob.2) rfl (by rw [hml]; exact hl.1) rfl dX7_init_1 (Nat.le_of_ble_eq_true rfl) (Nat.le_of_ble_eq_true rfl) ?_
  refine W.eq (g2 := F0 m 4 ls []) rfl ?_
  refine lv_aload_n hx hb dX7_init_4 rfl (lv_at hl 0 rfl) ?_
  refine lv_iconst (v := 0) hx hb dX7_init_5 (by decide) ?_
  refine va_put (D := D) (ci := 7) (v := .int 0) (ty := tyX7 0) (C := RX7) (T := TX7) (N := 6) hx hb hts x_in7 tyX7 tyX7_ok nmX7 hown hK hP hD hS 0 rfl rfl 0 (by decide) (hts _ xl_X7_9) (fun _ h9 => h9) rfl (tyX7_ok 0 (by decide)) rfl rfl (Nat.le_of_ble_eq_true rfl) dX7_init_6 (fun H locs hP hD hS => ?_)
  have hP : va_P D vwCl ([(h0, .inr (7, [.int 0, .int 0, .null, .null, .null, .null]))]) H := hP
  have hD : va_D A ([(h0, .inr (7, [.int 0, .int 0, .null, .null, .null, .null]))]) := hD
  refine lv_aload_n hx hb dX7_init_9 rfl (lv_at hl 0 rfl) ?_
  refine lv_iconst (v := 0) hx hb dX7_init_10 (by decide) ?_
  refine va_put (D := D) (ci := 7) (v := .int 0) (ty := tyX7 1) (C := RX7) (T := TX7) (N := 6) hx hb hts x_in7 tyX7 tyX7_ok nmX7 hown hK hP hD hS 0 rfl rfl 1 (by decide) (hts _ xl_X7_15) (fun _ h9 => h9) rfl (tyX7_ok 1 (by decide)) rfl rfl (Nat.le_of_ble_eq_true rfl) dX7_init_11 (fun H locs hP hD hS => ?_)
  have hP : va_P D vwCl ([(h0, .inr (7, [.int 0, .int 0, .null, .null, .null, .null]))]) H := hP
  have hD : va_D A ([(h0, .inr (7, [.int 0, .int 0, .null, .null, .null, .null]))]) := hD
  refine lv_aload_n hx hb dX7_init_14 rfl (lv_at hl 0 rfl) ?_
  refine lv_bipush (v := 6) hx hb dX7_init_15 (by decide) ?_
  refine c_newa (atype := .int) (a0 := (6, .inl (fun _ => 0))) hx hb (hts _ c_ac_int) rfl (fun _ h => by cases h) hK (t0 := 0) rfl hP hD hS hA (fun _ => rfl) (by decide) (by decide) (Nat.le_of_ble_eq_true rfl) (Nat.le_of_ble_eq_true rfl) (Nat.le_of_ble_eq_true rfl) dX7_init_17 (fun q1 H hP hD hS => ?_)
  have hP : va_P D vwCl (([(h0, .inr (7, [.int 0, .int 0, .null, .null, .null, .null]))]) ++ [(q1, .inl (cI, 6, .inl (fun _ => 0)))]) H := hP
  have hD : va_D A (([(h0, .inr (7, [.int 0, .int 0, .null, .null, .null, .null]))]) ++ [(q1, .inl (cI, 6, .inl (fun _ => 0)))]) := hD
  refine W.widen (k := 1) (n := 6) (Nat.le_of_ble_eq_true rfl) (Nat.le_of_ble_eq_true rfl) ?_
  refine va_putF (D := D) (ci := 7) (v := .ref q1) (ty := tyX7 2) (C := RX7) (T := TX7) (N := 6) hx hb hts x_in7 tyX7 tyX7_ok nmX7 hown hK hP hD hS 0 rfl rfl 2 (by decide) (hts _ xl_X7_18) (fun _ h9 => h9) rfl hin rfl (tyX7_ok 2 (by decide)) rfl rfl (Nat.le_of_ble_eq_true rfl) dX7_init_19 (fun H locs hP hD hS => ?_)
  have hP : va_P D vwCl (([(h0, .inr (7, [.int 0, .int 0, .ref q1, .null, .null, .null]))]) ++ [(q1, .inl (cI, 6, .inl (fun _ => 0)))]) H := hP
  have hD : va_D A (([(h0, .inr (7, [.int 0, .int 0, .ref q1, .null, .null, .null]))]) ++ [(q1, .inl (cI, 6, .inl (fun _ => 0)))]) := hD
  refine lv_aload_n hx hb dX7_init_22 rfl (lv_at hl 0 rfl) ?_
  refine lv_bipush (v := 6) hx hb dX7_init_23 (by decide) ?_
  refine c_newa (atype := .int) (a0 := (6, .inl (fun _ => 0))) hx hb (hts _ c_ac_int) rfl (fun _ h => by cases h) hK (t0 := 0) rfl hP hD hS hA (fun _ => rfl) (by decide) (by decide) (Nat.le_of_ble_eq_true rfl) (Nat.le_of_ble_eq_true rfl) (Nat.le_of_ble_eq_true rfl) dX7_init_25 (fun q2 H hP hD hS => ?_)
  have hP : va_P D vwCl ((([(h0, .inr (7, [.int 0, .int 0, .ref q1, .null, .null, .null]))]) ++ [(q1, .inl (cI, 6, .inl (fun _ => 0)))]) ++ [(q2, .inl (cI, 6, .inl (fun _ => 0)))]) H := hP
  have hD : va_D A ((([(h0, .inr (7, [.int 0, .int 0, .ref q1, .null, .null, .null]))]) ++ [(q1, .inl (cI, 6, .inl (fun _ => 0)))]) ++ [(q2, .inl (cI, 6, .inl (fun _ => 0)))]) := hD
  refine W.widen (k := 2) (n := 12) (Nat.le_of_ble_eq_true rfl) (Nat.le_of_ble_eq_true rfl) ?_
  refine va_putF (D := D) (ci := 7) (v := .ref q2) (ty := tyX7 3) (C := RX7) (T := TX7) (N := 6) hx hb hts x_in7 tyX7 tyX7_ok nmX7 hown hK hP hD hS 0 rfl rfl 3 (by decide) (hts _ xl_X7_22) (fun _ h9 => h9) rfl hin rfl (tyX7_ok 3 (by decide)) rfl rfl (Nat.le_of_ble_eq_true rfl) dX7_init_27 (fun H locs hP hD hS => ?_)
  have hP : va_P D vwCl ((([(h0, .inr (7, [.int 0, .int 0, .ref q1, .ref q2, .null, .null]))]) ++ [(q1, .inl (cI, 6, .inl (fun _ => 0)))]) ++ [(q2, .inl (cI, 6, .inl (fun _ => 0)))]) H := hP
  have hD : va_D A ((([(h0, .inr (7, [.int 0, .int 0, .ref q1, .ref q2, .null, .null]))]) ++ [(q1, .inl (cI, 6, .inl (fun _ => 0)))]) ++ [(q2, .inl (cI, 6, .inl (fun _ => 0)))]) := hD
  refine lv_aload_n hx hb dX7_init_30 rfl (lv_at hl 0 rfl) ?_
  refine lv_bipush (v := 6) hx hb dX7_init_31 (by decide) ?_
  refine c_newa (atype := .int) (a0 := (6, .inl (fun _ => 0))) hx hb (hts _ c_ac_int) rfl (fun _ h => by cases h) hK (t0 := 0) rfl hP hD hS hA (fun _ => rfl) (by decide) (by decide) (Nat.le_of_ble_eq_true rfl) (Nat.le_of_ble_eq_true rfl) (Nat.le_of_ble_eq_true rfl) dX7_init_33 (fun q3 H hP hD hS => ?_)
  have hP : va_P D vwCl (((([(h0, .inr (7, [.int 0, .int 0, .ref q1, .ref q2, .null, .null]))]) ++ [(q1, .inl (cI, 6, .inl (fun _ => 0)))]) ++ [(q2, .inl (cI, 6, .inl (fun _ => 0)))]) ++ [(q3, .inl (cI, 6, .inl (fun _ => 0)))]) H := hP
  have hD : va_D A (((([(h0, .inr (7, [.int 0, .int 0, .ref q1, .ref q2, .null, .null]))]) ++ [(q1, .inl (cI, 6, .inl (fun _ => 0)))]) ++ [(q2, .inl (cI, 6, .inl (fun _ => 0)))]) ++ [(q3, .inl (cI, 6, .inl (fun _ => 0)))]) := hD
  refine W.widen (k := 3) (n := 18) (Nat.le_of_ble_eq_true rfl) (Nat.le_of_ble_eq_true rfl) ?_
  refine va_putF (D := D) (ci := 7) (v := .ref q3) (ty := tyX7 4) (C := RX7) (T := TX7) (N := 6) hx hb hts x_in7 tyX7 tyX7_ok nmX7 hown hK hP hD hS 0 rfl rfl 4 (by decide) (hts _ xl_X7_25) (fun _ h9 => h9) rfl hin rfl (tyX7_ok 4 (by decide)) rfl rfl (Nat.le_of_ble_eq_true rfl) dX7_init_35 (fun H locs hP hD hS => ?_)
  have hP : va_P D vwCl (((([(h0, .inr (7, [.int 0, .int 0, .ref q1, .ref q2, .ref q3, .null]))]) ++ [(q1, .inl (cI, 6, .inl (fun _ => 0)))]) ++ [(q2, .inl (cI, 6, .inl (fun _ => 0)))]) ++ [(q3, .inl (cI, 6, .inl (fun _ => 0)))]) H := hP
  have hD : va_D A (((([(h0, .inr (7, [.int 0, .int 0, .ref q1, .ref q2, .ref q3, .null]))]) ++ [(q1, .inl (cI, 6, .inl (fun _ => 0)))]) ++ [(q2, .inl (cI, 6, .inl (fun _ => 0)))]) ++ [(q3, .inl (cI, 6, .inl (fun _ => 0)))]) := hD
  refine lv_aload_n hx hb dX7_init_38 rfl (lv_at hl 0 rfl) ?_
  refine lv_bipush (v := 6) hx hb dX7_init_39 (by decide) ?_
  refine c_newa (atype := .int) (a0 := (6, .inl (fun _ => 0))) hx hb (hts _ c_ac_int) rfl (fun _ h => by cases h) hK (t0 := 0) rfl hP hD hS hA (fun _ => rfl) (by decide) (by decide) (Nat.le_of_ble_eq_true rfl) (Nat.le_of_ble_eq_true rfl) (Nat.le_of_ble_eq_true rfl) dX7_init_41 (fun q4 H hP hD hS => ?_)
  have hP : va_P D vwCl ((((([(h0, .inr (7, [.int 0, .int 0, .ref q1, .ref q2, .ref q3, .null]))]) ++ [(q1, .inl (cI, 6, .inl (fun _ => 0)))]) ++ [(q2, .inl (cI, 6, .inl (fun _ => 0)))]) ++ [(q3, .inl (cI, 6, .inl (fun _ => 0)))]) ++ [(q4, .inl (cI, 6, .inl (fun _ => 0)))]) H := hP
  have hD : va_D A ((((([(h0, .inr (7, [.int 0, .int 0, .ref q1, .ref q2, .ref q3, .null]))]) ++ [(q1, .inl (cI, 6, .inl (fun _ => 0)))]) ++ [(q2, .inl (cI, 6, .inl (fun _ => 0)))]) ++ [(q3, .inl (cI, 6, .inl (fun _ => 0)))]) ++ [(q4, .inl (cI, 6, .inl (fun _ => 0)))]) := hD
  refine W.widen (k := 4) (n := 24) (Nat.le_of_ble_eq_true rfl) (Nat.le_of_ble_eq_true rfl) ?_
  refine va_putF (D := D) (ci := 7) (v := .ref q4) (ty := tyX7 5) (C := RX7) (T := TX7) (N := 6) hx hb hts x_in7 tyX7 tyX7_ok nmX7 hown hK hP hD hS 0 rfl rfl 5 (by decide) (hts _ xl_X7_28) (fun _ h9 => h9) rfl hin rfl (tyX7_ok 5 (by decide)) rfl rfl (Nat.le_of_ble_eq_true rfl) dX7_init_43 (fun H locs hP hD hS => ?_)
  have hP : va_P D vwCl ((((([(h0, .inr (7, [.int 0, .int 0, .ref q1, .ref q2, .ref q3, .ref q4]))]) ++ [(q1, .inl (cI, 6, .inl (fun _ => 0)))]) ++ [(q2, .inl (cI, 6, .inl (fun _ => 0)))]) ++ [(q3, .inl (cI, 6, .inl (fun _ => 0)))]) ++ [(q4, .inl (cI, 6, .inl (fun _ => 0)))]) H := hP
  have hD : va_D A ((((([(h0, .inr (7, [.int 0, .int 0, .ref q1, .ref q2, .ref q3, .ref q4]))]) ++ [(q1, .inl (cI, 6, .inl (fun _ => 0)))]) ++ [(q2, .inl (cI, 6, .inl (fun _ => 0)))]) ++ [(q3, .inl (cI, 6, .inl (fun _ => 0)))]) ++ [(q4, .inl (cI, 6, .inl (fun _ => 0)))]) := hD
  have hP9 : va_P D vwCl (xb cI cB cZ cQ (xj (xj (xj (xj (fun _ => h0) 47 (fun _ => q1)) 48 (fun _ => q2)) 49 (fun _ => q3)) 50 (fun _ => q4)) 46 5) H := hP
  have hD9 : va_D A (xb cI cB cZ cQ (xj (xj (xj (xj (fun _ => h0) 47 (fun _ => q1)) 48 (fun _ => q2)) 49 (fun _ => q3)) 50 (fun _ => q4)) 46 5) := hD
  exact W.vret hx hb hr (fun t ht hW => ⟨⟨(xj (xj (xj (xj (fun _ => h0) 47 (fun _ => q1)) 48 (fun _ => q2)) 49 (fun _ => q3)) 50 (fun _ => q4)), rfl, trivial, rfl, by rw [ht]; exact hP9, va_K.moved hW.alike hK, hD9⟩, hS.F ht⟩) hS.2.2 dX7_init_46 hlocks
set_option maxHeartbeats 4000000 in
set_option maxRecDepth 100000 in
theorem kc_0_26 (l : Launch) (D : va_G) (cI cB cZ cQ : ClassId) (h0 : Nat) : cM l yX0_init cX0_init 1 1 1 1040 D (xtys cI cB cZ cQ) [.ref h0] [(h0, .inr (0, [.null, .int 0]))] 26 h0 (fun u => xb cI cB cZ cQ u 26 2) := by
  intro sz
  refine Met.ofW (cc := cX0_init) (maxL := 1) (ret := none) (by decide) rfl ?_
  intro p e s m args below meth c s₁ B hml hv
  obtain ⟨rfl, hsz, hP, hK, hD0, hN⟩ := hv
  have hx := B.exec
  have hb := B.bytes
  have hr := B.returns
  have hts : ∀ w ∈ gT, w.before _ s = true := fun w h => atoms_spec (ws := Cond.code yX0_init cX0_init 1 none :: gT) B.pre w (List.mem_cons_of_mem _ h)
  have hown : s.vm.findClass RX0 = some m.cls := findClass_of_methodNamed B.named
  have hlocks := B.notSynchronized
  have hin : meth.name = "<init>" := (name_of_methodNamed B.named B.method).1
  subst hsz
  have hD := hD0.self (sz := s.heap.size)
  generalize hAe : va_A [(h0, .inr (0, [.null, .int 0]))] s.heap.size = A at hD ⊢
  have hA : ∀ q : Nat, s.heap.size ≤ q → A q := fun q h => by rw [← hAe]; exact Or.inr h
  have hS : va_S A s.heap s.heap [] := va_S.rf
  have hl := lv_entry ([.ref h0]) (n := 1) (Nat.le_of_ble_eq_true rfl)
  rw [lg_entry_eq]
  generalize (lg_sl ([.ref h0]) ++ List.replicate (1 - (lg_sl ([.ref h0])).length) Slot.unset).toArray = ls at hl ⊢
  have hl : lv_has ls 1 [(0, .ref h0)] := hl
  have hP : va_P D vwCl [(h0, .inr (0, [.null, .int 0]))] s.heap := hP
  refine lv_aload_n hx hb dX0_init_0 rfl (lv_at hl 0 rfl) ?_
  refine W.objInit hx hb hown (hts _ c_oi0) (hts _ c_ob.1) (hts _ c_ob.2) rfl (by rw [hml]; exact hl.1) rfl dX0_init_1 (Nat.le_of_ble_eq_true rfl) (Nat.le_of_ble_eq_true rfl) ?_
  refine W.eq (g2 := F0 m 4 ls []) rfl ?_
  refine lv_aload_n hx hb dX0_init_4 rfl (lv_at hl 0 rfl) ?_
  refine lv_sipush (v := 1040) hx hb dX0_init_5 (by decide) ?_
  refine c_newa (atype := .int) (a0 := (1040, .inl (fun _ => 0))) hx hb (hts _ c_ac_int) rfl (fun _ h => by cases h) hK (t0 := 0) rfl hP hD hS hA (fun _ => rfl) (by decide) (by decide) (Nat.le_of_ble_eq_true rfl) (Nat.le_of_ble_eq_true rfl) (Nat.le_of_ble_eq_true rfl) dX0_init_8 (fun q1 H hP hD hS => ?_)
  have hP : va_P D vwCl (([(h0, .inr (0, [.null, .int 0]))]) ++ [(q1, .inl (cI, 1040, .inl (fun _ => 0)))]) H := hP
  have hD : va_D A (([(h0, .inr (0, [.null, .int 0]))]) ++ [(q1, .inl (cI, 1040, .inl (fun _ => 0)))]) := hD
  refine W.widen (k := 1) (n := 1040) (Nat.le_of_ble_eq_true rfl) (Nat.le_of_ble_eq_true rfl) ?_
  refine va_putF (D := D) (ci := 0) (v := .ref q1) (ty := tyX0 0) (C := RX0) (T := TX0) (N := 2) hx hb hts x_in0 tyX0 tyX0_ok nmX0 hown hK hP hD hS 0 rfl rfl 0 (by decide) (hts _ xl_X0_11) (fun _ h9 => h9) rfl hin rfl (tyX0_ok 0 (by decide)) rfl rfl (Nat.le_of_ble_eq_true rfl) dX0_init_10 (fun H locs hP hD hS => ?_)
  have hP : va_P D vwCl (([(h0, .inr (0, [.ref q1, .int 0]))]) ++ [(q1, .inl (cI, 1040, .inl (fun _ => 0)))]) H := hP
  have hD : va_D A (([(h0, .inr (0, [.ref q1, .int 0]))]) ++ [(q1, .inl (cI, 1040, .inl (fun _ => 0)))]) := hD
  refine lv_aload_n hx hb dX0_init_13 rfl (lv_at hl 0 rfl) ?_
  refine lv_iconst (v := 0) hx hb dX0_init_14 (by decide) ?_
  refine va_put (D := D) (ci := 0) (v := .int 0) (ty := tyX0 1) (C := RX0) (T := TX0) (N := 2) hx hb hts x_in0 tyX0 tyX0_ok nmX0 hown hK hP hD hS 0 rfl rfl 1 (by decide) (hts _ xl_X0_17) (fun _ h9 => h9) rfl (tyX0_ok 1 (by decide)) rfl rfl (Nat.le_of_ble_eq_true rfl) dX0_init_15 (fun H locs hP hD hS => ?_)
  have hP : va_P D vwCl (([(h0, .inr (0, [.ref q1, .int 0]))]) ++ [(q1, .inl (cI, 1040, .inl (fun _ => 0)))]) H := hP
  have hD : va_D A (([(h0, .inr (0, [.ref q1, .int 0]))]) ++ [(q1, .inl (cI, 1040, .inl (fun _ => 0)))]) := hD
  have hP9 : va_P D vwCl (xb cI cB cZ cQ (xj (fun _ => h0) 27 (fun _ => q1)) 26 2) H := hP
  have hD9 : va_D A (xb cI cB cZ cQ (xj (fun _ => h0) 27 (fun _ => q1)) 26 2) := hD
  exact W.vret hx hb hr (fun t ht hW => ⟨⟨(xj (fun _ => h0) 27 (fun _ => q1)), rfl, trivial, rfl, by rw [ht]; exact hP9, va_K.moved hW.alike hK, hD9⟩, hS.F ht⟩) hS.2.2 dX0_init_18 hlocks
set_option maxHeartbeats 4000000 in
set_option maxRecDepth 100000 in
theorem kc_5_28 (l : Launch) (D : va_G) (cI cB cZ cQ : ClassId) (h0 : Nat) : cM l yX5_init cX5_init 1 1 3 24 D (xtys cI cB cZ cQ) [.ref h0] [(h0, .inr (5, [.null, .null, .null, .int 0]))] 28 h0 (fun u => xb cI cB cZ cQ u 28 4) := by
  intro sz
  refine Met.ofW (cc := cX5_init) (maxL := 1) (ret := none) (by decide) rfl ?_
  intro p e s m args below meth c s₁ B hml hv
  obtain ⟨rfl, hsz, hP, hK, hD0, hN⟩ := hv
  have hx := B.exec
  have hb := B.bytes
  have hr := B.returns
  have hts : ∀ w ∈ gT, w.before _ s = true := fun w h => atoms_spec (ws := Cond.code yX5_init cX5_init 1 none :: gT) B.pre w (List.mem_cons_of_mem _ h)
  have hown : s.vm.findClass RX5 = some m.cls := findClass_of_methodNamed B.named
  have hlocks := B.notSynchronized
  have hin : meth.name = "<init>" := (name_of_methodNamed B.named B.method).1
  subst hsz
  have hD := hD0.self (sz := s.heap.size)
  generalize hAe : va_A [(h0, .inr (5, [.null, .null, .null, .int 0]))] s.heap.size = A at hD ⊢
  have hA : ∀ q : Nat, s.heap.size ≤ q → A q := fun q h => by rw [← hAe]; exact Or.inr h
  have hS : va_S A s.heap s.heap [] := va_S.rf
  have hl := lv_entry ([.ref h0]) (n := 1) (Nat.le_of_ble_eq_true rfl)
  rw [lg_entry_eq]
  generalize (lg_sl ([.ref h0]) ++ List.replicate (1 - (lg_sl ([.ref h0])).length) Slot.unset).toArray = ls at hl ⊢
  have hl : lv_has ls 1 [(0, .ref h0)] := hl
  have hP : va_P D vwCl [(h0, .inr (5, [.null, .null, .null, .int 0]))] s.heap := hP
  refine lv_aload_n hx hb dX5_init_0 rfl (lv_at hl 0 rfl) ?_
  refine W.objInit hx hb hown (hts _ c_oi5) (hts _ c_ob.1) (hts _ c_ob.2) rfl (by rw [hml]; exact hl.1) rfl dX5_init_1 (Nat.le_of_ble_eq_true rfl) (Nat.le_of_ble_eq_true rfl) ?_
  refine W.eq (g2 := F0 m 4 ls []) rfl ?_
  refine lv_aload_n hx hb dX5_init_4 rfl (lv_at hl 0 rfl) ?_
  refine lv_bipush (v := 8) hx hb dX5_init_5 (by decide) ?_
  refine c_newa (atype := .int) (a0 := (8, .inl (fun _ => 0))) hx hb (hts _ c_ac_int) rfl (fun _ h => by cases h) hK (t0 := 0) rfl hP hD hS hA (fun _ => rfl) (by decide) (by decide) (Nat.le_of_ble_eq_true rfl) (Nat.le_of_ble_eq_true rfl) (Nat.le_of_ble_eq_true rfl) dX5_init_7 (fun q1 H hP hD hS => ?_)
  have hP : va_P D vwCl (([(h0, .inr (5, [.null, .null, .null, .int 0]))]) ++ [(q1, .inl (cI, 8, .inl (fun _ => 0)))]) H := hP
  have hD : va_D A (([(h0, .inr (5, [.null, .null, .null, .int 0]))]) ++ [(q1, .inl (cI, 8, .inl (fun _ => 0)))]) := hD
  refine W.widen (k := 1) (n := 8) (Nat.le_of_ble_eq_true rfl) (Nat.le_of_ble_eq_true rfl) ?_
  refine va_putF (D := D) (ci := 5) (v := .ref q1) (ty := tyX5 0) (C := RX5) (T := TX5) (N := 4) hx hb hts x_in5 tyX5 tyX5_ok nmX5 hown hK hP hD hS 0 rfl rfl 0 (by decide) (hts _ xl_X5_9) (fun _ h9 => h9) rfl hin rfl (tyX5_ok 0 (by decide)) rfl rfl (Nat.le_of_ble_eq_true rfl) dX5_init_9 (fun H locs hP hD hS => ?_)
  have hP : va_P D vwCl (([(h0, .inr (5, [.ref q1, .null, .null, .int 0]))]) ++ [(q1, .inl (cI, 8, .inl (fun _ => 0)))]) H := hP
  have hD : va_D A (([(h0, .inr (5, [.ref q1, .null, .null, .int 0]))]) ++ [(q1, .inl (cI, 8, .inl (fun _ => 0)))]) := hD
  refine lv_aload_n hx hb dX5_init_12 rfl (lv_at hl 0 rfl) ?_
  refine lv_bipush (v := 8) hx hb dX5_init_13 (by decide) ?_
  refine c_newa (atype := .int) (a0 := (8, .inl (fun _ => 0))) hx hb (hts _ c_ac_int) rfl (fun _ h => by cases h) hK (t0 := 0) rfl hP hD hS hA (fun _ => rfl) (by decide) (by decide) (Nat.le_of_ble_eq_true rfl) (Nat.le_of_ble_eq_true rfl) (Nat.le_of_ble_eq_true rfl) dX5_init_15 (fun q2 H hP hD hS => ?_)
  have hP : va_P D vwCl ((([(h0, .inr (5, [.ref q1, .null, .null, .int 0]))]) ++ [(q1, .inl (cI, 8, .inl (fun _ => 0)))]) ++ [(q2, .inl (cI, 8, .inl (fun _ => 0)))]) H := hP
  have hD : va_D A ((([(h0, .inr (5, [.ref q1, .null, .null, .int 0]))]) ++ [(q1, .inl (cI, 8, .inl (fun _ => 0)))]) ++ [(q2, .inl (cI, 8, .inl (fun _ => 0)))]) := hD
  refine W.widen (k := 2) (n := 16) (Nat.le_of_ble_eq_true rfl) (Nat.le_of_ble_eq_true rfl) ?_
  refine va_putF (D := D) (ci := 5) (v := .ref q2) (ty := tyX5 1) (C := RX5) (T := TX5) (N := 4) hx hb hts x_in5 tyX5 tyX5_ok nmX5 hown hK hP hD hS 0 rfl rfl 1 (by decide) (hts _ xl_X5_15) (fun _ h9 => h9) rfl hin rfl (tyX5_ok 1 (by decide)) rfl rfl (Nat.le_of_ble_eq_true rfl) dX5_init_17 (fun H locs hP hD hS => ?_)
  have hP : va_P D vwCl ((([(h0, .inr (5, [.ref q1, .ref q2, .null, .int 0]))]) ++ [(q1, .inl (cI, 8, .inl (fun _ => 0)))]) ++ [(q2, .inl (cI, 8, .inl (fun _ => 0)))]) H := hP
  have hD : va_D A ((([(h0, .inr (5, [.ref q1, .ref q2, .null, .int 0]))]) ++ [(q1, .inl (cI, 8, .inl (fun _ => 0)))]) ++ [(q2, .inl (cI, 8, .inl (fun _ => 0)))]) := hD
  refine lv_aload_n hx hb dX5_init_20 rfl (lv_at hl 0 rfl) ?_
  refine lv_bipush (v := 8) hx hb dX5_init_21 (by decide) ?_
  refine c_newa (atype := .int) (a0 := (8, .inl (fun _ => 0))) hx hb (hts _ c_ac_int) rfl (fun _ h => by cases h) hK (t0 := 0) rfl hP hD hS hA (fun _ => rfl) (by decide) (by decide) (Nat.le_of_ble_eq_true rfl) (Nat.le_of_ble_eq_true rfl) (Nat.le_of_ble_eq_true rfl) dX5_init_23 (fun q3 H hP hD hS => ?_)
  have hP : va_P D vwCl (((([(h0, .inr (5, [.ref q1, .ref q2, .null, .int 0]))]) ++ [(q1, .inl (cI, 8, .inl (fun _ => 0)))]) ++ [(q2, .inl (cI, 8, .inl (fun _ => 0)))]) ++ [(q3, .inl (cI, 8, .inl (fun _ => 0)))]) H := hP
  have hD : va_D A (((([(h0, .inr (5, [.ref q1, .ref q2, .null, .int 0]))]) ++ [(q1, .inl (cI, 8, .inl (fun _ => 0)))]) ++ [(q2, .inl (cI, 8, .inl (fun _ => 0)))]) ++ [(q3, .inl (cI, 8, .inl (fun _ => 0)))]) := hD
  refine W.widen (k := 3) (n := 24) (Nat.le_of_ble_eq_true rfl) (Nat.le_of_ble_eq_true rfl) ?_
  refine va_putF (D := D) (ci := 5) (v := .ref q3) (ty := tyX5 2) (C := RX5) (T := TX5) (N := 4) hx hb hts x_in5 tyX5 tyX5_ok nmX5 hown hK hP hD hS 0 rfl rfl 2 (by decide) (hts _ xl_X5_18) (fun _ h9 => h9) rfl hin rfl (tyX5_ok 2 (by decide)) rfl rfl (Nat.le_of_ble_eq_true rfl) dX5_init_25 (fun H locs hP hD hS => ?_)
  have hP : va_P D vwCl (((([(h0, .inr (5, [.ref q1, .ref q2, .ref q3, .int 0]))]) ++ [(q1, .inl (cI, 8, .inl (fun _ => 0)))]) ++ [(q2, .inl (cI, 8, .inl (fun _ => 0)))]) ++ [(q3, .inl (cI, 8, .inl (fun _ => 0)))]) H := hP
  have hD : va_D A (((([(h0, .inr (5, [.ref q1, .ref q2, .ref q3, .int 0]))]) ++ [(q1, .inl (cI, 8, .inl (fun _ => 0)))]) ++ [(q2, .inl (cI, 8, .inl (fun _ => 0)))]) ++ [(q3, .inl (cI, 8, .inl (fun _ => 0)))]) := hD
  refine lv_aload_n hx hb dX5_init_28 rfl (lv_at hl 0 rfl) ?_
  refine lv_iconst (v := 0) hx hb dX5_init_29 (by decide) ?_
  refine va_put (D := D) (ci := 5) (v := .int 0) (ty := tyX5 3) (C := RX5) (T := TX5) (N := 4) hx hb hts x_in5 tyX5 tyX5_ok nmX5 hown hK hP hD hS 0 rfl rfl 3 (by decide) (hts _ xl_X5_21) (fun _ h9 => h9) rfl (tyX5_ok 3 (by decide)) rfl rfl (Nat.le_of_ble_eq_true rfl) dX5_init_30 (fun H locs hP hD hS => ?_)
  have hP : va_P D vwCl (((([(h0, .inr (5, [.ref q1, .ref q2, .ref q3, .int 0]))]) ++ [(q1, .inl (cI, 8, .inl (fun _ => 0)))]) ++ [(q2, .inl (cI, 8, .inl (fun _ => 0)))]) ++ [(q3, .inl (cI, 8, .inl (fun _ => 0)))]) H := hP
  have hD : va_D A (((([(h0, .inr (5, [.ref q1, .ref q2, .ref q3, .int 0]))]) ++ [(q1, .inl (cI, 8, .inl (fun _ => 0)))]) ++ [(q2, .inl (cI, 8, .inl (fun _ => 0)))]) ++ [(q3, .inl (cI, 8, .inl (fun _ => 0)))]) := hD
  have hP9 : va_P D vwCl (xb cI cB cZ cQ (xj (xj (xj (fun _ => h0) 29 (fun _ => q1)) 30 (fun _ => q2)) 31 (fun _ => q3)) 28 4) H := hP
  have hD9 : va_D A (xb cI cB cZ cQ (xj (xj (xj (fun _ => h0) 29 (fun _ => q1)) 30 (fun _ => q2)) 31 (fun _ => q3)) 28 4) := hD
  exact W.vret hx hb hr (fun t ht hW => ⟨⟨(xj (xj (xj (fun _ => h0) 29 (fun _ => q1)) 30 (fun _ => q2)) 31 (fun _ => q3)), rfl, trivial, rfl, by rw [ht]; exact hP9, va_K.moved hW.alike hK, hD9⟩, hS.F ht⟩) hS.2.2 dX5_init_33 hlocks
set_option maxHeartbeats 4000000 in
set_option maxRecDepth 100000 in
theorem kc_4_14 (l : Launch) (D : va_G) (cI cB cZ cQ : ClassId) (h0 : Nat) : cM l yX4_init cX4_init 2 1 2 731 D (xtys cI cB cZ cQ) [.ref h0, .int 0] [(h0, .inr (4, [.null, .null, .int 0, .int 0]))] 14 h0 (fun u => xb cI cB cZ cQ u 14 3) := by
  intro sz
  refine Met.ofW (cc := cX4_init) (maxL := 2) (ret := none) (by decide) rfl ?_
  intro p e s m args below meth c s₁ B hml hv
  obtain ⟨rfl, hsz, hP, hK, hD0, hN⟩ := hv
  have hx := B.exec
  have hb := B.bytes
  have hr := B.returns
  have hts : ∀ w ∈ gT, w.before _ s = true := fun w h => atoms_spec (ws := Cond.code yX4_init cX4_init 2 none :: gT) B.pre w (List.mem_cons_of_mem _ h)
  have hown : s.vm.findClass RX4 = some m.cls := findClass_of_methodNamed B.named
  have hlocks := B.notSynchronized
  have hin : meth.name = "<init>" := (name_of_methodNamed B.named B.method).1
  subst hsz
  have hD := hD0.self (sz := s.heap.size)
  generalize hAe : va_A [(h0, .inr (4, [.null, .null, .int 0, .int 0]))] s.heap.size = A at hD ⊢
  have hA : ∀ q : Nat, s.heap.size ≤ q → A q := fun q h => by rw [← hAe]; exact Or.inr h
  have hS : va_S A s.heap s.heap [] := va_S.rf
  have hl := lv_entry ([.ref h0, .int 0]) (n := 2) (Nat.le_of_ble_eq_true rfl)
  rw [lg_entry_eq]
  generalize (lg_sl ([.ref h0, .int 0]) ++ List.replicate (2 - (lg_sl ([.ref h0, .int 0])).length) Slot.unset).toArray = ls at hl ⊢
  have hl : lv_has ls 2 [(0, .ref h0), (1, .int 0)] := hl
  have hP : va_P D vwCl [(h0, .inr (4, [.null, .null, .int 0, .int 0]))] s.heap := hP
  refine lv_aload_n hx hb dX4_init_0 rfl (lv_at hl 0 rfl) ?_
  refine W.objInit hx hb hown (hts _ c_oi4) (hts _ c_ob.1) (hts _ c_ob.2) rfl (by rw [hml]; exact hl.1) rfl dX4_init_1 (Nat.le_of_ble_eq_true rfl) (Nat.le_of_ble_eq_true rfl) ?_
  refine W.eq (g2 := F0 m 4 ls []) rfl ?_
  refine lv_aload_n hx hb dX4_init_4 rfl (lv_at hl 0 rfl) ?_
  refine lv_sipush (v := 700) hx hb dX4_init_5 (by decide) ?_
  refine c_newa (atype := .int) (a0 := (700, .inl (fun _ => 0))) hx hb (hts _ c_ac_int) rfl (fun _ h => by cases h) hK (t0 := 0) rfl hP hD hS hA (fun _ => rfl) (by decide) (by decide) (Nat.le_of_ble_eq_true rfl) (Nat.le_of_ble_eq_true rfl) (Nat.le_of_ble_eq_true rfl) dX4_init_8 (fun q1 H hP hD hS => ?_)
  have hP : va_P D vwCl (([(h0, .inr (4, [.null, .null, .int 0, .int 0]))]) ++ [(q1, .inl (cI, 700, .inl (fun _ => 0)))]) H := hP
  have hD : va_D A (([(h0, .inr (4, [.null, .null, .int 0, .int 0]))]) ++ [(q1, .inl (cI, 700, .inl (fun _ => 0)))]) := hD
  refine W.widen (k := 1) (n := 700) (Nat.le_of_ble_eq_true rfl) (Nat.le_of_ble_eq_true rfl) ?_
  refine va_putF (D := D) (ci := 4) (v := .ref q1) (ty := tyX4 0) (C := RX4) (T := TX4) (N := 4) hx hb hts x_in4 tyX4 tyX4_ok nmX4 hown hK hP hD hS 0 rfl rfl 0 (by decide) (hts _ xl_X4_9) (fun _ h9 => h9) rfl hin rfl (tyX4_ok 0 (by decide)) rfl rfl (Nat.le_of_ble_eq_true rfl) dX4_init_10 (fun H locs hP hD hS => ?_)
  have hP : va_P D vwCl (([(h0, .inr (4, [.ref q1, .null, .int 0, .int 0]))]) ++ [(q1, .inl (cI, 700, .inl (fun _ => 0)))]) H := hP
  have hD : va_D A (([(h0, .inr (4, [.ref q1, .null, .int 0, .int 0]))]) ++ [(q1, .inl (cI, 700, .inl (fun _ => 0)))]) := hD
  refine lv_aload_n hx hb dX4_init_13 rfl (lv_at hl 0 rfl) ?_
  refine lv_bipush (v := 31) hx hb dX4_init_14 (by decide) ?_
  refine c_newa (atype := .int) (a0 := (31, .inl (fun _ => 0))) hx hb (hts _ c_ac_int) rfl (fun _ h => by cases h) hK (t0 := 0) rfl hP hD hS hA (fun _ => rfl) (by decide) (by decide) (Nat.le_of_ble_eq_true rfl) (Nat.le_of_ble_eq_true rfl) (Nat.le_of_ble_eq_true rfl) dX4_init_16 (fun q2 H hP hD hS => ?_)
  have hP : va_P D vwCl ((([(h0, .inr (4, [.ref q1, .null, .int 0, .int 0]))]) ++ [(q1, .inl (cI, 700, .inl (fun _ => 0)))]) ++ [(q2, .inl (cI, 31, .inl (fun _ => 0)))]) H := hP
  have hD : va_D A ((([(h0, .inr (4, [.ref q1, .null, .int 0, .int 0]))]) ++ [(q1, .inl (cI, 700, .inl (fun _ => 0)))]) ++ [(q2, .inl (cI, 31, .inl (fun _ => 0)))]) := hD
  refine W.widen (k := 2) (n := 731) (Nat.le_of_ble_eq_true rfl) (Nat.le_of_ble_eq_true rfl) ?_
  refine va_putF (D := D) (ci := 4) (v := .ref q2) (ty := tyX4 1) (C := RX4) (T := TX4) (N := 4) hx hb hts x_in4 tyX4 tyX4_ok nmX4 hown hK hP hD hS 0 rfl rfl 1 (by decide) (hts _ xl_X4_15) (fun _ h9 => h9) rfl hin rfl (tyX4_ok 1 (by decide)) rfl rfl (Nat.le_of_ble_eq_true rfl) dX4_init_18 (fun H locs hP hD hS => ?_)
  have hP : va_P D vwCl ((([(h0, .inr (4, [.ref q1, .ref q2, .int 0, .int 0]))]) ++ [(q1, .inl (cI, 700, .inl (fun _ => 0)))]) ++ [(q2, .inl (cI, 31, .inl (fun _ => 0)))]) H := hP
  have hD : va_D A ((([(h0, .inr (4, [.ref q1, .ref q2, .int 0, .int 0]))]) ++ [(q1, .inl (cI, 700, .inl (fun _ => 0)))]) ++ [(q2, .inl (cI, 31, .inl (fun _ => 0)))]) := hD
  refine lv_aload_n hx hb dX4_init_21 rfl (lv_at hl 0 rfl) ?_
  refine lv_iconst (v := 0) hx hb dX4_init_22 (by decide) ?_
  refine va_put (D := D) (ci := 4) (v := .int 0) (ty := tyX4 3) (C := RX4) (T := TX4) (N := 4) hx hb hts x_in4 tyX4 tyX4_ok nmX4 hown hK hP hD hS 0 rfl rfl 3 (by decide) (hts _ xl_X4_18) (fun _ h9 => h9) rfl (tyX4_ok 3 (by decide)) rfl rfl (Nat.le_of_ble_eq_true rfl) dX4_init_23 (fun H locs hP hD hS => ?_)
  have hP : va_P D vwCl ((([(h0, .inr (4, [.ref q1, .ref q2, .int 0, .int 0]))]) ++ [(q1, .inl (cI, 700, .inl (fun _ => 0)))]) ++ [(q2, .inl (cI, 31, .inl (fun _ => 0)))]) H := hP
  have hD : va_D A ((([(h0, .inr (4, [.ref q1, .ref q2, .int 0, .int 0]))]) ++ [(q1, .inl (cI, 700, .inl (fun _ => 0)))]) ++ [(q2, .inl (cI, 31, .inl (fun _ => 0)))]) := hD
  refine lv_aload_n hx hb dX4_init_26 rfl (lv_at hl 0 rfl) ?_
  refine lv_iload_n hx hb dX4_init_27 rfl (lv_at hl 1 rfl) ?_
  refine va_putF (D := D) (ci := 4) (v := .int 0) (ty := tyX4 2) (C := RX4) (T := TX4) (N := 4) hx hb hts x_in4 tyX4 tyX4_ok nmX4 hown hK hP hD hS 0 rfl rfl 2 (by decide) (hts _ xl_X4_22) (fun _ h9 => h9) rfl hin rfl (tyX4_ok 2 (by decide)) rfl rfl (Nat.le_of_ble_eq_true rfl) dX4_init_28 (fun H locs hP hD hS => ?_)
  have hP : va_P D vwCl ((([(h0, .inr (4, [.ref q1, .ref q2, .int 0, .int 0]))]) ++ [(q1, .inl (cI, 700, .inl (fun _ => 0)))]) ++ [(q2, .inl (cI, 31, .inl (fun _ => 0)))]) H := hP
  have hD : va_D A ((([(h0, .inr (4, [.ref q1, .ref q2, .int 0, .int 0]))]) ++ [(q1, .inl (cI, 700, .inl (fun _ => 0)))]) ++ [(q2, .inl (cI, 31, .inl (fun _ => 0)))]) := hD
  have hP9 : va_P D vwCl (xb cI cB cZ cQ (xj (xj (fun _ => h0) 15 (fun _ => q1)) 16 (fun _ => q2)) 14 3) H := hP
  have hD9 : va_D A (xb cI cB cZ cQ (xj (xj (fun _ => h0) 15 (fun _ => q1)) 16 (fun _ => q2)) 14 3) := hD
  exact W.vret hx hb hr (fun t ht hW => ⟨⟨(xj (xj (fun _ => h0) 15 (fun _ => q1)) 16 (fun _ => q2)), rfl, trivial, rfl, by rw [ht]; exact hP9, va_K.moved hW.alike hK, hD9⟩, hS.F ht⟩) hS.2.2 dX4_init_31 hlocks
set_option maxHeartbeats 4000000 in
set_option maxRecDepth 100000 in
theorem kc_10_51 (l : Launch) (D : va_G) (cI cB cZ cQ : ClassId) (h0 : Nat) : cM l yX10_init cX10_init 1 1 0 0 D (xtys cI cB cZ cQ) [.ref h0] [(h0, .inr (10, [.int 0, .int 0, .int 0, .int 0, .int 0, .int 0, .int 0, .int 0]))] 51 h0 (fun u => xb cI cB cZ cQ u 51 1) := by
  intro sz
  refine Met.ofW (cc := cX10_init) (maxL := 1) (ret := none) (by decide) rfl ?_
  intro p e s m args below meth c s₁ B hml hv
  obtain ⟨rfl, hsz, hP, hK, hD0, hN⟩ := hv
  have hx := B.exec
  have hb := B.bytes
  have hr := B.returns
  have hts : ∀ w ∈ gT, w.before _ s = true := fun w h => atoms_spec (ws := Cond.code yX10_init cX10_init 1 none :: gT) B.pre w (List.mem_cons_of_mem _ h)
  have hown : s.vm.findClass RX10 = some m.cls := findClass_of_methodNamed B.named
  have hlocks := B.notSynchronized
  have hin : meth.name = "<init>" := (name_of_methodNamed B.named B.method).1
  subst hsz
  have hD := hD0.self (sz := s.heap.size)
  generalize hAe : va_A [(h0, .inr (10, [.int 0, .int 0, .int 0, .int 0, .int 0, .int 0, .int 0, .int 0]))] s.heap.size = A at hD ⊢
  have hA : ∀ q : Nat, s.heap.size ≤ q → A q := fun q h => by rw [← hAe]; exact Or.inr h
  have hS : va_S A s.heap s.heap [] := va_S.rf
  have hl := lv_entry ([.ref h0]) (n := 1) (Nat.le_of_ble_eq_true rfl)
  rw [lg_entry_eq]
  generalize (lg_sl ([.ref h0]) ++ List.replicate (1 - (lg_sl ([.ref h0])).length) Slot.unset).toArray = ls at hl ⊢
  have hl : lv_has ls 1 [(0, .ref h0)] := hl
  have hP : va_P D vwCl [(h0, .inr (10, [.int 0, .int 0, .int 0, .int 0, .int 0, .int 0, .int 0, .int 0]))] s.heap := hP
  refine lv_aload_n hx hb dX10_init_0 rfl (lv_at hl 0 rfl) ?_
  refine W.objInit hx hb hown (hts _ c_oi10) (hts _ c_ob.1) (hts _ c_ob.2) rfl (by rw [hml]; exact hl.1) rfl dX10_init_1 (Nat.le_of_ble_eq_true rfl) (Nat.le_of_ble_eq_true rfl) ?_
  refine W.eq (g2 := F0 m 4 ls []) rfl ?_
  refine lv_aload_n hx hb dX10_init_4 rfl (lv_at hl 0 rfl) ?_
  refine lv_iconst (v := 0) hx hb dX10_init_5 (by decide) ?_
  refine va_put (D := D) (ci := 10) (v := .int 0) (ty := tyX10 0) (C := RX10) (T := TX10) (N := 8) hx hb hts x_in10 tyX10 tyX10_ok nmX10 hown hK hP hD hS 0 rfl rfl 0 (by decide) (hts _ xl_X10_9) (fun _ h9 => h9) rfl (tyX10_ok 0 (by decide)) rfl rfl (Nat.le_of_ble_eq_true rfl) dX10_init_6 (fun H locs hP hD hS => ?_)
  have hP : va_P D vwCl ([(h0, .inr (10, [.int 0, .int 0, .int 0, .int 0, .int 0, .int 0, .int 0, .int 0]))]) H := hP
  have hD : va_D A ([(h0, .inr (10, [.int 0, .int 0, .int 0, .int 0, .int 0, .int 0, .int 0, .int 0]))]) := hD
  refine lv_aload_n hx hb dX10_init_9 rfl (lv_at hl 0 rfl) ?_
  refine lv_iconst (v := 0) hx hb dX10_init_10 (by decide) ?_
  refine va_put (D := D) (ci := 10) (v := .int 0) (ty := tyX10 1) (C := RX10) (T := TX10) (N := 8) hx hb hts x_in10 tyX10 tyX10_ok nmX10 hown hK hP hD hS 0 rfl rfl 1 (by decide) (hts _ xl_X10_15) (fun _ h9 => h9) rfl (tyX10_ok 1 (by decide)) rfl rfl (Nat.le_of_ble_eq_true rfl) dX10_init_11 (fun H locs hP hD hS => ?_)
  have hP : va_P D vwCl ([(h0, .inr (10, [.int 0, .int 0, .int 0, .int 0, .int 0, .int 0, .int 0, .int 0]))]) H := hP
  have hD : va_D A ([(h0, .inr (10, [.int 0, .int 0, .int 0, .int 0, .int 0, .int 0, .int 0, .int 0]))]) := hD
  refine lv_aload_n hx hb dX10_init_14 rfl (lv_at hl 0 rfl) ?_
  refine lv_iconst (v := 0) hx hb dX10_init_15 (by decide) ?_
  refine va_put (D := D) (ci := 10) (v := .int 0) (ty := tyX10 2) (C := RX10) (T := TX10) (N := 8) hx hb hts x_in10 tyX10 tyX10_ok nmX10 hown hK hP hD hS 0 rfl rfl 2 (by decide) (hts _ xl_X10_18) (fun _ h9 => h9) rfl (tyX10_ok 2 (by decide)) rfl rfl (Nat.le_of_ble_eq_true rfl) dX10_init_16 (fun H locs hP hD hS => ?_)
  have hP : va_P D vwCl ([(h0, .inr (10, [.int 0, .int 0, .int 0, .int 0, .int 0, .int 0, .int 0, .int 0]))]) H := hP
  have hD : va_D A ([(h0, .inr (10, [.int 0, .int 0, .int 0, .int 0, .int 0, .int 0, .int 0, .int 0]))]) := hD
  refine lv_aload_n hx hb dX10_init_19 rfl (lv_at hl 0 rfl) ?_
  refine lv_iconst (v := 0) hx hb dX10_init_20 (by decide) ?_
  refine va_put (D := D) (ci := 10) (v := .int 0) (ty := tyX10 3) (C := RX10) (T := TX10) (N := 8) hx hb hts x_in10 tyX10 tyX10_ok nmX10 hown hK hP hD hS 0 rfl rfl 3 (by decide) (hts _ xl_X10_21) (fun _ h9 => h9) rfl (tyX10_ok 3 (by decide)) rfl rfl (Nat.le_of_ble_eq_true rfl) dX10_init_21 (fun H locs hP hD hS => ?_)
  have hP : va_P D vwCl ([(h0, .inr (10, [.int 0, .int 0, .int 0, .int 0, .int 0, .int 0, .int 0, .int 0]))]) H := hP
  have hD : va_D A ([(h0, .inr (10, [.int 0, .int 0, .int 0, .int 0, .int 0, .int 0, .int 0, .int 0]))]) := hD
  refine lv_aload_n hx hb dX10_init_24 rfl (lv_at hl 0 rfl) ?_
  refine lv_iconst (v := (-1)) hx hb dX10_init_25 (by decide) ?_
  refine va_put (D := D) (ci := 10) (v := .int (-1)) (ty := tyX10 4) (C := RX10) (T := TX10) (N := 8) hx hb hts x_in10 tyX10 tyX10_ok nmX10 hown hK hP hD hS 0 rfl rfl 4 (by decide) (hts _ xl_X10_24) (fun _ h9 => h9) rfl (tyX10_ok 4 (by decide)) rfl rfl (Nat.le_of_ble_eq_true rfl) dX10_init_26 (fun H locs hP hD hS => ?_)
  have hP : va_P D vwCl ([(h0, .inr (10, [.int 0, .int 0, .int 0, .int 0, .int (-1), .int 0, .int 0, .int 0]))]) H := hP
  have hD : va_D A ([(h0, .inr (10, [.int 0, .int 0, .int 0, .int 0, .int (-1), .int 0, .int 0, .int 0]))]) := hD
  refine lv_aload_n hx hb dX10_init_29 rfl (lv_at hl 0 rfl) ?_
  refine lv_iconst (v := 0) hx hb dX10_init_30 (by decide) ?_
  refine va_put (D := D) (ci := 10) (v := .int 0) (ty := tyX10 5) (C := RX10) (T := TX10) (N := 8) hx hb hts x_in10 tyX10 tyX10_ok nmX10 hown hK hP hD hS 0 rfl rfl 5 (by decide) (hts _ xl_X10_27) (fun _ h9 => h9) rfl (tyX10_ok 5 (by decide)) rfl rfl (Nat.le_of_ble_eq_true rfl) dX10_init_31 (fun H locs hP hD hS => ?_)
  have hP : va_P D vwCl ([(h0, .inr (10, [.int 0, .int 0, .int 0, .int 0, .int (-1), .int 0, .int 0, .int 0]))]) H := hP
  have hD : va_D A ([(h0, .inr (10, [.int 0, .int 0, .int 0, .int 0, .int (-1), .int 0, .int 0, .int 0]))]) := hD
  refine lv_aload_n hx hb dX10_init_34 rfl (lv_at hl 0 rfl) ?_
  refine lv_iconst (v := 0) hx hb dX10_init_35 (by decide) ?_
  refine va_put (D := D) (ci := 10) (v := .int 0) (ty := tyX10 6) (C := RX10) (T := TX10) (N := 8) hx hb hts x_in10 tyX10 tyX10_ok nmX10 hown hK hP hD hS 0 rfl rfl 6 (by decide) (hts _ xl_X10_30) (fun _ h9 => h9) rfl (tyX10_ok 6 (by decide)) rfl rfl (Nat.le_of_ble_eq_true rfl) dX10_init_36 (fun H locs hP hD hS => ?_)
  have hP : va_P D vwCl ([(h0, .inr (10, [.int 0, .int 0, .int 0, .int 0, .int (-1), .int 0, .int 0, .int 0]))]) H := hP
  have hD : va_D A ([(h0, .inr (10, [.int 0, .int 0, .int 0, .int 0, .int (-1), .int 0, .int 0, .int 0]))]) := hD
  refine lv_aload_n hx hb dX10_init_39 rfl (lv_at hl 0 rfl) ?_
  refine lv_iconst (v := 0) hx hb dX10_init_40 (by decide) ?_
  refine va_put (D := D) (ci := 10) (v := .int 0) (ty := tyX10 7) (C := RX10) (T := TX10) (N := 8) hx hb hts x_in10 tyX10 tyX10_ok nmX10 hown hK hP hD hS 0 rfl rfl 7 (by decide) (hts _ xl_X10_33) (fun _ h9 => h9) rfl (tyX10_ok 7 (by decide)) rfl rfl (Nat.le_of_ble_eq_true rfl) dX10_init_41 (fun H locs hP hD hS => ?_)
  have hP : va_P D vwCl ([(h0, .inr (10, [.int 0, .int 0, .int 0, .int 0, .int (-1), .int 0, .int 0, .int 0]))]) H := hP
  have hD : va_D A ([(h0, .inr (10, [.int 0, .int 0, .int 0, .int 0, .int (-1), .int 0, .int 0, .int 0]))]) := hD
  refine W.widen (k := 0) (n := 0) (Nat.le_of_ble_eq_true rfl) (Nat.le_of_ble_eq_true rfl) ?_
  have hP9 : va_P D vwCl (xb cI cB cZ cQ (fun _ => h0) 51 1) H := hP
  have hD9 : va_D A (xb cI cB cZ cQ (fun _ => h0) 51 1) := hD
  exact W.vret hx hb hr (fun t ht hW => ⟨⟨(fun _ => h0), rfl, trivial, rfl, by rw [ht]; exact hP9, va_K.moved hW.alike hK, hD9⟩, hS.F ht⟩) hS.2.2 dX10_init_44 hlocks
set_option maxHeartbeats 4000000 in
set_option maxRecDepth 100000 in
theorem kc_8_2 (l : Launch) (D : va_G) (cI cB cZ cQ : ClassId) (h0 : Nat) : cM l yX8_init cX8_init 1 1 1 700 D (xtys cI cB cZ cQ) [.ref h0] [(h0, .inr (8, [.null, .int 0, .int 0, .int 0, .int 0, .int 0, .int 0]))] 2 h0 (fun u => xb cI cB cZ cQ u 2 2) := by
  intro sz
  refine Met.ofW (cc := cX8_init) (maxL := 1) (ret := none) (by decide) rfl ?_
  intro p e s m args below meth c s₁ B hml hv
  obtain ⟨rfl, hsz, hP, hK, hD0, hN⟩ := hv
  have hx := B.exec
  have hb := B.bytes
  have hr := B.returns
  have hts : ∀ w ∈ gT, w.before _ s = true := fun w h => atoms_spec (ws := Cond.code yX8_init cX8_init 1 none :: gT) B.pre w (List.mem_cons_of_mem _ h)
  have hown : s.vm.findClass RX8 = some m.cls := findClass_of_methodNamed B.named
  have hlocks := B.notSynchronized
  have hin : meth.name = "<init>" := (name_of_methodNamed B.named B.method).1
  subst hsz
  have hD := hD0.self (sz := s.heap.size)
  generalize hAe : va_A [(h0, .inr (8, [.null, .int 0, .int 0, .int 0, .int 0, .int 0, .int 0]))] s.heap.size = A at hD ⊢
  have hA : ∀ q : Nat, s.heap.size ≤ q → A q := fun q h => by rw [← hAe]; exact Or.inr h
  have hS : va_S A s.heap s.heap [] := va_S.rf
  have hl := lv_entry ([.ref h0]) (n := 1) (Nat.le_of_ble_eq_true rfl)
  rw [lg_entry_eq]
  generalize (lg_sl ([.ref h0]) ++ List.replicate (1 - (lg_sl ([.ref h0])).length) Slot.unset).toArray = ls at hl ⊢
  have hl : lv_has ls 1 [(0, .ref h0)] := hl
  have hP : va_P D vwCl [(h0, .inr (8, [.null, .int 0, .int 0, .int 0, .int 0, .int 0, .int 0]))] s.heap := hP
  refine lv_aload_n hx hb dX8_init_0 rfl (lv_at hl 0 rfl) ?_
  refine W.objInit hx hb hown (hts _ c_oi8) (hts _ c_ob.1) (hts _ c_ob.2) rfl (by rw [hml]; exact hl.1) rfl dX8_init_1 (Nat.le_of_ble_eq_true rfl) (Nat.le_of_ble_eq_true rfl) ?_
  refine W.eq (g2 := F0 m 4 ls []) rfl ?_
  refine lv_aload_n hx hb dX8_init_4 rfl (lv_at hl 0 rfl) ?_
  refine lv_sipush (v := 700) hx hb dX8_init_5 (by decide) ?_
  refine c_newa (atype := .byte) (a0 := (700, .inl (fun _ => 0))) hx hb (hts _ c_ac_byte) rfl (fun _ h => by cases h) hK (t0 := 1) rfl hP hD hS hA (fun _ => rfl) (by decide) (by decide) (Nat.le_of_ble_eq_true rfl) (Nat.le_of_ble_eq_true rfl) (Nat.le_of_ble_eq_true rfl) dX8_init_8 (fun q1 H hP hD hS => ?_)
  have hP : va_P D vwCl (([(h0, .inr (8, [.null, .int 0, .int 0, .int 0, .int 0, .int 0, .int 0]))]) ++ [(q1, .inl (cB, 700, .inl (fun _ => 0)))]) H := hP
  have hD : va_D A (([(h0, .inr (8, [.null, .int 0, .int 0, .int 0, .int 0, .int 0, .int 0]))]) ++ [(q1, .inl (cB, 700, .inl (fun _ => 0)))]) := hD
  refine W.widen (k := 1) (n := 700) (Nat.le_of_ble_eq_true rfl) (Nat.le_of_ble_eq_true rfl) ?_
  refine va_putF (D := D) (ci := 8) (v := .ref q1) (ty := tyX8 0) (C := RX8) (T := TX8) (N := 7) hx hb hts x_in8 tyX8 tyX8_ok nmX8 hown hK hP hD hS 0 rfl rfl 0 (by decide) (hts _ xl_X8_9) (fun _ h9 => h9) rfl hin rfl (tyX8_ok 0 (by decide)) rfl rfl (Nat.le_of_ble_eq_true rfl) dX8_init_10 (fun H locs hP hD hS => ?_)
  have hP : va_P D vwCl (([(h0, .inr (8, [.ref q1, .int 0, .int 0, .int 0, .int 0, .int 0, .int 0]))]) ++ [(q1, .inl (cB, 700, .inl (fun _ => 0)))]) H := hP
  have hD : va_D A (([(h0, .inr (8, [.ref q1, .int 0, .int 0, .int 0, .int 0, .int 0, .int 0]))]) ++ [(q1, .inl (cB, 700, .inl (fun _ => 0)))]) := hD
  refine lv_aload_n hx hb dX8_init_13 rfl (lv_at hl 0 rfl) ?_
  refine lv_iconst (v := 0) hx hb dX8_init_14 (by decide) ?_
  refine va_put (D := D) (ci := 8) (v := .int 0) (ty := tyX8 1) (C := RX8) (T := TX8) (N := 7) hx hb hts x_in8 tyX8 tyX8_ok nmX8 hown hK hP hD hS 0 rfl rfl 1 (by decide) (hts _ xl_X8_15) (fun _ h9 => h9) rfl (tyX8_ok 1 (by decide)) rfl rfl (Nat.le_of_ble_eq_true rfl) dX8_init_15 (fun H locs hP hD hS => ?_)
  have hP : va_P D vwCl (([(h0, .inr (8, [.ref q1, .int 0, .int 0, .int 0, .int 0, .int 0, .int 0]))]) ++ [(q1, .inl (cB, 700, .inl (fun _ => 0)))]) H := hP
  have hD : va_D A (([(h0, .inr (8, [.ref q1, .int 0, .int 0, .int 0, .int 0, .int 0, .int 0]))]) ++ [(q1, .inl (cB, 700, .inl (fun _ => 0)))]) := hD
  refine lv_aload_n hx hb dX8_init_18 rfl (lv_at hl 0 rfl) ?_
  refine lv_iconst (v := 0) hx hb dX8_init_19 (by decide) ?_
  refine va_put (D := D) (ci := 8) (v := .int 0) (ty := tyX8 2) (C := RX8) (T := TX8) (N := 7) hx hb hts x_in8 tyX8 tyX8_ok nmX8 hown hK hP hD hS 0 rfl rfl 2 (by decide) (hts _ xl_X8_19) (fun _ h9 => h9) rfl (tyX8_ok 2 (by decide)) rfl rfl (Nat.le_of_ble_eq_true rfl) dX8_init_20 (fun H locs hP hD hS => ?_)
  have hP : va_P D vwCl (([(h0, .inr (8, [.ref q1, .int 0, .int 0, .int 0, .int 0, .int 0, .int 0]))]) ++ [(q1, .inl (cB, 700, .inl (fun _ => 0)))]) H := hP
  have hD : va_D A (([(h0, .inr (8, [.ref q1, .int 0, .int 0, .int 0, .int 0, .int 0, .int 0]))]) ++ [(q1, .inl (cB, 700, .inl (fun _ => 0)))]) := hD
  refine lv_aload_n hx hb dX8_init_23 rfl (lv_at hl 0 rfl) ?_
  refine lv_iconst (v := 0) hx hb dX8_init_24 (by decide) ?_
  refine va_put (D := D) (ci := 8) (v := .int 0) (ty := tyX8 3) (C := RX8) (T := TX8) (N := 7) hx hb hts x_in8 tyX8 tyX8_ok nmX8 hown hK hP hD hS 0 rfl rfl 3 (by decide) (hts _ xl_X8_22) (fun _ h9 => h9) rfl (tyX8_ok 3 (by decide)) rfl rfl (Nat.le_of_ble_eq_true rfl) dX8_init_25 (fun H locs hP hD hS => ?_)
  have hP : va_P D vwCl (([(h0, .inr (8, [.ref q1, .int 0, .int 0, .int 0, .int 0, .int 0, .int 0]))]) ++ [(q1, .inl (cB, 700, .inl (fun _ => 0)))]) H := hP
  have hD : va_D A (([(h0, .inr (8, [.ref q1, .int 0, .int 0, .int 0, .int 0, .int 0, .int 0]))]) ++ [(q1, .inl (cB, 700, .inl (fun _ => 0)))]) := hD
  refine lv_aload_n hx hb dX8_init_28 rfl (lv_at hl 0 rfl) ?_
  refine lv_iconst (v := 0) hx hb dX8_init_29 (by decide) ?_
  refine va_put (D := D) (ci := 8) (v := .int 0) (ty := tyX8 4) (C := RX8) (T := TX8) (N := 7) hx hb hts x_in8 tyX8 tyX8_ok nmX8 hown hK hP hD hS 0 rfl rfl 4 (by decide) (hts _ xl_X8_25) (fun _ h9 => h9) rfl (tyX8_ok 4 (by decide)) rfl rfl (Nat.le_of_ble_eq_true rfl) dX8_init_30 (fun H locs hP hD hS => ?_)
  have hP : va_P D vwCl (([(h0, .inr (8, [.ref q1, .int 0, .int 0, .int 0, .int 0, .int 0, .int 0]))]) ++ [(q1, .inl (cB, 700, .inl (fun _ => 0)))]) H := hP
  have hD : va_D A (([(h0, .inr (8, [.ref q1, .int 0, .int 0, .int 0, .int 0, .int 0, .int 0]))]) ++ [(q1, .inl (cB, 700, .inl (fun _ => 0)))]) := hD
  refine lv_aload_n hx hb dX8_init_33 rfl (lv_at hl 0 rfl) ?_
  refine lv_iconst (v := 0) hx hb dX8_init_34 (by decide) ?_
  refine va_put (D := D) (ci := 8) (v := .int 0) (ty := tyX8 5) (C := RX8) (T := TX8) (N := 7) hx hb hts x_in8 tyX8 tyX8_ok nmX8 hown hK hP hD hS 0 rfl rfl 5 (by decide) (hts _ xl_X8_28) (fun _ h9 => h9) rfl (tyX8_ok 5 (by decide)) rfl rfl (Nat.le_of_ble_eq_true rfl) dX8_init_35 (fun H locs hP hD hS => ?_)
  have hP : va_P D vwCl (([(h0, .inr (8, [.ref q1, .int 0, .int 0, .int 0, .int 0, .int 0, .int 0]))]) ++ [(q1, .inl (cB, 700, .inl (fun _ => 0)))]) H := hP
  have hD : va_D A (([(h0, .inr (8, [.ref q1, .int 0, .int 0, .int 0, .int 0, .int 0, .int 0]))]) ++ [(q1, .inl (cB, 700, .inl (fun _ => 0)))]) := hD
  refine lv_aload_n hx hb dX8_init_38 rfl (lv_at hl 0 rfl) ?_
  refine lv_iconst (v := 0) hx hb dX8_init_39 (by decide) ?_
  refine va_put (D := D) (ci := 8) (v := .int 0) (ty := tyX8 6) (C := RX8) (T := TX8) (N := 7) hx hb hts x_in8 tyX8 tyX8_ok nmX8 hown hK hP hD hS 0 rfl rfl 6 (by decide) (hts _ xl_X8_31) (fun _ h9 => h9) rfl (tyX8_ok 6 (by decide)) rfl rfl (Nat.le_of_ble_eq_true rfl) dX8_init_40 (fun H locs hP hD hS => ?_)
  have hP : va_P D vwCl (([(h0, .inr (8, [.ref q1, .int 0, .int 0, .int 0, .int 0, .int 0, .int 0]))]) ++ [(q1, .inl (cB, 700, .inl (fun _ => 0)))]) H := hP
  have hD : va_D A (([(h0, .inr (8, [.ref q1, .int 0, .int 0, .int 0, .int 0, .int 0, .int 0]))]) ++ [(q1, .inl (cB, 700, .inl (fun _ => 0)))]) := hD
  have hP9 : va_P D vwCl (xb cI cB cZ cQ (xj (fun _ => h0) 3 (fun _ => q1)) 2 2) H := hP
  have hD9 : va_D A (xb cI cB cZ cQ (xj (fun _ => h0) 3 (fun _ => q1)) 2 2) := hD
  exact W.vret hx hb hr (fun t ht hW => ⟨⟨(xj (fun _ => h0) 3 (fun _ => q1)), rfl, trivial, rfl, by rw [ht]; exact hP9, va_K.moved hW.alike hK, hD9⟩, hS.F ht⟩) hS.2.2 dX8_init_43 hlocks
set_option maxHeartbeats 4000000 in
set_option maxRecDepth 100000 in
theorem kc_4_17 (l : Launch) (D : va_G) (cI cB cZ cQ : ClassId) (h0 : Nat) : cM l yX4_init cX4_init 2 1 2 731 D (xtys cI cB cZ cQ) [.ref h0, .int 1] [(h0, .inr (4, [.null, .null, .int 0, .int 0]))] 17 h0 (fun u => xb cI cB cZ cQ u 17 3) := by
  intro sz
  refine Met.ofW (cc := cX4_init) (maxL := 2) (ret := none) (by decide) rfl ?_
  intro p e s m args below meth c s₁ B hml hv
  obtain ⟨rfl, hsz, hP, hK, hD0, hN⟩ := hv
  have hx := B.exec
  have hb := B.bytes
  have hr := B.returns
  have hts : ∀ w ∈ gT, w.before _ s = true := fun w h => atoms_spec (ws := Cond.code yX4_init cX4_init 2 none :: gT) B.pre w (List.mem_cons_of_mem _ h)
  have hown : s.vm.findClass RX4 = some m.cls := findClass_of_methodNamed B.named
  have hlocks := B.notSynchronized
  have hin : meth.name = "<init>" := (name_of_methodNamed B.named B.method).1
  subst hsz
  have hD := hD0.self (sz := s.heap.size)
  generalize hAe : va_A [(h0, .inr (4, [.null, .null, .int 0, .int 0]))] s.heap.size = A at hD ⊢
  have hA : ∀ q : Nat, s.heap.size ≤ q → A q := fun q h => by rw [← hAe]; exact Or.inr h
  have hS : va_S A s.heap s.heap [] := va_S.rf
  have hl := lv_entry ([.ref h0, .int 1]) (n := 2) (Nat.le_of_ble_eq_true rfl)
  rw [lg_entry_eq]
  generalize (lg_sl ([.ref h0, .int 1]) ++ List.replicate (2 - (lg_sl ([.ref h0, .int 1])).length) Slot.unset).toArray = ls at hl ⊢
  have hl : lv_has ls 2 [(0, .ref h0), (1, .int 1)] := hl
  have hP : va_P D vwCl [(h0, .inr (4, [.null, .null, .int 0, .int 0]))] s.heap := hP
  refine lv_aload_n hx hb dX4_init_0 rfl (lv_at hl 0 rfl) ?_
  refine W.objInit hx hb hown (hts _ c_oi4) (hts _ c_ob.1) (hts _ c_ob.2) rfl (by rw [hml]; exact hl.1) rfl dX4_init_1 (Nat.le_of_ble_eq_true rfl) (Nat.le_of_ble_eq_true rfl) ?_
  refine W.eq (g2 := F0 m 4 ls []) rfl ?_
  refine lv_aload_n hx hb dX4_init_4 rfl (lv_at hl 0 rfl) ?_
  refine lv_sipush (v := 700) hx hb dX4_init_5 (by decide) ?_
  refine c_newa (atype := .int) (a0 := (700, .inl (fun _ => 0))) hx hb (hts _ c_ac_int) rfl (fun _ h => by cases h) hK (t0 := 0) rfl hP hD hS hA (fun _ => rfl) (by decide) (by decide) (Nat.le_of_ble_eq_true rfl) (Nat.le_of_ble_eq_true rfl) (Nat.le_of_ble_eq_true rfl) dX4_init_8 (fun q1 H hP hD hS => ?_)
  have hP : va_P D vwCl (([(h0, .inr (4, [.null, .null, .int 0, .int 0]))]) ++ [(q1, .inl (cI, 700, .inl (fun _ => 0)))]) H := hP
  have hD : va_D A (([(h0, .inr (4, [.null, .null, .int 0, .int 0]))]) ++ [(q1, .inl (cI, 700, .inl (fun _ => 0)))]) := hD
  refine W.widen (k := 1) (n := 700) (Nat.le_of_ble_eq_true rfl) (Nat.le_of_ble_eq_true rfl) ?_
  refine va_putF (D := D) (ci := 4) (v := .ref q1) (ty := tyX4 0) (C := RX4) (T := TX4) (N := 4) hx hb hts x_in4 tyX4 tyX4_ok nmX4 hown hK hP hD hS 0 rfl rfl 0 (by decide) (hts _ xl_X4_9) (fun _ h9 => h9) rfl hin rfl (tyX4_ok 0 (by decide)) rfl rfl (Nat.le_of_ble_eq_true rfl) dX4_init_10 (fun H locs hP hD hS => ?_)
  have hP : va_P D vwCl (([(h0, .inr (4, [.ref q1, .null, .int 0, .int 0]))]) ++ [(q1, .inl (cI, 700, .inl (fun _ => 0)))]) H := hP
  have hD : va_D A (([(h0, .inr (4, [.ref q1, .null, .int 0, .int 0]))]) ++ [(q1, .inl (cI, 700, .inl (fun _ => 0)))]) := hD
  refine lv_aload_n hx hb dX4_init_13 rfl (lv_at hl 0 rfl) ?_
  refine lv_bipush (v := 31) hx hb dX4_init_14 (by decide) ?_
  refine c_newa (atype := .int) (a0 := (31, .inl (fun _ => 0))) hx hb (hts _ c_ac_int) rfl (fun _ h => by cases h) hK (t0 := 0) rfl hP hD hS hA (fun _ => rfl) (by decide) (by decide) (Nat.le_of_ble_eq_true rfl) (Nat.le_of_ble_eq_true rfl) (Nat.le_of_ble_eq_true rfl) dX4_init_16 (fun q2 H hP hD hS => ?_)
  have hP : va_P D vwCl ((([(h0, .inr (4, [.ref q1, .null, .int 0, .int 0]))]) ++ [(q1, .inl (cI, 700, .inl (fun _ => 0)))]) ++ [(q2, .inl (cI, 31, .inl (fun _ => 0)))]) H := hP
  have hD : va_D A ((([(h0, .inr (4, [.ref q1, .null, .int 0, .int 0]))]) ++ [(q1, .inl (cI, 700, .inl (fun _ => 0)))]) ++ [(q2, .inl (cI, 31, .inl (fun _ => 0)))]) := hD
  refine W.widen (k := 2) (n := 731) (Nat.le_of_ble_eq_true rfl) (Nat.le_of_ble_eq_true rfl) ?_
  refine va_putF (D := D) (ci := 4) (v := .ref q2) (ty := tyX4 1) (C := RX4) (T := TX4) (N := 4) hx hb hts x_in4 tyX4 tyX4_ok nmX4 hown hK hP hD hS 0 rfl rfl 1 (by decide) (hts _ xl_X4_15) (fun _ h9 => h9) rfl hin rfl (tyX4_ok 1 (by decide)) rfl rfl (Nat.le_of_ble_eq_true rfl) dX4_init_18 (fun H locs hP hD hS => ?_)
  have hP : va_P D vwCl ((([(h0, .inr (4, [.ref q1, .ref q2, .int 0, .int 0]))]) ++ [(q1, .inl (cI, 700, .inl (fun _ => 0)))]) ++ [(q2, .inl (cI, 31, .inl (fun _ => 0)))]) H := hP
  have hD : va_D A ((([(h0, .inr (4, [.ref q1, .ref q2, .int 0, .int 0]))]) ++ [(q1, .inl (cI, 700, .inl (fun _ => 0)))]) ++ [(q2, .inl (cI, 31, .inl (fun _ => 0)))]) := hD
  refine lv_aload_n hx hb dX4_init_21 rfl (lv_at hl 0 rfl) ?_
  refine lv_iconst (v := 0) hx hb dX4_init_22 (by decide) ?_
  refine va_put (D := D) (ci := 4) (v := .int 0) (ty := tyX4 3) (C := RX4) (T := TX4) (N := 4) hx hb hts x_in4 tyX4 tyX4_ok nmX4 hown hK hP hD hS 0 rfl rfl 3 (by decide) (hts _ xl_X4_18) (fun _ h9 => h9) rfl (tyX4_ok 3 (by decide)) rfl rfl (Nat.le_of_ble_eq_true rfl) dX4_init_23 (fun H locs hP hD hS => ?_)
  have hP : va_P D vwCl ((([(h0, .inr (4, [.ref q1, .ref q2, .int 0, .int 0]))]) ++ [(q1, .inl (cI, 700, .inl (fun _ => 0)))]) ++ [(q2, .inl (cI, 31, .inl (fun _ => 0)))]) H := hP
  have hD : va_D A ((([(h0, .inr (4, [.ref q1, .ref q2, .int 0, .int 0]))]) ++ [(q1, .inl (cI, 700, .inl (fun _ => 0)))]) ++ [(q2, .inl (cI, 31, .inl (fun _ => 0)))]) := hD
  refine lv_aload_n hx hb dX4_init_26 rfl (lv_at hl 0 rfl) ?_
  refine lv_iload_n hx hb dX4_init_27 rfl (lv_at hl 1 rfl) ?_
  refine va_putF (D := D) (ci := 4) (v := .int 1) (ty := tyX4 2) (C := RX4) (T := TX4) (N := 4) hx hb hts x_in4 tyX4 tyX4_ok nmX4 hown hK hP hD hS 0 rfl rfl 2 (by decide) (hts _ xl_X4_22) (fun _ h9 => h9) rfl hin rfl (tyX4_ok 2 (by decide)) rfl rfl (Nat.le_of_ble_eq_true rfl) dX4_init_28 (fun H locs hP hD hS => ?_)
  have hP : va_P D vwCl ((([(h0, .inr (4, [.ref q1, .ref q2, .int 1, .int 0]))]) ++ [(q1, .inl (cI, 700, .inl (fun _ => 0)))]) ++ [(q2, .inl (cI, 31, .inl (fun _ => 0)))]) H := hP
  have hD : va_D A ((([(h0, .inr (4, [.ref q1, .ref q2, .int 1, .int 0]))]) ++ [(q1, .inl (cI, 700, .inl (fun _ => 0)))]) ++ [(q2, .inl (cI, 31, .inl (fun _ => 0)))]) := hD
  have hP9 : va_P D vwCl (xb cI cB cZ cQ (xj (xj (fun _ => h0) 18 (fun _ => q1)) 19 (fun _ => q2)) 17 3) H := hP
  have hD9 : va_D A (xb cI cB cZ cQ (xj (xj (fun _ => h0) 18 (fun _ => q1)) 19 (fun _ => q2)) 17 3) := hD
  exact W.vret hx hb hr (fun t ht hW => ⟨⟨(xj (xj (fun _ => h0) 18 (fun _ => q1)) 19 (fun _ => q2)), rfl, trivial, rfl, by rw [ht]; exact hP9, va_K.moved hW.alike hK, hD9⟩, hS.F ht⟩) hS.2.2 dX4_init_31 hlocks
set_option maxHeartbeats 4000000 in
set_option maxRecDepth 100000 in
theorem kc_9_4 (l : Launch) (D : va_G) (cI cB cZ cQ : ClassId) (h0 : Nat) : cM l yX9_init cX9_init 1 2 15 1534 D (xtys cI cB cZ cQ) [.ref h0] [(h0, .inr (9, [.int 0, .null, .null, .null, .null, .int 0, .null, .null, .null, .null, .int 0, .null, .int 0, .null, .null]))] 4 h0 (fun u => xb cI cB cZ cQ u 4 16) := by
  intro sz
  refine Met.ofW (cc := cX9_init) (maxL := 1) (ret := none) (by decide) rfl ?_
  intro p e s m args below meth c s₁ B hml hv
  obtain ⟨rfl, hsz, hP, hK, hD0, hN⟩ := hv
  have hx := B.exec
  have hb := B.bytes
  have hr := B.returns
  have hts : ∀ w ∈ gT, w.before _ s = true := fun w h => atoms_spec (ws := Cond.code yX9_init cX9_init 1 none :: gT) B.pre w (List.mem_cons_of_mem _ h)
  have hown : s.vm.findClass RX9 = some m.cls := findClass_of_methodNamed B.named
  have hlocks := B.notSynchronized
  have hin : meth.name = "<init>" := (name_of_methodNamed B.named B.method).1
  subst hsz
  have hD := hD0.self (sz := s.heap.size)
  generalize hAe : va_A [(h0, .inr (9, [.int 0, .null, .null, .null, .null, .int 0, .null, .null, .null, .null, .int 0, .null, .int 0, .null, .null]))] s.heap.size = A at hD ⊢
  have hA : ∀ q : Nat, s.heap.size ≤ q → A q := fun q h => by rw [← hAe]; exact Or.inr h
  have hS : va_S A s.heap s.heap [] := va_S.rf
  have hl := lv_entry ([.ref h0]) (n := 1) (Nat.le_of_ble_eq_true rfl)
  rw [lg_entry_eq]
  generalize (lg_sl ([.ref h0]) ++ List.replicate (1 - (lg_sl ([.ref h0])).length) Slot.unset).toArray = ls at hl ⊢
  have hl : lv_has ls 1 [(0, .ref h0)] := hl
  have hP : va_P D vwCl [(h0, .inr (9, [.int 0, .null, .null, .null, .null, .int 0, .null, .null, .null, .null, .int 0, .null, .int 0, .null, .null]))] s.heap := hP
  refine lv_aload_n hx hb dX9_init_0 rfl (lv_at hl 0 rfl) ?_
  refine W.objInit hx hb hown (hts _ c_oi9) (hts _ c_ob.1) (hts _ c_ob.2) rfl (by rw [hml]; exact hl.1) rfl dX9_init_1 (Nat.le_of_ble_eq_true rfl) (Nat.le_of_ble_eq_true rfl) ?_
  refine W.eq (g2 := F0 m 4 ls []) rfl ?_
  refine lv_aload_n hx hb dX9_init_4 rfl (lv_at hl 0 rfl) ?_
  refine lv_iconst (v := 0) hx hb dX9_init_5 (by decide) ?_
  refine va_put (D := D) (ci := 9) (v := .int 0) (ty := tyX9 0) (C := RX9) (T := TX9) (N := 15) hx hb hts x_in9 tyX9 tyX9_ok nmX9 hown hK hP hD hS 0 rfl rfl 0 (by decide) (hts _ xl_X9_9) (fun _ h9 => h9) rfl (tyX9_ok 0 (by decide)) rfl rfl (Nat.le_of_ble_eq_true rfl) dX9_init_6 (fun H locs hP hD hS => ?_)
  have hP : va_P D vwCl ([(h0, .inr (9, [.int 0, .null, .null, .null, .null, .int 0, .null, .null, .null, .null, .int 0, .null, .int 0, .null, .null]))]) H := hP
  have hD : va_D A ([(h0, .inr (9, [.int 0, .null, .null, .null, .null, .int 0, .null, .null, .null, .null, .int 0, .null, .int 0, .null, .null]))]) := hD
  refine lv_aload_n hx hb dX9_init_9 rfl (lv_at hl 0 rfl) ?_
  refine lv_bipush (v := 8) hx hb dX9_init_10 (by decide) ?_
  refine c_newa (atype := .int) (a0 := (8, .inl (fun _ => 0))) hx hb (hts _ c_ac_int) rfl (fun _ h => by cases h) hK (t0 := 0) rfl hP hD hS hA (fun _ => rfl) (by decide) (by decide) (Nat.le_of_ble_eq_true rfl) (Nat.le_of_ble_eq_true rfl) (Nat.le_of_ble_eq_true rfl) dX9_init_12 (fun q1 H hP hD hS => ?_)
  have hP : va_P D vwCl (([(h0, .inr (9, [.int 0, .null, .null, .null, .null, .int 0, .null, .null, .null, .null, .int 0, .null, .int 0, .null, .null]))]) ++ [(q1, .inl (cI, 8, .inl (fun _ => 0)))]) H := hP
  have hD : va_D A (([(h0, .inr (9, [.int 0, .null, .null, .null, .null, .int 0, .null, .null, .null, .null, .int 0, .null, .int 0, .null, .null]))]) ++ [(q1, .inl (cI, 8, .inl (fun _ => 0)))]) := hD
  refine W.widen (k := 1) (n := 8) (Nat.le_of_ble_eq_true rfl) (Nat.le_of_ble_eq_true rfl) ?_
  refine va_putF (D := D) (ci := 9) (v := .ref q1) (ty := tyX9 1) (C := RX9) (T := TX9) (N := 15) hx hb hts x_in9 tyX9 tyX9_ok nmX9 hown hK hP hD hS 0 rfl rfl 1 (by decide) (hts _ xl_X9_15) (fun _ h9 => h9) rfl hin rfl (tyX9_ok 1 (by decide)) rfl rfl (Nat.le_of_ble_eq_true rfl) dX9_init_14 (fun H locs hP hD hS => ?_)
  have hP : va_P D vwCl (([(h0, .inr (9, [.int 0, .ref q1, .null, .null, .null, .int 0, .null, .null, .null, .null, .int 0, .null, .int 0, .null, .null]))]) ++ [(q1, .inl (cI, 8, .inl (fun _ => 0)))]) H := hP
  have hD : va_D A (([(h0, .inr (9, [.int 0, .ref q1, .null, .null, .null, .int 0, .null, .null, .null, .null, .int 0, .null, .int 0, .null, .null]))]) ++ [(q1, .inl (cI, 8, .inl (fun _ => 0)))]) := hD
  refine lv_aload_n hx hb dX9_init_17 rfl (lv_at hl 0 rfl) ?_
  refine lv_bipush (v := 8) hx hb dX9_init_18 (by decide) ?_
  refine c_newa (atype := .int) (a0 := (8, .inl (fun _ => 0))) hx hb (hts _ c_ac_int) rfl (fun _ h => by cases h) hK (t0 := 0) rfl hP hD hS hA (fun _ => rfl) (by decide) (by decide) (Nat.le_of_ble_eq_true rfl) (Nat.le_of_ble_eq_true rfl) (Nat.le_of_ble_eq_true rfl) dX9_init_20 (fun q2 H hP hD hS => ?_)
  have hP : va_P D vwCl ((([(h0, .inr (9, [.int 0, .ref q1, .null, .null, .null, .int 0, .null, .null, .null, .null, .int 0, .null, .int 0, .null, .null]))]) ++ [(q1, .inl (cI, 8, .inl (fun _ => 0)))]) ++ [(q2, .inl (cI, 8, .inl (fun _ => 0)))]) H := hP
  have hD : va_D A ((([(h0, .inr (9, [.int 0, .ref q1, .null, .null, .null, .int 0, .null, .null, .null, .null, .int 0, .null, .int 0, .null, .null]))]) ++ [(q1, .inl (cI, 8, .inl (fun _ => 0)))]) ++ [(q2, .inl (cI, 8, .inl (fun _ => 0)))]) := hD
  refine W.widen (k := 2) (n := 16) (Nat.le_of_ble_eq_true rfl) (Nat.le_of_ble_eq_true rfl) ?_
  refine va_putF (D := D) (ci := 9) (v := .ref q2) (ty := tyX9 2) (C := RX9) (T := TX9) (N := 15) hx hb hts x_in9 tyX9 tyX9_ok nmX9 hown hK hP hD hS 0 rfl rfl 2 (by decide) (hts _ xl_X9_19) (fun _ h9 => h9) rfl hin rfl (tyX9_ok 2 (by decide)) rfl rfl (Nat.le_of_ble_eq_true rfl) dX9_init_22 (fun H locs hP hD hS => ?_)
  have hP : va_P D vwCl ((([(h0, .inr (9, [.int 0, .ref q1, .ref q2, .null, .null, .int 0, .null, .null, .null, .null, .int 0, .null, .int 0, .null, .null]))]) ++ [(q1, .inl (cI, 8, .inl (fun _ => 0)))]) ++ [(q2, .inl (cI, 8, .inl (fun _ => 0)))]) H := hP
  have hD : va_D A ((([(h0, .inr (9, [.int 0, .ref q1, .ref q2, .null, .null, .int 0, .null, .null, .null, .null, .int 0, .null, .int 0, .null, .null]))]) ++ [(q1, .inl (cI, 8, .inl (fun _ => 0)))]) ++ [(q2, .inl (cI, 8, .inl (fun _ => 0)))]) := hD
  refine lv_aload_n hx hb dX9_init_25 rfl (lv_at hl 0 rfl) ?_
  refine lv_bipush (v := 8) hx hb dX9_init_26 (by decide) ?_
  refine c_newa (atype := .int) (a0 := (8, .inl (fun _ => 0))) hx hb (hts _ c_ac_int) rfl (fun _ h => by cases h) hK (t0 := 0) rfl hP hD hS hA (fun _ => rfl) (by decide) (by decide) (Nat.le_of_ble_eq_true rfl) (Nat.le_of_ble_eq_true rfl) (Nat.le_of_ble_eq_true rfl) dX9_init_28 (fun q3 H hP hD hS => ?_)
  have hP : va_P D vwCl (((([(h0, .inr (9, [.int 0, .ref q1, .ref q2, .null, .null, .int 0, .null, .null, .null, .null, .int 0, .null, .int 0, .null, .null]))]) ++ [(q1, .inl (cI, 8, .inl (fun _ => 0)))]) ++ [(q2, .inl (cI, 8, .inl (fun _ => 0)))]) ++ [(q3, .inl (cI, 8, .inl (fun _ => 0)))]) H := hP
  have hD : va_D A (((([(h0, .inr (9, [.int 0, .ref q1, .ref q2, .null, .null, .int 0, .null, .null, .null, .null, .int 0, .null, .int 0, .null, .null]))]) ++ [(q1, .inl (cI, 8, .inl (fun _ => 0)))]) ++ [(q2, .inl (cI, 8, .inl (fun _ => 0)))]) ++ [(q3, .inl (cI, 8, .inl (fun _ => 0)))]) := hD
  refine W.widen (k := 3) (n := 24) (Nat.le_of_ble_eq_true rfl) (Nat.le_of_ble_eq_true rfl) ?_
  refine va_putF (D := D) (ci := 9) (v := .ref q3) (ty := tyX9 3) (C := RX9) (T := TX9) (N := 15) hx hb hts x_in9 tyX9 tyX9_ok nmX9 hown hK hP hD hS 0 rfl rfl 3 (by decide) (hts _ xl_X9_22) (fun _ h9 => h9) rfl hin rfl (tyX9_ok 3 (by decide)) rfl rfl (Nat.le_of_ble_eq_true rfl) dX9_init_30 (fun H locs hP hD hS => ?_)
  have hP : va_P D vwCl (((([(h0, .inr (9, [.int 0, .ref q1, .ref q2, .ref q3, .null, .int 0, .null, .null, .null, .null, .int 0, .null, .int 0, .null, .null]))]) ++ [(q1, .inl (cI, 8, .inl (fun _ => 0)))]) ++ [(q2, .inl (cI, 8, .inl (fun _ => 0)))]) ++ [(q3, .inl (cI, 8, .inl (fun _ => 0)))]) H := hP
  have hD : va_D A (((([(h0, .inr (9, [.int 0, .ref q1, .ref q2, .ref q3, .null, .int 0, .null, .null, .null, .null, .int 0, .null, .int 0, .null, .null]))]) ++ [(q1, .inl (cI, 8, .inl (fun _ => 0)))]) ++ [(q2, .inl (cI, 8, .inl (fun _ => 0)))]) ++ [(q3, .inl (cI, 8, .inl (fun _ => 0)))]) := hD
  refine lv_aload_n hx hb dX9_init_33 rfl (lv_at hl 0 rfl) ?_
  refine lv_bipush (v := 8) hx hb dX9_init_34 (by decide) ?_
  refine c_newa (atype := .boolean) (a0 := (8, .inl (fun _ => 0))) hx hb (hts _ c_ac_boolean) rfl (fun _ h => by cases h) hK (t0 := 2) rfl hP hD hS hA (fun _ => rfl) (by decide) (by decide) (Nat.le_of_ble_eq_true rfl) (Nat.le_of_ble_eq_true rfl) (Nat.le_of_ble_eq_true rfl) dX9_init_36 (fun q4 H hP hD hS => ?_)
  have hP : va_P D vwCl ((((([(h0, .inr (9, [.int 0, .ref q1, .ref q2, .ref q3, .null, .int 0, .null, .null, .null, .null, .int 0, .null, .int 0, .null, .null]))]) ++ [(q1, .inl (cI, 8, .inl (fun _ => 0)))]) ++ [(q2, .inl (cI, 8, .inl (fun _ => 0)))]) ++ [(q3, .inl (cI, 8, .inl (fun _ => 0)))]) ++ [(q4, .inl (cZ, 8, .inl (fun _ => 0)))]) H := hP
  have hD : va_D A ((((([(h0, .inr (9, [.int 0, .ref q1, .ref q2, .ref q3, .null, .int 0, .null, .null, .null, .null, .int 0, .null, .int 0, .null, .null]))]) ++ [(q1, .inl (cI, 8, .inl (fun _ => 0)))]) ++ [(q2, .inl (cI, 8, .inl (fun _ => 0)))]) ++ [(q3, .inl (cI, 8, .inl (fun _ => 0)))]) ++ [(q4, .inl (cZ, 8, .inl (fun _ => 0)))]) := hD
  refine W.widen (k := 4) (n := 32) (Nat.le_of_ble_eq_true rfl) (Nat.le_of_ble_eq_true rfl) ?_
  refine va_putF (D := D) (ci := 9) (v := .ref q4) (ty := tyX9 4) (C := RX9) (T := TX9) (N := 15) hx hb hts x_in9 tyX9 tyX9_ok nmX9 hown hK hP hD hS 0 rfl rfl 4 (by decide) (hts _ xl_X9_25) (fun _ h9 => h9) rfl hin rfl (tyX9_ok 4 (by decide)) rfl rfl (Nat.le_of_ble_eq_true rfl) dX9_init_38 (fun H locs hP hD hS => ?_)
  have hP : va_P D vwCl ((((([(h0, .inr (9, [.int 0, .ref q1, .ref q2, .ref q3, .ref q4, .int 0, .null, .null, .null, .null, .int 0, .null, .int 0, .null, .null]))]) ++ [(q1, .inl (cI, 8, .inl (fun _ => 0)))]) ++ [(q2, .inl (cI, 8, .inl (fun _ => 0)))]) ++ [(q3, .inl (cI, 8, .inl (fun _ => 0)))]) ++ [(q4, .inl (cZ, 8, .inl (fun _ => 0)))]) H := hP
  have hD : va_D A ((((([(h0, .inr (9, [.int 0, .ref q1, .ref q2, .ref q3, .ref q4, .int 0, .null, .null, .null, .null, .int 0, .null, .int 0, .null, .null]))]) ++ [(q1, .inl (cI, 8, .inl (fun _ => 0)))]) ++ [(q2, .inl (cI, 8, .inl (fun _ => 0)))]) ++ [(q3, .inl (cI, 8, .inl (fun _ => 0)))]) ++ [(q4, .inl (cZ, 8, .inl (fun _ => 0)))]) := hD
  refine lv_aload_n hx hb dX9_init_41 rfl (lv_at hl 0 rfl) ?_
  refine lv_iconst (v := 0) hx hb dX9_init_42 (by decide) ?_
  refine va_put (D := D) (ci := 9) (v := .int 0) (ty := tyX9 5) (C := RX9) (T := TX9) (N := 15) hx hb hts x_in9 tyX9 tyX9_ok nmX9 hown hK hP hD hS 0 rfl rfl 5 (by decide) (hts _ xl_X9_29) (fun _ h9 => h9) rfl (tyX9_ok 5 (by decide)) rfl rfl (Nat.le_of_ble_eq_true rfl) dX9_init_43 (fun H locs hP hD hS => ?_)
  have hP : va_P D vwCl ((((([(h0, .inr (9, [.int 0, .ref q1, .ref q2, .ref q3, .ref q4, .int 0, .null, .null, .null, .null, .int 0, .null, .int 0, .null, .null]))]) ++ [(q1, .inl (cI, 8, .inl (fun _ => 0)))]) ++ [(q2, .inl (cI, 8, .inl (fun _ => 0)))]) ++ [(q3, .inl (cI, 8, .inl (fun _ => 0)))]) ++ [(q4, .inl (cZ, 8, .inl (fun _ => 0)))]) H := hP
  have hD : va_D A ((((([(h0, .inr (9, [.int 0, .ref q1, .ref q2, .ref q3, .ref q4, .int 0, .null, .null, .null, .null, .int 0, .null, .int 0, .null, .null]))]) ++ [(q1, .inl (cI, 8, .inl (fun _ => 0)))]) ++ [(q2, .inl (cI, 8, .inl (fun _ => 0)))]) ++ [(q3, .inl (cI, 8, .inl (fun _ => 0)))]) ++ [(q4, .inl (cZ, 8, .inl (fun _ => 0)))]) := hD
  refine lv_aload_n hx hb dX9_init_46 rfl (lv_at hl 0 rfl) ?_
  refine lv_bipush (v := 6) hx hb dX9_init_47 (by decide) ?_
  refine c_newa (atype := .int) (a0 := (6, .inl (fun _ => 0))) hx hb (hts _ c_ac_int) rfl (fun _ h => by cases h) hK (t0 := 0) rfl hP hD hS hA (fun _ => rfl) (by decide) (by decide) (Nat.le_of_ble_eq_true rfl) (Nat.le_of_ble_eq_true rfl) (Nat.le_of_ble_eq_true rfl) dX9_init_49 (fun q5 H hP hD hS => ?_)
  have hP : va_P D vwCl (((((([(h0, .inr (9, [.int 0, .ref q1, .ref q2, .ref q3, .ref q4, .int 0, .null, .null, .null, .null, .int 0, .null, .int 0, .null, .null]))]) ++ [(q1, .inl (cI, 8, .inl (fun _ => 0)))]) ++ [(q2, .inl (cI, 8, .inl (fun _ => 0)))]) ++ [(q3, .inl (cI, 8, .inl (fun _ => 0)))]) ++ [(q4, .inl (cZ, 8, .inl (fun _ => 0)))]) ++ [(q5, .inl (cI, 6, .inl (fun _ => 0)))]) H := hP
  have hD : va_D A (((((([(h0, .inr (9, [.int 0, .ref q1, .ref q2, .ref q3, .ref q4, .int 0, .null, .null, .null, .null, .int 0, .null, .int 0, .null, .null]))]) ++ [(q1, .inl (cI, 8, .inl (fun _ => 0)))]) ++ [(q2, .inl (cI, 8, .inl (fun _ => 0)))]) ++ [(q3, .inl (cI, 8, .inl (fun _ => 0)))]) ++ [(q4, .inl (cZ, 8, .inl (fun _ => 0)))]) ++ [(q5, .inl (cI, 6, .inl (fun _ => 0)))]) := hD
  refine W.widen (k := 5) (n := 38) (Nat.le_of_ble_eq_true rfl) (Nat.le_of_ble_eq_true rfl) ?_
  refine va_putF (D := D) (ci := 9) (v := .ref q5) (ty := tyX9 6) (C := RX9) (T := TX9) (N := 15) hx hb hts x_in9 tyX9 tyX9_ok nmX9 hown hK hP hD hS 0 rfl rfl 6 (by decide) (hts _ xl_X9_32) (fun _ h9 => h9) rfl hin rfl (tyX9_ok 6 (by decide)) rfl rfl (Nat.le_of_ble_eq_true rfl) dX9_init_51 (fun H locs hP hD hS => ?_)
  have hP : va_P D vwCl (((((([(h0, .inr (9, [.int 0, .ref q1, .ref q2, .ref q3, .ref q4, .int 0, .ref q5, .null, .null, .null, .int 0, .null, .int 0, .null, .null]))]) ++ [(q1, .inl (cI, 8, .inl (fun _ => 0)))]) ++ [(q2, .inl (cI, 8, .inl (fun _ => 0)))]) ++ [(q3, .inl (cI, 8, .inl (fun _ => 0)))]) ++ [(q4, .inl (cZ, 8, .inl (fun _ => 0)))]) ++ [(q5, .inl (cI, 6, .inl (fun _ => 0)))]) H := hP
  have hD : va_D A (((((([(h0, .inr (9, [.int 0, .ref q1, .ref q2, .ref q3, .ref q4, .int 0, .ref q5, .null, .null, .null, .int 0, .null, .int 0, .null, .null]))]) ++ [(q1, .inl (cI, 8, .inl (fun _ => 0)))]) ++ [(q2, .inl (cI, 8, .inl (fun _ => 0)))]) ++ [(q3, .inl (cI, 8, .inl (fun _ => 0)))]) ++ [(q4, .inl (cZ, 8, .inl (fun _ => 0)))]) ++ [(q5, .inl (cI, 6, .inl (fun _ => 0)))]) := hD
  refine lv_aload_n hx hb dX9_init_54 rfl (lv_at hl 0 rfl) ?_
  refine lv_bipush (v := 6) hx hb dX9_init_55 (by decide) ?_
  refine c_newa (atype := .int) (a0 := (6, .inl (fun _ => 0))) hx hb (hts _ c_ac_int) rfl (fun _ h => by cases h) hK (t0 := 0) rfl hP hD hS hA (fun _ => rfl) (by decide) (by decide) (Nat.le_of_ble_eq_true rfl) (Nat.le_of_ble_eq_true rfl) (Nat.le_of_ble_eq_true rfl) dX9_init_57 (fun q6 H hP hD hS => ?_)
  have hP : va_P D vwCl ((((((([(h0, .inr (9, [.int 0, .ref q1, .ref q2, .ref q3, .ref q4, .int 0, .ref q5, .null, .null, .null, .int 0, .null, .int 0, .null, .null]))]) ++ [(q1, .inl (cI, 8, .inl (fun _ => 0)))]) ++ [(q2, .inl (cI, 8, .inl (fun _ => 0)))]) ++ [(q3, .inl (cI, 8, .inl (fun _ => 0)))]) ++ [(q4, .inl (cZ, 8, .inl (fun _ => 0)))]) ++ [(q5, .inl (cI, 6, .inl (fun _ => 0)))]) ++ [(q6, .inl (cI, 6, .inl (fun _ => 0)))]) H := hP
  have hD : va_D A ((((((([(h0, .inr (9, [.int 0, .ref q1, .ref q2, .ref q3, .ref q4, .int 0, .ref q5, .null, .null, .null, .int 0, .null, .int 0, .null, .null]))]) ++ [(q1, .inl (cI, 8, .inl (fun _ => 0)))]) ++ [(q2, .inl (cI, 8, .inl (fun _ => 0)))]) ++ [(q3, .inl (cI, 8, .inl (fun _ => 0)))]) ++ [(q4, .inl (cZ, 8, .inl (fun _ => 0)))]) ++ [(q5, .inl (cI, 6, .inl (fun _ => 0)))]) ++ [(q6, .inl (cI, 6, .inl (fun _ => 0)))]) := hD
  refine W.widen (k := 6) (n := 44) (Nat.le_of_ble_eq_true rfl) (Nat.le_of_ble_eq_true rfl) ?_
  refine va_putF (D := D) (ci := 9) (v := .ref q6) (ty := tyX9 7) (C := RX9) (T := TX9) (N := 15) hx hb hts x_in9 tyX9 tyX9_ok nmX9 hown hK hP hD hS 0 rfl rfl 7 (by decide) (hts _ xl_X9_35) (fun _ h9 => h9) rfl hin rfl (tyX9_ok 7 (by decide)) rfl rfl (Nat.le_of_ble_eq_true rfl) dX9_init_59 (fun H locs hP hD hS => ?_)
  have hP : va_P D vwCl ((((((([(h0, .inr (9, [.int 0, .ref q1, .ref q2, .ref q3, .ref q4, .int 0, .ref q5, .ref q6, .null, .null, .int 0, .null, .int 0, .null, .null]))]) ++ [(q1, .inl (cI, 8, .inl (fun _ => 0)))]) ++ [(q2, .inl (cI, 8, .inl (fun _ => 0)))]) ++ [(q3, .inl (cI, 8, .inl (fun _ => 0)))]) ++ [(q4, .inl (cZ, 8, .inl (fun _ => 0)))]) ++ [(q5, .inl (cI, 6, .inl (fun _ => 0)))]) ++ [(q6, .inl (cI, 6, .inl (fun _ => 0)))]) H := hP
  have hD : va_D A ((((((([(h0, .inr (9, [.int 0, .ref q1, .ref q2, .ref q3, .ref q4, .int 0, .ref q5, .ref q6, .null, .null, .int 0, .null, .int 0, .null, .null]))]) ++ [(q1, .inl (cI, 8, .inl (fun _ => 0)))]) ++ [(q2, .inl (cI, 8, .inl (fun _ => 0)))]) ++ [(q3, .inl (cI, 8, .inl (fun _ => 0)))]) ++ [(q4, .inl (cZ, 8, .inl (fun _ => 0)))]) ++ [(q5, .inl (cI, 6, .inl (fun _ => 0)))]) ++ [(q6, .inl (cI, 6, .inl (fun _ => 0)))]) := hD
  refine lv_aload_n hx hb dX9_init_62 rfl (lv_at hl 0 rfl) ?_
  refine lv_bipush (v := 6) hx hb dX9_init_63 (by decide) ?_
  refine c_newa (atype := .int) (a0 := (6, .inl (fun _ => 0))) hx hb (hts _ c_ac_int) rfl (fun _ h => by cases h) hK (t0 := 0) rfl hP hD hS hA (fun _ => rfl) (by decide) (by decide) (Nat.le_of_ble_eq_true rfl) (Nat.le_of_ble_eq_true rfl) (Nat.le_of_ble_eq_true rfl) dX9_init_65 (fun q7 H hP hD hS => ?_)
  have hP : va_P D vwCl (((((((([(h0, .inr (9, [.int 0, .ref q1, .ref q2, .ref q3, .ref q4, .int 0, .ref q5, .ref q6, .null, .null, .int 0, .null, .int 0, .null, .null]))]) ++ [(q1, .inl (cI, 8, .inl (fun _ => 0)))]) ++ [(q2, .inl (cI, 8, .inl (fun _ => 0)))]) ++ [(q3, .inl (cI, 8, .inl (fun _ => 0)))]) ++ [(q4, .inl (cZ, 8, .inl (fun _ => 0)))]) ++ [(q5, .inl (cI, 6, .inl (fun _ => 0)))]) ++ [(q6, .inl (cI, 6, .inl (fun _ => 0)))]) ++ [(q7, .inl (cI, 6, .inl (fun _ => 0)))]) H := hP
  have hD : va_D A (((((((([(h0, .inr (9, [.int 0, .ref q1, .ref q2, .ref q3, .ref q4, .int 0, .ref q5, .ref q6, .null, .null, .int 0, .null, .int 0, .null, .null]))]) ++ [(q1, .inl (cI, 8, .inl (fun _ => 0)))]) ++ [(q2, .inl (cI, 8, .inl (fun _ => 0)))]) ++ [(q3, .inl (cI, 8, .inl (fun _ => 0)))]) ++ [(q4, .inl (cZ, 8, .inl (fun _ => 0)))]) ++ [(q5, .inl (cI, 6, .inl (fun _ => 0)))]) ++ [(q6, .inl (cI, 6, .inl (fun _ => 0)))]) ++ [(q7, .inl (cI, 6, .inl (fun _ => 0)))]) := hD
  refine W.widen (k := 7) (n := 50) (Nat.le_of_ble_eq_true rfl) (Nat.le_of_ble_eq_true rfl) ?_
  refine va_putF (D := D) (ci := 9) (v := .ref q7) (ty := tyX9 8) (C := RX9) (T := TX9) (N := 15) hx hb hts x_in9 tyX9 tyX9_ok nmX9 hown hK hP hD hS 0 rfl rfl 8 (by decide) (hts _ xl_X9_38) (fun _ h9 => h9) rfl hin rfl (tyX9_ok 8 (by decide)) rfl rfl (Nat.le_of_ble_eq_true rfl) dX9_init_67 (fun H locs hP hD hS => ?_)
  have hP : va_P D vwCl (((((((([(h0, .inr (9, [.int 0, .ref q1, .ref q2, .ref q3, .ref q4, .int 0, .ref q5, .ref q6, .ref q7, .null, .int 0, .null, .int 0, .null, .null]))]) ++ [(q1, .inl (cI, 8, .inl (fun _ => 0)))]) ++ [(q2, .inl (cI, 8, .inl (fun _ => 0)))]) ++ [(q3, .inl (cI, 8, .inl (fun _ => 0)))]) ++ [(q4, .inl (cZ, 8, .inl (fun _ => 0)))]) ++ [(q5, .inl (cI, 6, .inl (fun _ => 0)))]) ++ [(q6, .inl (cI, 6, .inl (fun _ => 0)))]) ++ [(q7, .inl (cI, 6, .inl (fun _ => 0)))]) H := hP
  have hD : va_D A (((((((([(h0, .inr (9, [.int 0, .ref q1, .ref q2, .ref q3, .ref q4, .int 0, .ref q5, .ref q6, .ref q7, .null, .int 0, .null, .int 0, .null, .null]))]) ++ [(q1, .inl (cI, 8, .inl (fun _ => 0)))]) ++ [(q2, .inl (cI, 8, .inl (fun _ => 0)))]) ++ [(q3, .inl (cI, 8, .inl (fun _ => 0)))]) ++ [(q4, .inl (cZ, 8, .inl (fun _ => 0)))]) ++ [(q5, .inl (cI, 6, .inl (fun _ => 0)))]) ++ [(q6, .inl (cI, 6, .inl (fun _ => 0)))]) ++ [(q7, .inl (cI, 6, .inl (fun _ => 0)))]) := hD
  refine lv_aload_n hx hb dX9_init_70 rfl (lv_at hl 0 rfl) ?_
  refine lv_bipush (v := 6) hx hb dX9_init_71 (by decide) ?_
  refine c_newa (atype := .int) (a0 := (6, .inl (fun _ => 0))) hx hb (hts _ c_ac_int) rfl (fun _ h => by cases h) hK (t0 := 0) rfl hP hD hS hA (fun _ => rfl) (by decide) (by decide) (Nat.le_of_ble_eq_true rfl) (Nat.le_of_ble_eq_true rfl) (Nat.le_of_ble_eq_true rfl) dX9_init_73 (fun q8 H hP hD hS => ?_)
  have hP : va_P D vwCl ((((((((([(h0, .inr (9, [.int 0, .ref q1, .ref q2, .ref q3, .ref q4, .int 0, .ref q5, .ref q6, .ref q7, .null, .int 0, .null, .int 0, .null, .null]))]) ++ [(q1, .inl (cI, 8, .inl (fun _ => 0)))]) ++ [(q2, .inl (cI, 8, .inl (fun _ => 0)))]) ++ [(q3, .inl (cI, 8, .inl (fun _ => 0)))]) ++ [(q4, .inl (cZ, 8, .inl (fun _ => 0)))]) ++ [(q5, .inl (cI, 6, .inl (fun _ => 0)))]) ++ [(q6, .inl (cI, 6, .inl (fun _ => 0)))]) ++ [(q7, .inl (cI, 6, .inl (fun _ => 0)))]) ++ [(q8, .inl (cI, 6, .inl (fun _ => 0)))]) H := hP
  have hD : va_D A ((((((((([(h0, .inr (9, [.int 0, .ref q1, .ref q2, .ref q3, .ref q4, .int 0, .ref q5, .ref q6, .ref q7, .null, .int 0, .null, .int 0, .null, .null]))]) ++ [(q1, .inl (cI, 8, .inl (fun _ => 0)))]) ++ [(q2, .inl (cI, 8, .inl (fun _ => 0)))]) ++ [(q3, .inl (cI, 8, .inl (fun _ => 0)))]) ++ [(q4, .inl (cZ, 8, .inl (fun _ => 0)))]) ++ [(q5, .inl (cI, 6, .inl (fun _ => 0)))]) ++ [(q6, .inl (cI, 6, .inl (fun _ => 0)))]) ++ [(q7, .inl (cI, 6, .inl (fun _ => 0)))]) ++ [(q8, .inl (cI, 6, .inl (fun _ => 0)))]) := hD
  refine W.widen (k := 8) (n := 56) (Nat.le_of_ble_eq_true rfl) (Nat.le_of_ble_eq_true rfl) ?_
  refine va_putF (D := D) (ci := 9) (v := .ref q8) (ty := tyX9 9) (C := RX9) (T := TX9) (N := 15) hx hb hts x_in9 tyX9 tyX9_ok nmX9 hown hK hP hD hS 0 rfl rfl 9 (by decide) (hts _ xl_X9_41) (fun _ h9 => h9) rfl hin rfl (tyX9_ok 9 (by decide)) rfl rfl (Nat.le_of_ble_eq_true rfl) dX9_init_75 (fun H locs hP hD hS => ?_)
  have hP : va_P D vwCl ((((((((([(h0, .inr (9, [.int 0, .ref q1, .ref q2, .ref q3, .ref q4, .int 0, .ref q5, .ref q6, .ref q7, .ref q8, .int 0, .null, .int 0, .null, .null]))]) ++ [(q1, .inl (cI, 8, .inl (fun _ => 0)))]) ++ [(q2, .inl (cI, 8, .inl (fun _ => 0)))]) ++ [(q3, .inl (cI, 8, .inl (fun _ => 0)))]) ++ [(q4, .inl (cZ, 8, .inl (fun _ => 0)))]) ++ [(q5, .inl (cI, 6, .inl (fun _ => 0)))]) ++ [(q6, .inl (cI, 6, .inl (fun _ => 0)))]) ++ [(q7, .inl (cI, 6, .inl (fun _ => 0)))]) ++ [(q8, .inl (cI, 6, .inl (fun _ => 0)))]) H := hP
  have hD : va_D A ((((((((([(h0, .inr (9, [.int 0, .ref q1, .ref q2, .ref q3, .ref q4, .int 0, .ref q5, .ref q6, .ref q7, .ref q8, .int 0, .null, .int 0, .null, .null]))]) ++ [(q1, .inl (cI, 8, .inl (fun _ => 0)))]) ++ [(q2, .inl (cI, 8, .inl (fun _ => 0)))]) ++ [(q3, .inl (cI, 8, .inl (fun _ => 0)))]) ++ [(q4, .inl (cZ, 8, .inl (fun _ => 0)))]) ++ [(q5, .inl (cI, 6, .inl (fun _ => 0)))]) ++ [(q6, .inl (cI, 6, .inl (fun _ => 0)))]) ++ [(q7, .inl (cI, 6, .inl (fun _ => 0)))]) ++ [(q8, .inl (cI, 6, .inl (fun _ => 0)))]) := hD
  refine lv_aload_n hx hb dX9_init_78 rfl (lv_at hl 0 rfl) ?_
  refine lv_iconst (v := 0) hx hb dX9_init_79 (by decide) ?_
  refine va_put (D := D) (ci := 9) (v := .int 0) (ty := tyX9 10) (C := RX9) (T := TX9) (N := 15) hx hb hts x_in9 tyX9 tyX9_ok nmX9 hown hK hP hD hS 0 rfl rfl 10 (by decide) (hts _ xl_X9_44) (fun _ h9 => h9) rfl (tyX9_ok 10 (by decide)) rfl rfl (Nat.le_of_ble_eq_true rfl) dX9_init_80 (fun H locs hP hD hS => ?_)
  have hP : va_P D vwCl ((((((((([(h0, .inr (9, [.int 0, .ref q1, .ref q2, .ref q3, .ref q4, .int 0, .ref q5, .ref q6, .ref q7, .ref q8, .int 0, .null, .int 0, .null, .null]))]) ++ [(q1, .inl (cI, 8, .inl (fun _ => 0)))]) ++ [(q2, .inl (cI, 8, .inl (fun _ => 0)))]) ++ [(q3, .inl (cI, 8, .inl (fun _ => 0)))]) ++ [(q4, .inl (cZ, 8, .inl (fun _ => 0)))]) ++ [(q5, .inl (cI, 6, .inl (fun _ => 0)))]) ++ [(q6, .inl (cI, 6, .inl (fun _ => 0)))]) ++ [(q7, .inl (cI, 6, .inl (fun _ => 0)))]) ++ [(q8, .inl (cI, 6, .inl (fun _ => 0)))]) H := hP
  have hD : va_D A ((((((((([(h0, .inr (9, [.int 0, .ref q1, .ref q2, .ref q3, .ref q4, .int 0, .ref q5, .ref q6, .ref q7, .ref q8, .int 0, .null, .int 0, .null, .null]))]) ++ [(q1, .inl (cI, 8, .inl (fun _ => 0)))]) ++ [(q2, .inl (cI, 8, .inl (fun _ => 0)))]) ++ [(q3, .inl (cI, 8, .inl (fun _ => 0)))]) ++ [(q4, .inl (cZ, 8, .inl (fun _ => 0)))]) ++ [(q5, .inl (cI, 6, .inl (fun _ => 0)))]) ++ [(q6, .inl (cI, 6, .inl (fun _ => 0)))]) ++ [(q7, .inl (cI, 6, .inl (fun _ => 0)))]) ++ [(q8, .inl (cI, 6, .inl (fun _ => 0)))]) := hD
  refine lv_aload_n hx hb dX9_init_83 rfl (lv_at hl 0 rfl) ?_
  refine lv_bipush (v := 8) hx hb dX9_init_84 (by decide) ?_
  refine c_newa (atype := .int) (a0 := (8, .inl (fun _ => 0))) hx hb (hts _ c_ac_int) rfl (fun _ h => by cases h) hK (t0 := 0) rfl hP hD hS hA (fun _ => rfl) (by decide) (by decide) (Nat.le_of_ble_eq_true rfl) (Nat.le_of_ble_eq_true rfl) (Nat.le_of_ble_eq_true rfl) dX9_init_86 (fun q9 H hP hD hS => ?_)
  have hP : va_P D vwCl (((((((((([(h0, .inr (9, [.int 0, .ref q1, .ref q2, .ref q3, .ref q4, .int 0, .ref q5, .ref q6, .ref q7, .ref q8, .int 0, .null, .int 0, .null, .null]))]) ++ [(q1, .inl (cI, 8, .inl (fun _ => 0)))]) ++ [(q2, .inl (cI, 8, .inl (fun _ => 0)))]) ++ [(q3, .inl (cI, 8, .inl (fun _ => 0)))]) ++ [(q4, .inl (cZ, 8, .inl (fun _ => 0)))]) ++ [(q5, .inl (cI, 6, .inl (fun _ => 0)))]) ++ [(q6, .inl (cI, 6, .inl (fun _ => 0)))]) ++ [(q7, .inl (cI, 6, .inl (fun _ => 0)))]) ++ [(q8, .inl (cI, 6, .inl (fun _ => 0)))]) ++ [(q9, .inl (cI, 8, .inl (fun _ => 0)))]) H := hP
  have hD : va_D A (((((((((([(h0, .inr (9, [.int 0, .ref q1, .ref q2, .ref q3, .ref q4, .int 0, .ref q5, .ref q6, .ref q7, .ref q8, .int 0, .null, .int 0, .null, .null]))]) ++ [(q1, .inl (cI, 8, .inl (fun _ => 0)))]) ++ [(q2, .inl (cI, 8, .inl (fun _ => 0)))]) ++ [(q3, .inl (cI, 8, .inl (fun _ => 0)))]) ++ [(q4, .inl (cZ, 8, .inl (fun _ => 0)))]) ++ [(q5, .inl (cI, 6, .inl (fun _ => 0)))]) ++ [(q6, .inl (cI, 6, .inl (fun _ => 0)))]) ++ [(q7, .inl (cI, 6, .inl (fun _ => 0)))]) ++ [(q8, .inl (cI, 6, .inl (fun _ => 0)))]) ++ [(q9, .inl (cI, 8, .inl (fun _ => 0)))]) := hD
  refine W.widen (k := 9) (n := 64) (Nat.le_of_ble_eq_true rfl) (Nat.le_of_ble_eq_true rfl) ?_
  refine va_putF (D := D) (ci := 9) (v := .ref q9) (ty := tyX9 11) (C := RX9) (T := TX9) (N := 15) hx hb hts x_in9 tyX9 tyX9_ok nmX9 hown hK hP hD hS 0 rfl rfl 11 (by decide) (hts _ xl_X9_47) (fun _ h9 => h9) rfl hin rfl (tyX9_ok 11 (by decide)) rfl rfl (Nat.le_of_ble_eq_true rfl) dX9_init_88 (fun H locs hP hD hS => ?_)
  have hP : va_P D vwCl (((((((((([(h0, .inr (9, [.int 0, .ref q1, .ref q2, .ref q3, .ref q4, .int 0, .ref q5, .ref q6, .ref q7, .ref q8, .int 0, .ref q9, .int 0, .null, .null]))]) ++ [(q1, .inl (cI, 8, .inl (fun _ => 0)))]) ++ [(q2, .inl (cI, 8, .inl (fun _ => 0)))]) ++ [(q3, .inl (cI, 8, .inl (fun _ => 0)))]) ++ [(q4, .inl (cZ, 8, .inl (fun _ => 0)))]) ++ [(q5, .inl (cI, 6, .inl (fun _ => 0)))]) ++ [(q6, .inl (cI, 6, .inl (fun _ => 0)))]) ++ [(q7, .inl (cI, 6, .inl (fun _ => 0)))]) ++ [(q8, .inl (cI, 6, .inl (fun _ => 0)))]) ++ [(q9, .inl (cI, 8, .inl (fun _ => 0)))]) H := hP
  have hD : va_D A (((((((((([(h0, .inr (9, [.int 0, .ref q1, .ref q2, .ref q3, .ref q4, .int 0, .ref q5, .ref q6, .ref q7, .ref q8, .int 0, .ref q9, .int 0, .null, .null]))]) ++ [(q1, .inl (cI, 8, .inl (fun _ => 0)))]) ++ [(q2, .inl (cI, 8, .inl (fun _ => 0)))]) ++ [(q3, .inl (cI, 8, .inl (fun _ => 0)))]) ++ [(q4, .inl (cZ, 8, .inl (fun _ => 0)))]) ++ [(q5, .inl (cI, 6, .inl (fun _ => 0)))]) ++ [(q6, .inl (cI, 6, .inl (fun _ => 0)))]) ++ [(q7, .inl (cI, 6, .inl (fun _ => 0)))]) ++ [(q8, .inl (cI, 6, .inl (fun _ => 0)))]) ++ [(q9, .inl (cI, 8, .inl (fun _ => 0)))]) := hD
  refine lv_aload_n hx hb dX9_init_91 rfl (lv_at hl 0 rfl) ?_
  refine lv_iconst (v := 0) hx hb dX9_init_92 (by decide) ?_
  refine va_put (D := D) (ci := 9) (v := .int 0) (ty := tyX9 12) (C := RX9) (T := TX9) (N := 15) hx hb hts x_in9 tyX9 tyX9_ok nmX9 hown hK hP hD hS 0 rfl rfl 12 (by decide) (hts _ xl_X9_50) (fun _ h9 => h9) rfl (tyX9_ok 12 (by decide)) rfl rfl (Nat.le_of_ble_eq_true rfl) dX9_init_93 (fun H locs hP hD hS => ?_)
  have hP : va_P D vwCl (((((((((([(h0, .inr (9, [.int 0, .ref q1, .ref q2, .ref q3, .ref q4, .int 0, .ref q5, .ref q6, .ref q7, .ref q8, .int 0, .ref q9, .int 0, .null, .null]))]) ++ [(q1, .inl (cI, 8, .inl (fun _ => 0)))]) ++ [(q2, .inl (cI, 8, .inl (fun _ => 0)))]) ++ [(q3, .inl (cI, 8, .inl (fun _ => 0)))]) ++ [(q4, .inl (cZ, 8, .inl (fun _ => 0)))]) ++ [(q5, .inl (cI, 6, .inl (fun _ => 0)))]) ++ [(q6, .inl (cI, 6, .inl (fun _ => 0)))]) ++ [(q7, .inl (cI, 6, .inl (fun _ => 0)))]) ++ [(q8, .inl (cI, 6, .inl (fun _ => 0)))]) ++ [(q9, .inl (cI, 8, .inl (fun _ => 0)))]) H := hP
  have hD : va_D A (((((((((([(h0, .inr (9, [.int 0, .ref q1, .ref q2, .ref q3, .ref q4, .int 0, .ref q5, .ref q6, .ref q7, .ref q8, .int 0, .ref q9, .int 0, .null, .null]))]) ++ [(q1, .inl (cI, 8, .inl (fun _ => 0)))]) ++ [(q2, .inl (cI, 8, .inl (fun _ => 0)))]) ++ [(q3, .inl (cI, 8, .inl (fun _ => 0)))]) ++ [(q4, .inl (cZ, 8, .inl (fun _ => 0)))]) ++ [(q5, .inl (cI, 6, .inl (fun _ => 0)))]) ++ [(q6, .inl (cI, 6, .inl (fun _ => 0)))]) ++ [(q7, .inl (cI, 6, .inl (fun _ => 0)))]) ++ [(q8, .inl (cI, 6, .inl (fun _ => 0)))]) ++ [(q9, .inl (cI, 8, .inl (fun _ => 0)))]) := hD
  refine lv_aload_n hx hb dX9_init_96 rfl (lv_at hl 0 rfl) ?_
  refine va_new (ci := 4) (fs := [.null, .null, .int 0, .int 0]) (C := RX4) (T := TX4) (N := 4) hx hb hts x_in4 tyX4 tyX4_ok hown (hts _ c_cl9_53) (hts _ c_is4.1) (hts _ c_is4.2) hK hP hD hS hA rfl c_df4 (Nat.le_of_ble_eq_true rfl) (Nat.le_of_ble_eq_true rfl) dX9_init_97 (fun q10 H hP hD hS => ?_)
  refine W.widen (k := 10) (n := 68) (Nat.le_of_ble_eq_true rfl) (Nat.le_of_ble_eq_true rfl) ?_
  refine lv_dup hx hb dX9_init_100 rfl ?_
  refine lv_iconst (v := 0) hx hb dX9_init_101 (by decide) ?_
  have hPc := hP.sub (ws' := [(q10, .inr (4, [.null, .null, .int 0, .int 0]))]) [10] rfl
  have hDc := hD.sub (ws' := [(q10, .inr (4, [.null, .null, .int 0, .int 0]))]) [10] (by decide) rfl
  have hFc := va_free (wc := [(q10, .inr (4, [.null, .null, .int 0, .int 0]))]) hD hS hA [10] rfl
  refine va_callv (va_runI (As := [.int 0]) (rest := [.ref q10, .ref h0]) ⟨hx, hb, hml, hown, hts⟩ (kc_4_14 l D cI cB cZ cQ q10 H.size) ⟨callB_of 1 hts (gT_in (fun w h => (List.mem_cons.mp h).elim (fun e => e ▸ c_cw4.1) id)) rfl rfl rfl (hts _ c_is4.2) (hts _ c_lk9_55) c_cw4.2.2 ⟨(Nat.le_of_ble_eq_true rfl), (Nat.le_of_ble_eq_true rfl)⟩, rfl, hts _ c_cw4.2.1⟩ ⟨fun a U g mk q => by obtain ⟨q0, q1, qP, qK, qD, qN⟩ := q; exact ⟨q0, q1, qP, va_K.moved (u := U) (U := U.calling g mk a) (Vm.Alike.refl U.vm) qK, qD, xNest_warm (State.WarmedH.refl U) qN⟩, fun U hU hW => ⟨rfl, by rw [hU], by rw [hU]; exact hPc, va_K.moved hW.alike hK, hDc.weaken (fun _ _ _ _ => trivial), xNest_warm hW hN⟩⟩ rfl rfl hl.1 rfl (lv_room (Nat.le_of_ble_eq_true rfl)) dX9_init_102 ⟨(Nat.le_of_ble_eq_true rfl), (Nat.le_of_ble_eq_true rfl)⟩) hS (fun q _ h => hFc q h) hFc (fun u10 t H1 locs ht hvm hw hB hz1 hk1 hS => ?_)
  obtain ⟨hu10, hP1, hK1, hD1⟩ := hB
  rw [ht] at hP1
  obtain ⟨hP, hD⟩ := va_join (wr := ((((((((([(h0, .inr (9, [.int 0, .ref q1, .ref q2, .ref q3, .ref q4, .int 0, .ref q5, .ref q6, .ref q7, .ref q8, .int 0, .ref q9, .int 0, .null, .null]))]) ++ [(q1, .inl (cI, 8, .inl (fun _ => 0)))]) ++ [(q2, .inl (cI, 8, .inl (fun _ => 0)))]) ++ [(q3, .inl (cI, 8, .inl (fun _ => 0)))]) ++ [(q4, .inl (cZ, 8, .inl (fun _ => 0)))]) ++ [(q5, .inl (cI, 6, .inl (fun _ => 0)))]) ++ [(q6, .inl (cI, 6, .inl (fun _ => 0)))]) ++ [(q7, .inl (cI, 6, .inl (fun _ => 0)))]) ++ [(q8, .inl (cI, 6, .inl (fun _ => 0)))]) ++ [(q9, .inl (cI, 8, .inl (fun _ => 0)))]) (w1 := xb cI cB cZ cQ u10 14 3) hP hD [10] [0, 1, 2, 3, 4, 5, 6, 7, 8, 9] rfl rfl (by decide) (by decide) hk1 hFc hP1 hD1
  generalize H1 = H at hP hS ⊢
  have hP : va_P D vwCl ((((((((((([(h0, .inr (9, [.int 0, .ref q1, .ref q2, .ref q3, .ref q4, .int 0, .ref q5, .ref q6, .ref q7, .ref q8, .int 0, .ref q9, .int 0, .null, .null]))]) ++ [(q1, .inl (cI, 8, .inl (fun _ => 0)))]) ++ [(q2, .inl (cI, 8, .inl (fun _ => 0)))]) ++ [(q3, .inl (cI, 8, .inl (fun _ => 0)))]) ++ [(q4, .inl (cZ, 8, .inl (fun _ => 0)))]) ++ [(q5, .inl (cI, 6, .inl (fun _ => 0)))]) ++ [(q6, .inl (cI, 6, .inl (fun _ => 0)))]) ++ [(q7, .inl (cI, 6, .inl (fun _ => 0)))]) ++ [(q8, .inl (cI, 6, .inl (fun _ => 0)))]) ++ [(q9, .inl (cI, 8, .inl (fun _ => 0)))]) ++ xb cI cB cZ cQ u10 14 3) H := hP
  have hD : va_D A ((((((((((([(h0, .inr (9, [.int 0, .ref q1, .ref q2, .ref q3, .ref q4, .int 0, .ref q5, .ref q6, .ref q7, .ref q8, .int 0, .ref q9, .int 0, .null, .null]))]) ++ [(q1, .inl (cI, 8, .inl (fun _ => 0)))]) ++ [(q2, .inl (cI, 8, .inl (fun _ => 0)))]) ++ [(q3, .inl (cI, 8, .inl (fun _ => 0)))]) ++ [(q4, .inl (cZ, 8, .inl (fun _ => 0)))]) ++ [(q5, .inl (cI, 6, .inl (fun _ => 0)))]) ++ [(q6, .inl (cI, 6, .inl (fun _ => 0)))]) ++ [(q7, .inl (cI, 6, .inl (fun _ => 0)))]) ++ [(q8, .inl (cI, 6, .inl (fun _ => 0)))]) ++ [(q9, .inl (cI, 8, .inl (fun _ => 0)))]) ++ xb cI cB cZ cQ u10 14 3) := hD
  have hz10 : Value.ref q10 = .ref (u10 14) := by rw [hu10]
  refine W.widen (k := 12) (n := 799) (Nat.le_of_ble_eq_true rfl) (Nat.le_of_ble_eq_true rfl) ?_
  rw [hz10]
  refine va_putF (D := D) (ci := 9) (v := .ref (u10 14)) (ty := tyX9 13) (C := RX9) (T := TX9) (N := 15) hx hb hts x_in9 tyX9 tyX9_ok nmX9 hown hK hP hD hS 0 rfl rfl 13 (by decide) (hts _ xl_X9_58) (fun _ h9 => h9) rfl hin rfl (tyX9_ok 13 (by decide)) rfl rfl (Nat.le_of_ble_eq_true rfl) dX9_init_105 (fun H locs hP hD hS => ?_)
  have hP : va_P D vwCl ((((((((((([(h0, .inr (9, [.int 0, .ref q1, .ref q2, .ref q3, .ref q4, .int 0, .ref q5, .ref q6, .ref q7, .ref q8, .int 0, .ref q9, .int 0, .ref (u10 14), .null]))]) ++ [(q1, .inl (cI, 8, .inl (fun _ => 0)))]) ++ [(q2, .inl (cI, 8, .inl (fun _ => 0)))]) ++ [(q3, .inl (cI, 8, .inl (fun _ => 0)))]) ++ [(q4, .inl (cZ, 8, .inl (fun _ => 0)))]) ++ [(q5, .inl (cI, 6, .inl (fun _ => 0)))]) ++ [(q6, .inl (cI, 6, .inl (fun _ => 0)))]) ++ [(q7, .inl (cI, 6, .inl (fun _ => 0)))]) ++ [(q8, .inl (cI, 6, .inl (fun _ => 0)))]) ++ [(q9, .inl (cI, 8, .inl (fun _ => 0)))]) ++ xb cI cB cZ cQ u10 14 3) H := hP
  have hD : va_D A ((((((((((([(h0, .inr (9, [.int 0, .ref q1, .ref q2, .ref q3, .ref q4, .int 0, .ref q5, .ref q6, .ref q7, .ref q8, .int 0, .ref q9, .int 0, .ref (u10 14), .null]))]) ++ [(q1, .inl (cI, 8, .inl (fun _ => 0)))]) ++ [(q2, .inl (cI, 8, .inl (fun _ => 0)))]) ++ [(q3, .inl (cI, 8, .inl (fun _ => 0)))]) ++ [(q4, .inl (cZ, 8, .inl (fun _ => 0)))]) ++ [(q5, .inl (cI, 6, .inl (fun _ => 0)))]) ++ [(q6, .inl (cI, 6, .inl (fun _ => 0)))]) ++ [(q7, .inl (cI, 6, .inl (fun _ => 0)))]) ++ [(q8, .inl (cI, 6, .inl (fun _ => 0)))]) ++ [(q9, .inl (cI, 8, .inl (fun _ => 0)))]) ++ xb cI cB cZ cQ u10 14 3) := hD
  refine lv_aload_n hx hb dX9_init_108 rfl (lv_at hl 0 rfl) ?_
  refine va_new (ci := 4) (fs := [.null, .null, .int 0, .int 0]) (C := RX4) (T := TX4) (N := 4) hx hb hts x_in4 tyX4 tyX4_ok hown (hts _ c_cl9_53) (hts _ c_is4.1) (hts _ c_is4.2) hK hP hD hS hA rfl c_df4 (Nat.le_of_ble_eq_true rfl) (Nat.le_of_ble_eq_true rfl) dX9_init_109 (fun q11 H hP hD hS => ?_)
  refine W.widen (k := 13) (n := 803) (Nat.le_of_ble_eq_true rfl) (Nat.le_of_ble_eq_true rfl) ?_
  refine lv_dup hx hb dX9_init_112 rfl ?_
  refine lv_iconst (v := 1) hx hb dX9_init_113 (by decide) ?_
  have hPc := hP.sub (ws' := [(q11, .inr (4, [.null, .null, .int 0, .int 0]))]) [13] rfl
  have hDc := hD.sub (ws' := [(q11, .inr (4, [.null, .null, .int 0, .int 0]))]) [13] (by decide) rfl
  have hFc := va_free (wc := [(q11, .inr (4, [.null, .null, .int 0, .int 0]))]) hD hS hA [13] rfl
  refine va_callv (va_runI (As := [.int 1]) (rest := [.ref q11, .ref h0]) ⟨hx, hb, hml, hown, hts⟩ (kc_4_17 l D cI cB cZ cQ q11 H.size) ⟨callB_of 1 hts (gT_in (fun w h => (List.mem_cons.mp h).elim (fun e => e ▸ c_cw4.1) id)) rfl rfl rfl (hts _ c_is4.2) (hts _ c_lk9_55) c_cw4.2.2 ⟨(Nat.le_of_ble_eq_true rfl), (Nat.le_of_ble_eq_true rfl)⟩, rfl, hts _ c_cw4.2.1⟩ ⟨fun a U g mk q => by obtain ⟨q0, q1, qP, qK, qD, qN⟩ := q; exact ⟨q0, q1, qP, va_K.moved (u := U) (U := U.calling g mk a) (Vm.Alike.refl U.vm) qK, qD, xNest_warm (State.WarmedH.refl U) qN⟩, fun U hU hW => ⟨rfl, by rw [hU], by rw [hU]; exact hPc, va_K.moved hW.alike hK, hDc.weaken (fun _ _ _ _ => trivial), xNest_warm hW hN⟩⟩ rfl rfl hl.1 rfl (lv_room (Nat.le_of_ble_eq_true rfl)) dX9_init_114 ⟨(Nat.le_of_ble_eq_true rfl), (Nat.le_of_ble_eq_true rfl)⟩) hS (fun q _ h => hFc q h) hFc (fun u11 t H1 locs ht hvm hw hB hz1 hk1 hS => ?_)
  obtain ⟨hu11, hP1, hK1, hD1⟩ := hB
  rw [ht] at hP1
  obtain ⟨hP, hD⟩ := va_join (wr := (((((((((([(h0, .inr (9, [.int 0, .ref q1, .ref q2, .ref q3, .ref q4, .int 0, .ref q5, .ref q6, .ref q7, .ref q8, .int 0, .ref q9, .int 0, .ref (u10 14), .null]))]) ++ [(q1, .inl (cI, 8, .inl (fun _ => 0)))]) ++ [(q2, .inl (cI, 8, .inl (fun _ => 0)))]) ++ [(q3, .inl (cI, 8, .inl (fun _ => 0)))]) ++ [(q4, .inl (cZ, 8, .inl (fun _ => 0)))]) ++ [(q5, .inl (cI, 6, .inl (fun _ => 0)))]) ++ [(q6, .inl (cI, 6, .inl (fun _ => 0)))]) ++ [(q7, .inl (cI, 6, .inl (fun _ => 0)))]) ++ [(q8, .inl (cI, 6, .inl (fun _ => 0)))]) ++ [(q9, .inl (cI, 8, .inl (fun _ => 0)))]) ++ xb cI cB cZ cQ u10 14 3) (w1 := xb cI cB cZ cQ u11 17 3) hP hD [13] [0, 1, 2, 3, 4, 5, 6, 7, 8, 9, 10, 11, 12] rfl rfl (by decide) (by decide) hk1 hFc hP1 hD1
  generalize H1 = H at hP hS ⊢
  have hP : va_P D vwCl (((((((((((([(h0, .inr (9, [.int 0, .ref q1, .ref q2, .ref q3, .ref q4, .int 0, .ref q5, .ref q6, .ref q7, .ref q8, .int 0, .ref q9, .int 0, .ref (u10 14), .null]))]) ++ [(q1, .inl (cI, 8, .inl (fun _ => 0)))]) ++ [(q2, .inl (cI, 8, .inl (fun _ => 0)))]) ++ [(q3, .inl (cI, 8, .inl (fun _ => 0)))]) ++ [(q4, .inl (cZ, 8, .inl (fun _ => 0)))]) ++ [(q5, .inl (cI, 6, .inl (fun _ => 0)))]) ++ [(q6, .inl (cI, 6, .inl (fun _ => 0)))]) ++ [(q7, .inl (cI, 6, .inl (fun _ => 0)))]) ++ [(q8, .inl (cI, 6, .inl (fun _ => 0)))]) ++ [(q9, .inl (cI, 8, .inl (fun _ => 0)))]) ++ xb cI cB cZ cQ u10 14 3) ++ xb cI cB cZ cQ u11 17 3) H := hP
  have hD : va_D A (((((((((((([(h0, .inr (9, [.int 0, .ref q1, .ref q2, .ref q3, .ref q4, .int 0, .ref q5, .ref q6, .ref q7, .ref q8, .int 0, .ref q9, .int 0, .ref (u10 14), .null]))]) ++ [(q1, .inl (cI, 8, .inl (fun _ => 0)))]) ++ [(q2, .inl (cI, 8, .inl (fun _ => 0)))]) ++ [(q3, .inl (cI, 8, .inl (fun _ => 0)))]) ++ [(q4, .inl (cZ, 8, .inl (fun _ => 0)))]) ++ [(q5, .inl (cI, 6, .inl (fun _ => 0)))]) ++ [(q6, .inl (cI, 6, .inl (fun _ => 0)))]) ++ [(q7, .inl (cI, 6, .inl (fun _ => 0)))]) ++ [(q8, .inl (cI, 6, .inl (fun _ => 0)))]) ++ [(q9, .inl (cI, 8, .inl (fun _ => 0)))]) ++ xb cI cB cZ cQ u10 14 3) ++ xb cI cB cZ cQ u11 17 3) := hD
  have hz11 : Value.ref q11 = .ref (u11 17) := by rw [hu11]
  refine W.widen (k := 15) (n := 1534) (Nat.le_of_ble_eq_true rfl) (Nat.le_of_ble_eq_true rfl) ?_
  rw [hz11]
  refine va_putF (D := D) (ci := 9) (v := .ref (u11 17)) (ty := tyX9 14) (C := RX9) (T := TX9) (N := 15) hx hb hts x_in9 tyX9 tyX9_ok nmX9 hown hK hP hD hS 0 rfl rfl 14 (by decide) (hts _ xl_X9_62) (fun _ h9 => h9) rfl hin rfl (tyX9_ok 14 (by decide)) rfl rfl (Nat.le_of_ble_eq_true rfl) dX9_init_117 (fun H locs hP hD hS => ?_)
  have hP : va_P D vwCl (((((((((((([(h0, .inr (9, [.int 0, .ref q1, .ref q2, .ref q3, .ref q4, .int 0, .ref q5, .ref q6, .ref q7, .ref q8, .int 0, .ref q9, .int 0, .ref (u10 14), .ref (u11 17)]))]) ++ [(q1, .inl (cI, 8, .inl (fun _ => 0)))]) ++ [(q2, .inl (cI, 8, .inl (fun _ => 0)))]) ++ [(q3, .inl (cI, 8, .inl (fun _ => 0)))]) ++ [(q4, .inl (cZ, 8, .inl (fun _ => 0)))]) ++ [(q5, .inl (cI, 6, .inl (fun _ => 0)))]) ++ [(q6, .inl (cI, 6, .inl (fun _ => 0)))]) ++ [(q7, .inl (cI, 6, .inl (fun _ => 0)))]) ++ [(q8, .inl (cI, 6, .inl (fun _ => 0)))]) ++ [(q9, .inl (cI, 8, .inl (fun _ => 0)))]) ++ xb cI cB cZ cQ u10 14 3) ++ xb cI cB cZ cQ u11 17 3) H := hP
  have hD : va_D A (((((((((((([(h0, .inr (9, [.int 0, .ref q1, .ref q2, .ref q3, .ref q4, .int 0, .ref q5, .ref q6, .ref q7, .ref q8, .int 0, .ref q9, .int 0, .ref (u10 14), .ref (u11 17)]))]) ++ [(q1, .inl (cI, 8, .inl (fun _ => 0)))]) ++ [(q2, .inl (cI, 8, .inl (fun _ => 0)))]) ++ [(q3, .inl (cI, 8, .inl (fun _ => 0)))]) ++ [(q4, .inl (cZ, 8, .inl (fun _ => 0)))]) ++ [(q5, .inl (cI, 6, .inl (fun _ => 0)))]) ++ [(q6, .inl (cI, 6, .inl (fun _ => 0)))]) ++ [(q7, .inl (cI, 6, .inl (fun _ => 0)))]) ++ [(q8, .inl (cI, 6, .inl (fun _ => 0)))]) ++ [(q9, .inl (cI, 8, .inl (fun _ => 0)))]) ++ xb cI cB cZ cQ u10 14 3) ++ xb cI cB cZ cQ u11 17 3) := hD
  have hP9 : va_P D vwCl (xb cI cB cZ cQ (xj (xj (xj (xj (xj (xj (xj (xj (xj (xj (xj (fun _ => h0) 5 (fun _ => q1)) 6 (fun _ => q2)) 7 (fun _ => q3)) 8 (fun _ => q4)) 9 (fun _ => q5)) 10 (fun _ => q6)) 11 (fun _ => q7)) 12 (fun _ => q8)) 13 (fun _ => q9)) 14 u10) 17 u11) 4 16) H := hP
  have hD9 : va_D A (xb cI cB cZ cQ (xj (xj (xj (xj (xj (xj (xj (xj (xj (xj (xj (fun _ => h0) 5 (fun _ => q1)) 6 (fun _ => q2)) 7 (fun _ => q3)) 8 (fun _ => q4)) 9 (fun _ => q5)) 10 (fun _ => q6)) 11 (fun _ => q7)) 12 (fun _ => q8)) 13 (fun _ => q9)) 14 u10) 17 u11) 4 16) := hD
  exact W.vret hx hb hr (fun t ht hW => ⟨⟨(xj (xj (xj (xj (xj (xj (xj (xj (xj (xj (xj (fun _ => h0) 5 (fun _ => q1)) 6 (fun _ => q2)) 7 (fun _ => q3)) 8 (fun _ => q4)) 9 (fun _ => q5)) 10 (fun _ => q6)) 11 (fun _ => q7)) 12 (fun _ => q8)) 13 (fun _ => q9)) 14 u10) 17 u11), rfl, trivial, rfl, by rw [ht]; exact hP9, va_K.moved hW.alike hK, hD9⟩, hS.F ht⟩) hS.2.2 dX9_init_120 hlocks
set_option maxHeartbeats 4000000 in
set_option maxRecDepth 100000 in
theorem kc_7_21 (l : Launch) (D : va_G) (cI cB cZ cQ : ClassId) (h0 : Nat) : cM l yX7_init cX7_init 1 1 4 24 D (xtys cI cB cZ cQ) [.ref h0] [(h0, .inr (7, [.int 0, .int 0, .null, .null, .null, .null]))] 21 h0 (fun u => xb cI cB cZ cQ u 21 5) := by
  intro sz
  refine Met.ofW (cc := cX7_init) (maxL := 1) (ret := none) (by decide) rfl ?_
  intro p e s m args below meth c s₁ B hml hv
  obtain ⟨rfl, hsz, hP, hK, hD0, hN⟩ := hv
  have hx := B.exec
  have hb := B.bytes
  have hr := B.returns
  have hts : ∀ w ∈ gT, w.before _ s = true := fun w h => atoms_spec (ws := Cond.code yX7_init cX7_init 1 none :: gT) B.pre w (List.mem_cons_of_mem _ h)
  have hown : s.vm.findClass RX7 = some m.cls := findClass_of_methodNamed B.named
  have hlocks := B.notSynchronized
  have hin : meth.name = "<init>" := (name_of_methodNamed B.named B.method).1
  subst hsz
  have hD := hD0.self (sz := s.heap.size)
  generalize hAe : va_A [(h0, .inr (7, [.int 0, .int 0, .null, .null, .null, .null]))] s.heap.size = A at hD ⊢
  have hA : ∀ q : Nat, s.heap.size ≤ q → A q := fun q h => by rw [← hAe]; exact Or.inr h
  have hS : va_S A s.heap s.heap [] := va_S.rf
  have hl := lv_entry ([.ref h0]) (n := 1) (Nat.le_of_ble_eq_true rfl)
  rw [lg_entry_eq]
  generalize (lg_sl ([.ref h0]) ++ List.replicate (1 - (lg_sl ([.ref h0])).length) Slot.unset).toArray = ls at hl ⊢
  have hl : lv_has ls 1 [(0, .ref h0)] := hl
  have hP : va_P D vwCl [(h0, .inr (7, [.int 0, .int 0, .null, .null, .null, .null]))] s.heap := hP
  refine lv_aload_n hx hb dX7_init_0 rfl (lv_at hl 0 rfl) ?_
  refine W.objInit hx hb hown (hts _ c_oi7) (hts _ c_ob.1) (hts _ c_ob.2) rfl (by rw [hml]; exact hl.1) rfl dX7_init_1 (Nat.le_of_ble_eq_true rfl) (Nat.le_of_ble_eq_true rfl) ?_
  refine W.eq (g2 := F0 m 4 ls []) rfl ?_
  refine lv_aload_n hx hb dX7_init_4 rfl (lv_at hl 0 rfl) ?_
  refine lv_iconst (v := 0) hx hb dX7_init_5 (by decide) ?_
  refine va_put (D := D) (ci := 7) (v := .int 0) (ty := tyX7 0) (C := RX7) (T := TX7) (N := 6) hx hb hts x_in7 tyX7 tyX7_ok nmX7 hown hK hP hD hS 0 rfl rfl 0 (by decide) (hts _ xl_X7_9) (fun _ h9 => h9) rfl (tyX7_ok 0 (by decide)) rfl rfl (Nat.le_of_ble_eq_true rfl) dX7_init_6 (fun H locs hP hD hS => ?_)
  have hP : va_P D vwCl ([(h0, .inr (7, [.int 0, .int 0, .null, .null, .null, .null]))]) H := hP
  have hD : va_D A ([(h0, .inr (7, [.int 0, .int 0, .null, .null, .null, .null]))]) := hD
  refine lv_aload_n hx hb dX7_init_9 rfl (lv_at hl 0 rfl) ?_
  refine lv_iconst (v := 0) hx hb dX7_init_10 (by decide) ?_
  refine va_put (D := D) (ci := 7) (v := .int 0) (ty := tyX7 1) (C := RX7) (T := TX7) (N := 6) hx hb hts x_in7 tyX7 tyX7_ok nmX7 hown hK hP hD hS 0 rfl rfl 1 (by decide) (hts _ xl_X7_15) (fun _ h9 => h9) rfl (tyX7_ok 1 (by decide)) rfl rfl (Nat.le_of_ble_eq_true rfl) dX7_init_11 (fun H locs hP hD hS => ?_)
  have hP : va_P D vwCl ([(h0, .inr (7, [.int 0, .int 0, .null, .null, .null, .null]))]) H := hP
  have hD : va_D A ([(h0, .inr (7, [.int 0, .int 0, .null, .null, .null, .null]))]) := hD
  refine lv_aload_n hx hb dX7_init_14 rfl (lv_at hl 0 rfl) ?_
  refine lv_bipush (v := 6) hx hb dX7_init_15 (by decide) ?_
  refine c_newa (atype := .int) (a0 := (6, .inl (fun _ => 0))) hx hb (hts _ c_ac_int) rfl (fun _ h => by cases h) hK (t0 := 0) rfl hP hD hS hA (fun _ => rfl) (by decide) (by decide) (Nat.le_of_ble_eq_true rfl) (Nat.le_of_ble_eq_true rfl) (Nat.le_of_ble_eq_true rfl) dX7_init_17 (fun q1 H hP hD hS => ?_)
  have hP : va_P D vwCl (([(h0, .inr (7, [.int 0, .int 0, .null, .null, .null, .null]))]) ++ [(q1, .inl (cI, 6, .inl (fun _ => 0)))]) H := hP
  have hD : va_D A (([(h0, .inr (7, [.int 0, .int 0, .null, .null, .null, .null]))]) ++ [(q1, .inl (cI, 6, .inl (fun _ => 0)))]) := hD
  refine W.widen (k := 1) (n := 6) (Nat.le_of_ble_eq_true rfl) (Nat.le_of_ble_eq_true rfl) ?_
  refine va_putF (D := D) (ci := 7) (v := .ref q1) (ty := tyX7 2) (C := RX7) (T := TX7) (N := 6) hx hb hts x_in7 tyX7 tyX7_ok nmX7 hown hK hP hD hS 0 rfl rfl 2 (by decide) (hts _ xl_X7_18) (fun _ h9 => h9) rfl hin rfl (tyX7_ok 2 (by decide)) rfl rfl (Nat.le_of_ble_eq_true rfl) dX7_init_19 (fun H locs hP hD hS => ?_)
  have hP : va_P D vwCl (([(h0, .inr (7, [.int 0, .int 0, .ref q1, .null, .null, .null]))]) ++ [(q1, .inl (cI, 6, .inl (fun _ => 0)))]) H := hP
  have hD : va_D A (([(h0, .inr (7, [.int 0, .int 0, .ref q1, .null, .null, .null]))]) ++ [(q1, .inl (cI, 6, .inl (fun _ => 0)))]) := hD
  refine lv_aload_n hx hb dX7_init_22 rfl (lv_at hl 0 rfl) ?_
  refine lv_bipush (v := 6) hx hb dX7_init_23 (by decide) ?_
  refine c_newa (atype := .int) (a0 := (6, .inl (fun _ => 0))) hx hb (hts _ c_ac_int) rfl (fun _ h => by cases h) hK (t0 := 0) rfl hP hD hS hA (fun _ => rfl) (by decide) (by decide) (Nat.le_of_ble_eq_true rfl) (Nat.le_of_ble_eq_true rfl) (Nat.le_of_ble_eq_true rfl) dX7_init_25 (fun q2 H hP hD hS => ?_)
  have hP : va_P D vwCl ((([(h0, .inr (7, [.int 0, .int 0, .ref q1, .null, .null, .null]))]) ++ [(q1, .inl (cI, 6, .inl (fun _ => 0)))]) ++ [(q2, .inl (cI, 6, .inl (fun _ => 0)))]) H := hP
  have hD : va_D A ((([(h0, .inr (7, [.int 0, .int 0, .ref q1, .null, .null, .null]))]) ++ [(q1, .inl (cI, 6, .inl (fun _ => 0)))]) ++ [(q2, .inl (cI, 6, .inl (fun _ => 0)))]) := hD
  refine W.widen (k := 2) (n := 12) (Nat.le_of_ble_eq_true rfl) (Nat.le_of_ble_eq_true rfl) ?_
  refine va_putF (D := D) (ci := 7) (v := .ref q2) (ty := tyX7 3) (C := RX7) (T := TX7) (N := 6) hx hb hts x_in7 tyX7 tyX7_ok nmX7 hown hK hP hD hS 0 rfl rfl 3 (by decide) (hts _ xl_X7_22) (fun _ h9 => h9) rfl hin rfl (tyX7_ok 3 (by decide)) rfl rfl (Nat.le_of_ble_eq_true rfl) dX7_init_27 (fun H locs hP hD hS => ?_)
  have hP : va_P D vwCl ((([(h0, .inr (7, [.int 0, .int 0, .ref q1, .ref q2, .null, .null]))]) ++ [(q1, .inl (cI, 6, .inl (fun _ => 0)))]) ++ [(q2, .inl (cI, 6, .inl (fun _ => 0)))]) H := hP
  have hD : va_D A ((([(h0, .inr (7, [.int 0, .int 0, .ref q1, .ref q2, .null, .null]))]) ++ [(q1, .inl (cI, 6, .inl (fun _ => 0)))]) ++ [(q2, .inl (cI, 6, .inl (fun _ => 0)))]) := hD
  refine lv_aload_n hx hb dX7_init_30 rfl (lv_at hl 0 rfl) ?_
  refine lv_bipush (v := 6) hx hb dX7_init_31 (by decide) ?_
  refine c_newa (atype := .int) (a0 := (6, .inl (fun _ => 0))) hx hb (hts _ c_ac_int) rfl (fun _ h => by cases h) hK (t0 := 0) rfl hP hD hS hA (fun _ => rfl) (by decide) (by decide) (Nat.le_of_ble_eq_true rfl) (Nat.le_of_ble_eq_true rfl) (Nat.le_of_ble_eq_true rfl) dX7_init_33 (fun q3 H hP hD hS => ?_)
  have hP : va_P D vwCl (((([(h0, .inr (7, [.int 0, .int 0, .ref q1, .ref q2, .null, .null]))]) ++ [(q1, .inl (cI, 6, .inl (fun _ => 0)))]) ++ [(q2, .inl (cI, 6, .inl (fun _ => 0)))]) ++ [(q3, .inl (cI, 6, .inl (fun _ => 0)))]) H := hP
  have hD : va_D A (((([(h0, .inr (7, [.int 0, .int 0, .ref q1, .ref q2, .null, .null]))]) ++ [(q1, .inl (cI, 6, .inl (fun _ => 0)))]) ++ [(q2, .inl (cI, 6, .inl (fun _ => 0)))]) ++ [(q3, .inl (cI, 6, .inl (fun _ => 0)))]) := hD
  refine W.widen (k := 3) (n := 18) (Nat.le_of_ble_eq_true rfl) (Nat.le_of_ble_eq_true rfl) ?_
  refine va_putF (D := D) (ci := 7) (v := .ref q3) (ty := tyX7 4) (C := RX7) (T := TX7) (N := 6) hx hb hts x_in7 tyX7 tyX7_ok nmX7 hown hK hP hD hS 0 rfl rfl 4 (by decide) (hts _ xl_X7_25) (fun _ h9 => h9) rfl hin rfl (tyX7_ok 4 (by decide)) rfl rfl (Nat.le_of_ble_eq_true rfl) dX7_init_35 (fun H locs hP hD hS => ?_)
  have hP : va_P D vwCl (((([(h0, .inr (7, [.int 0, .int 0, .ref q1, .ref q2, .ref q3, .null]))]) ++ [(q1, .inl (cI, 6, .inl (fun _ => 0)))]) ++ [(q2, .inl (cI, 6, .inl (fun _ => 0)))]) ++ [(q3, .inl (cI, 6, .inl (fun _ => 0)))]) H := hP
  have hD : va_D A (((([(h0, .inr (7, [.int 0, .int 0, .ref q1, .ref q2, .ref q3, .null]))]) ++ [(q1, .inl (cI, 6, .inl (fun _ => 0)))]) ++ [(q2, .inl (cI, 6, .inl (fun _ => 0)))]) ++ [(q3, .inl (cI, 6, .inl (fun _ => 0)))]) := hD
  refine lv_aload_n hx hb dX7_init_38 rfl (lv_at hl 0 rfl) ?_
  refine lv_bipush (v := 6) hx hb dX7_init_39 (by decide) ?_
  refine c_newa (atype := .int) (a0 := (6, .inl (fun _ => 0))) hx hb (hts _ c_ac_int) rfl (fun _ h => by cases h) hK (t0 := 0) rfl hP hD hS hA (fun _ => rfl) (by decide) (by decide) (Nat.le_of_ble_eq_true rfl) (Nat.le_of_ble_eq_true rfl) (Nat.le_of_ble_eq_true rfl) dX7_init_41 (fun q4 H hP hD hS => ?_)
  have hP : va_P D vwCl ((((([(h0, .inr (7, [.int 0, .int 0, .ref q1, .ref q2, .ref q3, .null]))]) ++ [(q1, .inl (cI, 6, .inl (fun _ => 0)))]) ++ [(q2, .inl (cI, 6, .inl (fun _ => 0)))]) ++ [(q3, .inl (cI, 6, .inl (fun _ => 0)))]) ++ [(q4, .inl (cI, 6, .inl (fun _ => 0)))]) H := hP
  have hD : va_D A ((((([(h0, .inr (7, [.int 0, .int 0, .ref q1, .ref q2, .ref q3, .null]))]) ++ [(q1, .inl (cI, 6, .inl (fun _ => 0)))]) ++ [(q2, .inl (cI, 6, .inl (fun _ => 0)))]) ++ [(q3, .inl (cI, 6, .inl (fun _ => 0)))]) ++ [(q4, .inl (cI, 6, .inl (fun _ => 0)))]) := hD
  refine W.widen (k := 4) (n := 24) (Nat.le_of_ble_eq_true rfl) (Nat.le_of_ble_eq_true rfl) ?_
  refine va_putF (D := D) (ci := 7) (v := .ref q4) (ty := tyX7 5) (C := RX7) (T := TX7) (N := 6) hx hb hts x_in7 tyX7 tyX7_ok nmX7 hown hK hP hD hS 0 rfl rfl 5 (by decide) (hts _ xl_X7_28) (fun _ h9 => h9) rfl hin rfl (tyX7_ok 5 (by decide)) rfl rfl (Nat.le_of_ble_eq_true rfl) dX7_init_43 (fun H locs hP hD hS => ?_)
  have hP : va_P D vwCl ((((([(h0, .inr (7, [.int 0, .int 0, .ref q1, .ref q2, .ref q3, .ref q4]))]) ++ [(q1, .inl (cI, 6, .inl (fun _ => 0)))]) ++ [(q2, .inl (cI, 6, .inl (fun _ => 0)))]) ++ [(q3, .inl (cI, 6, .inl (fun _ => 0)))]) ++ [(q4, .inl (cI, 6, .inl (fun _ => 0)))]) H := hP
  have hD : va_D A ((((([(h0, .inr (7, [.int 0, .int 0, .ref q1, .ref q2, .ref q3, .ref q4]))]) ++ [(q1, .inl (cI, 6, .inl (fun _ => 0)))]) ++ [(q2, .inl (cI, 6, .inl (fun _ => 0)))]) ++ [(q3, .inl (cI, 6, .inl (fun _ => 0)))]) ++ [(q4, .inl (cI, 6, .inl (fun _ => 0)))]) := hD
  have hP9 : va_P D vwCl (xb cI cB cZ cQ (xj (xj (xj (xj (fun _ => h0) 22 (fun _ => q1)) 23 (fun _ => q2)) 24 (fun _ => q3)) 25 (fun _ => q4)) 21 5) H := hP
  have hD9 : va_D A (xb cI cB cZ cQ (xj (xj (xj (xj (fun _ => h0) 22 (fun _ => q1)) 23 (fun _ => q2)) 24 (fun _ => q3)) 25 (fun _ => q4)) 21 5) := hD
  exact W.vret hx hb hr (fun t ht hW => ⟨⟨(xj (xj (xj (xj (fun _ => h0) 22 (fun _ => q1)) 23 (fun _ => q2)) 24 (fun _ => q3)) 25 (fun _ => q4)), rfl, trivial, rfl, by rw [ht]; exact hP9, va_K.moved hW.alike hK, hD9⟩, hS.F ht⟩) hS.2.2 dX7_init_46 hlocks
set_option maxHeartbeats 4000000 in
set_option maxRecDepth 100000 in
theorem kc_1_20 (l : Launch) (D : va_G) (cI cB cZ cQ : ClassId) (h0 : Nat) : cM l yX1_init cX1_init 1 2 12 1103 D (xtys cI cB cZ cQ) [.ref h0] [(h0, .inr (1, [.null, .null, .null, .null]))] 20 h0 (fun u => xb cI cB cZ cQ u 20 13) := by
  intro sz
  refine Met.ofW (cc := cX1_init) (maxL := 1) (ret := none) (by decide) rfl ?_
  intro p e s m args below meth c s₁ B hml hv
  obtain ⟨rfl, hsz, hP, hK, hD0, hN⟩ := hv
  have hx := B.exec
  have hb := B.bytes
  have hr := B.returns
  have hts : ∀ w ∈ gT, w.before _ s = true := fun w h => atoms_spec (ws := Cond.code yX1_init cX1_init 1 none :: gT) B.pre w (List.mem_cons_of_mem _ h)
  have hown : s.vm.findClass RX1 = some m.cls := findClass_of_methodNamed B.named
  have hlocks := B.notSynchronized
  have hin : meth.name = "<init>" := (name_of_methodNamed B.named B.method).1
  subst hsz
  have hD := hD0.self (sz := s.heap.size)
  generalize hAe : va_A [(h0, .inr (1, [.null, .null, .null, .null]))] s.heap.size = A at hD ⊢
  have hA : ∀ q : Nat, s.heap.size ≤ q → A q := fun q h => by rw [← hAe]; exact Or.inr h
  have hS : va_S A s.heap s.heap [] := va_S.rf
  have hl := lv_entry ([.ref h0]) (n := 1) (Nat.le_of_ble_eq_true rfl)
  rw [lg_entry_eq]
  generalize (lg_sl ([.ref h0]) ++ List.replicate (1 - (lg_sl ([.ref h0])).length) Slot.unset).toArray = ls at hl ⊢
  have hl : lv_has ls 1 [(0, .ref h0)] := hl
  have hP : va_P D vwCl [(h0, .inr (1, [.null, .null, .null, .null]))] s.heap := hP
  refine lv_aload_n hx hb dX1_init_0 rfl (lv_at hl 0 rfl) ?_
  refine W.objInit hx hb hown (hts _ c_oi1) (hts _ c_ob.1) (hts _ c_ob.2) rfl (by rw [hml]; exact hl.1) rfl dX1_init_1 (Nat.le_of_ble_eq_true rfl) (Nat.le_of_ble_eq_true rfl) ?_
  refine W.eq (g2 := F0 m 4 ls []) rfl ?_
  refine lv_aload_n hx hb dX1_init_4 rfl (lv_at hl 0 rfl) ?_
  refine va_new (ci := 7) (fs := [.int 0, .int 0, .null, .null, .null, .null]) (C := RX7) (T := TX7) (N := 6) hx hb hts x_in7 tyX7 tyX7_ok hown (hts _ c_cl1_9) (hts _ c_is7.1) (hts _ c_is7.2) hK hP hD hS hA rfl c_df7 (Nat.le_of_ble_eq_true rfl) (Nat.le_of_ble_eq_true rfl) dX1_init_5 (fun q1 H hP hD hS => ?_)
  refine W.widen (k := 1) (n := 6) (Nat.le_of_ble_eq_true rfl) (Nat.le_of_ble_eq_true rfl) ?_
  refine lv_dup hx hb dX1_init_8 rfl ?_
  have hPc := hP.sub (ws' := [(q1, .inr (7, [.int 0, .int 0, .null, .null, .null, .null]))]) [1] rfl
  have hDc := hD.sub (ws' := [(q1, .inr (7, [.int 0, .int 0, .null, .null, .null, .null]))]) [1] (by decide) rfl
  have hFc := va_free (wc := [(q1, .inr (7, [.int 0, .int 0, .null, .null, .null, .null]))]) hD hS hA [1] rfl
  refine va_callv (va_runIN (As := []) (rest := [.ref q1, .ref h0]) ⟨hx, hb, hml, hown, hts⟩ (kc_7_21 l D cI cB cZ cQ q1 H.size) ⟨va_cnB (host := "GrottoHours") 0 hts (gT_in (fun w h => (List.mem_cons.mp h).elim (fun e => e ▸ c_cw7.1) id)) rfl rfl rfl (hN _ (List.mem_of_getElem? (i := 51) rfl)) (hts _ c_is7.2) c_cw7.2.2 ⟨(Nat.le_of_ble_eq_true rfl), (Nat.le_of_ble_eq_true rfl)⟩, rfl, hts _ c_cw7.2.1⟩ ⟨fun a U g mk q => by obtain ⟨q0, q1, qP, qK, qD, qN⟩ := q; exact ⟨q0, q1, qP, va_K.moved (u := U) (U := U.calling g mk a) (Vm.Alike.refl U.vm) qK, qD, xNest_warm (State.WarmedH.refl U) qN⟩, fun U hU hW => ⟨rfl, by rw [hU], by rw [hU]; exact hPc, va_K.moved hW.alike hK, hDc.weaken (fun _ _ _ _ => trivial), xNest_warm hW hN⟩⟩ rfl rfl hl.1 rfl (lv_room (Nat.le_of_ble_eq_true rfl)) dX1_init_9 ⟨(Nat.le_of_ble_eq_true rfl), (Nat.le_of_ble_eq_true rfl)⟩) hS (fun q _ h => hFc q h) hFc (fun u1 t H1 locs ht hvm hw hB hz1 hk1 hS => ?_)
  obtain ⟨hu1, hP1, hK1, hD1⟩ := hB
  rw [ht] at hP1
  obtain ⟨hP, hD⟩ := va_join (wr := [(h0, .inr (1, [.null, .null, .null, .null]))]) (w1 := xb cI cB cZ cQ u1 21 5) hP hD [1] [0] rfl rfl (by decide) (by decide) hk1 hFc hP1 hD1
  generalize H1 = H at hP hS ⊢
  have hP : va_P D vwCl (([(h0, .inr (1, [.null, .null, .null, .null]))]) ++ xb cI cB cZ cQ u1 21 5) H := hP
  have hD : va_D A (([(h0, .inr (1, [.null, .null, .null, .null]))]) ++ xb cI cB cZ cQ u1 21 5) := hD
  have hz1 : Value.ref q1 = .ref (u1 21) := by rw [hu1]
  refine W.widen (k := 5) (n := 30) (Nat.le_of_ble_eq_true rfl) (Nat.le_of_ble_eq_true rfl) ?_
  rw [hz1]
  refine va_putF (D := D) (ci := 1) (v := .ref (u1 21)) (ty := tyX1 0) (C := RX1) (T := TX1) (N := 4) hx hb hts x_in1 tyX1 tyX1_ok nmX1 hown hK hP hD hS 0 rfl rfl 0 (by decide) (hts _ xl_X1_12) (fun _ h9 => h9) rfl hin rfl (tyX1_ok 0 (by decide)) rfl rfl (Nat.le_of_ble_eq_true rfl) dX1_init_12 (fun H locs hP hD hS => ?_)
  have hP : va_P D vwCl (([(h0, .inr (1, [.ref (u1 21), .null, .null, .null]))]) ++ xb cI cB cZ cQ u1 21 5) H := hP
  have hD : va_D A (([(h0, .inr (1, [.ref (u1 21), .null, .null, .null]))]) ++ xb cI cB cZ cQ u1 21 5) := hD
  refine lv_aload_n hx hb dX1_init_15 rfl (lv_at hl 0 rfl) ?_
  refine va_new (ci := 0) (fs := [.null, .int 0]) (C := RX0) (T := TX0) (N := 2) hx hb hts x_in0 tyX0 tyX0_ok hown (hts _ c_cl1_18) (hts _ c_is0.1) (hts _ c_is0.2) hK hP hD hS hA rfl c_df0 (Nat.le_of_ble_eq_true rfl) (Nat.le_of_ble_eq_true rfl) dX1_init_16 (fun q2 H hP hD hS => ?_)
  refine W.widen (k := 6) (n := 32) (Nat.le_of_ble_eq_true rfl) (Nat.le_of_ble_eq_true rfl) ?_
  refine lv_dup hx hb dX1_init_19 rfl ?_
  have hPc := hP.sub (ws' := [(q2, .inr (0, [.null, .int 0]))]) [6] rfl
  have hDc := hD.sub (ws' := [(q2, .inr (0, [.null, .int 0]))]) [6] (by decide) rfl
  have hFc := va_free (wc := [(q2, .inr (0, [.null, .int 0]))]) hD hS hA [6] rfl
  refine va_callv (va_runIN (As := []) (rest := [.ref q2, .ref h0]) ⟨hx, hb, hml, hown, hts⟩ (kc_0_26 l D cI cB cZ cQ q2 H.size) ⟨va_cnB (host := "GrottoHours") 0 hts (gT_in (fun w h => (List.mem_cons.mp h).elim (fun e => e ▸ c_cw0.1) id)) rfl rfl rfl (hN _ (List.mem_of_getElem? (i := 65) rfl)) (hts _ c_is0.2) c_cw0.2.2 ⟨(Nat.le_of_ble_eq_true rfl), (Nat.le_of_ble_eq_true rfl)⟩, rfl, hts _ c_cw0.2.1⟩ ⟨fun a U g mk q => by obtain ⟨q0, q1, qP, qK, qD, qN⟩ := q; exact ⟨q0, q1, qP, va_K.moved (u := U) (U := U.calling g mk a) (Vm.Alike.refl U.vm) qK, qD, xNest_warm (State.WarmedH.refl U) qN⟩, fun U hU hW => ⟨rfl, by rw [hU], by rw [hU]; exact hPc, va_K.moved hW.alike hK, hDc.weaken (fun _ _ _ _ => trivial), xNest_warm hW hN⟩⟩ rfl rfl hl.1 rfl (lv_room (Nat.le_of_ble_eq_true rfl)) dX1_init_20 ⟨(Nat.le_of_ble_eq_true rfl), (Nat.le_of_ble_eq_true rfl)⟩) hS (fun q _ h => hFc q h) hFc (fun u2 t H1 locs ht hvm hw hB hz1 hk1 hS => ?_)
  obtain ⟨hu2, hP1, hK1, hD1⟩ := hB
  rw [ht] at hP1
  obtain ⟨hP, hD⟩ := va_join (wr := ([(h0, .inr (1, [.ref (u1 21), .null, .null, .null]))]) ++ xb cI cB cZ cQ u1 21 5) (w1 := xb cI cB cZ cQ u2 26 2) hP hD [6] [0, 1, 2, 3, 4, 5] rfl rfl (by decide) (by decide) hk1 hFc hP1 hD1
  generalize H1 = H at hP hS ⊢
  have hP : va_P D vwCl ((([(h0, .inr (1, [.ref (u1 21), .null, .null, .null]))]) ++ xb cI cB cZ cQ u1 21 5) ++ xb cI cB cZ cQ u2 26 2) H := hP
  have hD : va_D A ((([(h0, .inr (1, [.ref (u1 21), .null, .null, .null]))]) ++ xb cI cB cZ cQ u1 21 5) ++ xb cI cB cZ cQ u2 26 2) := hD
  have hz2 : Value.ref q2 = .ref (u2 26) := by rw [hu2]
  refine W.widen (k := 7) (n := 1072) (Nat.le_of_ble_eq_true rfl) (Nat.le_of_ble_eq_true rfl) ?_
  rw [hz2]
  refine va_putF (D := D) (ci := 1) (v := .ref (u2 26)) (ty := tyX1 1) (C := RX1) (T := TX1) (N := 4) hx hb hts x_in1 tyX1 tyX1_ok nmX1 hown hK hP hD hS 0 rfl rfl 1 (by decide) (hts _ xl_X1_21) (fun _ h9 => h9) rfl hin rfl (tyX1_ok 1 (by decide)) rfl rfl (Nat.le_of_ble_eq_true rfl) dX1_init_23 (fun H locs hP hD hS => ?_)
  have hP : va_P D vwCl ((([(h0, .inr (1, [.ref (u1 21), .ref (u2 26), .null, .null]))]) ++ xb cI cB cZ cQ u1 21 5) ++ xb cI cB cZ cQ u2 26 2) H := hP
  have hD : va_D A ((([(h0, .inr (1, [.ref (u1 21), .ref (u2 26), .null, .null]))]) ++ xb cI cB cZ cQ u1 21 5) ++ xb cI cB cZ cQ u2 26 2) := hD
  refine lv_aload_n hx hb dX1_init_26 rfl (lv_at hl 0 rfl) ?_
  refine va_new (ci := 5) (fs := [.null, .null, .null, .int 0]) (C := RX5) (T := TX5) (N := 4) hx hb hts x_in5 tyX5 tyX5_ok hown (hts _ c_cl1_25) (hts _ c_is5.1) (hts _ c_is5.2) hK hP hD hS hA rfl c_df5 (Nat.le_of_ble_eq_true rfl) (Nat.le_of_ble_eq_true rfl) dX1_init_27 (fun q3 H hP hD hS => ?_)
  refine W.widen (k := 8) (n := 1076) (Nat.le_of_ble_eq_true rfl) (Nat.le_of_ble_eq_true rfl) ?_
  refine lv_dup hx hb dX1_init_30 rfl ?_
  have hPc := hP.sub (ws' := [(q3, .inr (5, [.null, .null, .null, .int 0]))]) [8] rfl
  have hDc := hD.sub (ws' := [(q3, .inr (5, [.null, .null, .null, .int 0]))]) [8] (by decide) rfl
  have hFc := va_free (wc := [(q3, .inr (5, [.null, .null, .null, .int 0]))]) hD hS hA [8] rfl
  refine va_callv (va_runIN (As := []) (rest := [.ref q3, .ref h0]) ⟨hx, hb, hml, hown, hts⟩ (kc_5_28 l D cI cB cZ cQ q3 H.size) ⟨va_cnB (host := "GrottoHours") 0 hts (gT_in (fun w h => (List.mem_cons.mp h).elim (fun e => e ▸ c_cw5.1) id)) rfl rfl rfl (hN _ (List.mem_of_getElem? (i := 68) rfl)) (hts _ c_is5.2) c_cw5.2.2 ⟨(Nat.le_of_ble_eq_true rfl), (Nat.le_of_ble_eq_true rfl)⟩, rfl, hts _ c_cw5.2.1⟩ ⟨fun a U g mk q => by obtain ⟨q0, q1, qP, qK, qD, qN⟩ := q; exact ⟨q0, q1, qP, va_K.moved (u := U) (U := U.calling g mk a) (Vm.Alike.refl U.vm) qK, qD, xNest_warm (State.WarmedH.refl U) qN⟩, fun U hU hW => ⟨rfl, by rw [hU], by rw [hU]; exact hPc, va_K.moved hW.alike hK, hDc.weaken (fun _ _ _ _ => trivial), xNest_warm hW hN⟩⟩ rfl rfl hl.1 rfl (lv_room (Nat.le_of_ble_eq_true rfl)) dX1_init_31 ⟨(Nat.le_of_ble_eq_true rfl), (Nat.le_of_ble_eq_true rfl)⟩) hS (fun q _ h => hFc q h) hFc (fun u3 t H1 locs ht hvm hw hB hz1 hk1 hS => ?_)
  obtain ⟨hu3, hP1, hK1, hD1⟩ := hB
  rw [ht] at hP1
  obtain ⟨hP, hD⟩ := va_join (wr := (([(h0, .inr (1, [.ref (u1 21), .ref (u2 26), .null, .null]))]) ++ xb cI cB cZ cQ u1 21 5) ++ xb cI cB cZ cQ u2 26 2) (w1 := xb cI cB cZ cQ u3 28 4) hP hD [8] [0, 1, 2, 3, 4, 5, 6, 7] rfl rfl (by decide) (by decide) hk1 hFc hP1 hD1
  generalize H1 = H at hP hS ⊢
  have hP : va_P D vwCl (((([(h0, .inr (1, [.ref (u1 21), .ref (u2 26), .null, .null]))]) ++ xb cI cB cZ cQ u1 21 5) ++ xb cI cB cZ cQ u2 26 2) ++ xb cI cB cZ cQ u3 28 4) H := hP
  have hD : va_D A (((([(h0, .inr (1, [.ref (u1 21), .ref (u2 26), .null, .null]))]) ++ xb cI cB cZ cQ u1 21 5) ++ xb cI cB cZ cQ u2 26 2) ++ xb cI cB cZ cQ u3 28 4) := hD
  have hz3 : Value.ref q3 = .ref (u3 28) := by rw [hu3]
  refine W.widen (k := 11) (n := 1100) (Nat.le_of_ble_eq_true rfl) (Nat.le_of_ble_eq_true rfl) ?_
  rw [hz3]
  refine va_putF (D := D) (ci := 1) (v := .ref (u3 28)) (ty := tyX1 2) (C := RX1) (T := TX1) (N := 4) hx hb hts x_in1 tyX1 tyX1_ok nmX1 hown hK hP hD hS 0 rfl rfl 2 (by decide) (hts _ xl_X1_28) (fun _ h9 => h9) rfl hin rfl (tyX1_ok 2 (by decide)) rfl rfl (Nat.le_of_ble_eq_true rfl) dX1_init_34 (fun H locs hP hD hS => ?_)
  have hP : va_P D vwCl (((([(h0, .inr (1, [.ref (u1 21), .ref (u2 26), .ref (u3 28), .null]))]) ++ xb cI cB cZ cQ u1 21 5) ++ xb cI cB cZ cQ u2 26 2) ++ xb cI cB cZ cQ u3 28 4) H := hP
  have hD : va_D A (((([(h0, .inr (1, [.ref (u1 21), .ref (u2 26), .ref (u3 28), .null]))]) ++ xb cI cB cZ cQ u1 21 5) ++ xb cI cB cZ cQ u2 26 2) ++ xb cI cB cZ cQ u3 28 4) := hD
  refine lv_aload_n hx hb dX1_init_37 rfl (lv_at hl 0 rfl) ?_
  refine lv_iconst (v := 3) hx hb dX1_init_38 (by decide) ?_
  refine c_newa (atype := .int) (a0 := (3, .inl (fun _ => 0))) hx hb (hts _ c_ac_int) rfl (fun _ h => by cases h) hK (t0 := 0) rfl hP hD hS hA (fun _ => rfl) (by decide) (by decide) (Nat.le_of_ble_eq_true rfl) (Nat.le_of_ble_eq_true rfl) (Nat.le_of_ble_eq_true rfl) dX1_init_39 (fun q4 H hP hD hS => ?_)
  have hP : va_P D vwCl ((((([(h0, .inr (1, [.ref (u1 21), .ref (u2 26), .ref (u3 28), .null]))]) ++ xb cI cB cZ cQ u1 21 5) ++ xb cI cB cZ cQ u2 26 2) ++ xb cI cB cZ cQ u3 28 4) ++ [(q4, .inl (cI, 3, .inl (fun _ => 0)))]) H := hP
  have hD : va_D A ((((([(h0, .inr (1, [.ref (u1 21), .ref (u2 26), .ref (u3 28), .null]))]) ++ xb cI cB cZ cQ u1 21 5) ++ xb cI cB cZ cQ u2 26 2) ++ xb cI cB cZ cQ u3 28 4) ++ [(q4, .inl (cI, 3, .inl (fun _ => 0)))]) := hD
  refine W.widen (k := 12) (n := 1103) (Nat.le_of_ble_eq_true rfl) (Nat.le_of_ble_eq_true rfl) ?_
  refine va_putF (D := D) (ci := 1) (v := .ref q4) (ty := tyX1 3) (C := RX1) (T := TX1) (N := 4) hx hb hts x_in1 tyX1 tyX1_ok nmX1 hown hK hP hD hS 0 rfl rfl 3 (by decide) (hts _ xl_X1_32) (fun _ h9 => h9) rfl hin rfl (tyX1_ok 3 (by decide)) rfl rfl (Nat.le_of_ble_eq_true rfl) dX1_init_41 (fun H locs hP hD hS => ?_)
  have hP : va_P D vwCl ((((([(h0, .inr (1, [.ref (u1 21), .ref (u2 26), .ref (u3 28), .ref q4]))]) ++ xb cI cB cZ cQ u1 21 5) ++ xb cI cB cZ cQ u2 26 2) ++ xb cI cB cZ cQ u3 28 4) ++ [(q4, .inl (cI, 3, .inl (fun _ => 0)))]) H := hP
  have hD : va_D A ((((([(h0, .inr (1, [.ref (u1 21), .ref (u2 26), .ref (u3 28), .ref q4]))]) ++ xb cI cB cZ cQ u1 21 5) ++ xb cI cB cZ cQ u2 26 2) ++ xb cI cB cZ cQ u3 28 4) ++ [(q4, .inl (cI, 3, .inl (fun _ => 0)))]) := hD
  have hP9 : va_P D vwCl (xb cI cB cZ cQ (xj (xj (xj (xj (fun _ => h0) 21 u1) 26 u2) 28 u3) 32 (fun _ => q4)) 20 13) H := hP
  have hD9 : va_D A (xb cI cB cZ cQ (xj (xj (xj (xj (fun _ => h0) 21 u1) 26 u2) 28 u3) 32 (fun _ => q4)) 20 13) := hD
  exact W.vret hx hb hr (fun t ht hW => ⟨⟨(xj (xj (xj (xj (fun _ => h0) 21 u1) 26 u2) 28 u3) 32 (fun _ => q4)), rfl, trivial, rfl, by rw [ht]; exact hP9, va_K.moved hW.alike hK, hD9⟩, hS.F ht⟩) hS.2.2 dX1_init_44 hlocks
