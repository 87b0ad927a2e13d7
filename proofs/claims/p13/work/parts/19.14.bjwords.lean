/-! words of the class's calls and constants (printed by wip/whole/mkxwords.py) -/
theorem xv_X12_210 : gWV RX12 210 yJ0_length_8abf5 cJ0_length_8abf5 1 (some .int) 0 := ⟨gT_c7 167 rfl rfl, xi_J0_length_8abf5.1, xi_J0_length_8abf5.2, xini_J0, xc_J0_length_8abf5, xd_J0_length_8abf5⟩
theorem xv_X12_214 : gWV RX12 214 yJ0_charAt_5068e cJ0_charAt_5068e 2 (some .char) 1 := ⟨gT_c7 168 rfl rfl, xi_J0_charAt_5068e.1, xi_J0_charAt_5068e.2, xini_J0, xc_J0_charAt_5068e, xd_J0_charAt_5068e⟩
theorem xc_J0_coder_7d493 : Cond.code yJ0_coder_7d493 cJ0_coder_7d493 1 (some .byte) ∈ gT := gT_c3 229 rfl rfl
theorem xi_J0_coder_7d493 : Cond.instanceMethod yJ0_coder_7d493 ∈ gT ∧ Cond.selects yJ0_coder_7d493.cls yJ0_coder_7d493 yJ0_coder_7d493 ∈ gT := ⟨gT_c3 227 rfl rfl, gT_c3 228 rfl rfl⟩
theorem xd_J0_coder_7d493 : yJ0_coder_7d493.cls ≠ "java/lang/invoke/MethodHandle" ∧ yJ0_coder_7d493.cls ≠ "java/lang/invoke/VarHandle" ∧ (parseMethodDescriptor yJ0_coder_7d493.desc).map (fun d => d.parameters.length) = some 0 := by decide +kernel
theorem xv_J0_335 : gWV RJ0 335 yJ0_coder_7d493 cJ0_coder_7d493 1 (some .byte) 0 := ⟨gT_c3 226 rfl rfl, xi_J0_coder_7d493.1, xi_J0_coder_7d493.2, xini_J0, xc_J0_coder_7d493, xd_J0_coder_7d493⟩
theorem xc_J0_isLatin1_aae02 : Cond.code yJ0_isLatin1_aae02 cJ0_isLatin1_aae02 1 (some .boolean) ∈ gT := gT_c3 219 rfl rfl
theorem xi_J0_isLatin1_aae02 : Cond.instanceMethod yJ0_isLatin1_aae02 ∈ gT ∧ Cond.selects yJ0_isLatin1_aae02.cls yJ0_isLatin1_aae02 yJ0_isLatin1_aae02 ∈ gT := ⟨gT_c3 217 rfl rfl, gT_c3 218 rfl rfl⟩
theorem xd_J0_isLatin1_aae02 : yJ0_isLatin1_aae02.cls ≠ "java/lang/invoke/MethodHandle" ∧ yJ0_isLatin1_aae02.cls ≠ "java/lang/invoke/VarHandle" ∧ (parseMethodDescriptor yJ0_isLatin1_aae02.desc).map (fun d => d.parameters.length) = some 0 := by decide +kernel
theorem xv_J0_492 : gWV RJ0 492 yJ0_isLatin1_aae02 cJ0_isLatin1_aae02 1 (some .boolean) 0 := ⟨gT_c3 216 rfl rfl, xi_J0_isLatin1_aae02.1, xi_J0_isLatin1_aae02.2, xini_J0, xc_J0_isLatin1_aae02, xd_J0_isLatin1_aae02⟩
theorem xc_J1_charAt_3b067 : Cond.code yJ1_charAt_3b067 cJ1_charAt_3b067 2 (some .char) ∈ gT := gT_c4 70 rfl rfl
theorem xt_J1_charAt_3b067 : Cond.static yJ1_charAt_3b067 ∈ gT := gT_c4 69 rfl rfl
theorem xd_J1_charAt_3b067 : yJ1_charAt_3b067.cls ≠ "java/lang/invoke/MethodHandle" ∧ yJ1_charAt_3b067.cls ≠ "java/lang/invoke/VarHandle" ∧ (parseMethodDescriptor yJ1_charAt_3b067.desc).map (fun d => d.parameters.length) = some 2 := by decide +kernel
theorem xini_J1 : Cond.initialized RJ1 ∈ gT := gT_c1 20 rfl rfl
theorem xv_J0_495 : gWO RJ0 495 yJ1_charAt_3b067 cJ1_charAt_3b067 2 (some .char) 2 := ⟨gT_c4 68 rfl rfl, xt_J1_charAt_3b067, xini_J1, xc_J1_charAt_3b067, xd_J1_charAt_3b067⟩
theorem xc_J2_charAt_3b067 : Cond.code yJ2_charAt_3b067 cJ2_charAt_3b067 2 (some .char) ∈ gT := gT_c4 79 rfl rfl
theorem xt_J2_charAt_3b067 : Cond.static yJ2_charAt_3b067 ∈ gT := gT_c4 78 rfl rfl
theorem xd_J2_charAt_3b067 : yJ2_charAt_3b067.cls ≠ "java/lang/invoke/MethodHandle" ∧ yJ2_charAt_3b067.cls ≠ "java/lang/invoke/VarHandle" ∧ (parseMethodDescriptor yJ2_charAt_3b067.desc).map (fun d => d.parameters.length) = some 2 := by decide +kernel
theorem xini_J2 : Cond.initialized RJ2 ∈ gT := gT_c1 21 rfl rfl
theorem xv_J0_498 : gWO RJ0 498 yJ2_charAt_3b067 cJ2_charAt_3b067 2 (some .char) 2 := ⟨gT_c4 77 rfl rfl, xt_J2_charAt_3b067, xini_J2, xc_J2_charAt_3b067, xd_J2_charAt_3b067⟩
theorem xv_J0_505 : gWV RJ0 505 yJ0_length_8abf5 cJ0_length_8abf5 1 (some .int) 0 := ⟨gT_c3 222 rfl rfl, xi_J0_length_8abf5.1, xi_J0_length_8abf5.2, xini_J0, xc_J0_length_8abf5, xd_J0_length_8abf5⟩
theorem xc_J0_indexOf_7cf53 : Cond.code yJ0_indexOf_7cf53 cJ0_indexOf_7cf53 3 (some .int) ∈ gT := gT_c3 215 rfl rfl
theorem xi_J0_indexOf_7cf53 : Cond.instanceMethod yJ0_indexOf_7cf53 ∈ gT ∧ Cond.selects yJ0_indexOf_7cf53.cls yJ0_indexOf_7cf53 yJ0_indexOf_7cf53 ∈ gT := ⟨gT_c3 213 rfl rfl, gT_c3 214 rfl rfl⟩
theorem xd_J0_indexOf_7cf53 : yJ0_indexOf_7cf53.cls ≠ "java/lang/invoke/MethodHandle" ∧ yJ0_indexOf_7cf53.cls ≠ "java/lang/invoke/VarHandle" ∧ (parseMethodDescriptor yJ0_indexOf_7cf53.desc).map (fun d => d.parameters.length) = some 2 := by decide +kernel
theorem xv_J0_633 : gWV RJ0 633 yJ0_indexOf_7cf53 cJ0_indexOf_7cf53 3 (some .int) 2 := ⟨gT_c3 212 rfl rfl, xi_J0_indexOf_7cf53.1, xi_J0_indexOf_7cf53.2, xini_J0, xc_J0_indexOf_7cf53, xd_J0_indexOf_7cf53⟩
theorem xc_J1_indexOf_4cfef : Cond.code yJ1_indexOf_4cfef cJ1_indexOf_4cfef 4 (some .int) ∈ gT := gT_c3 232 rfl rfl
theorem xt_J1_indexOf_4cfef : Cond.static yJ1_indexOf_4cfef ∈ gT := gT_c3 231 rfl rfl
theorem xd_J1_indexOf_4cfef : yJ1_indexOf_4cfef.cls ≠ "java/lang/invoke/MethodHandle" ∧ yJ1_indexOf_4cfef.cls ≠ "java/lang/invoke/VarHandle" ∧ (parseMethodDescriptor yJ1_indexOf_4cfef.desc).map (fun d => d.parameters.length) = some 4 := by decide +kernel
theorem xv_J0_637 : gWO RJ0 637 yJ1_indexOf_4cfef cJ1_indexOf_4cfef 4 (some .int) 4 := ⟨gT_c3 230 rfl rfl, xt_J1_indexOf_4cfef, xini_J1, xc_J1_indexOf_4cfef, xd_J1_indexOf_4cfef⟩
theorem xc_J2_indexOf_4cfef : Cond.code yJ2_indexOf_4cfef cJ2_indexOf_4cfef 4 (some .int) ∈ gT := gT_c4 3 rfl rfl
theorem xt_J2_indexOf_4cfef : Cond.static yJ2_indexOf_4cfef ∈ gT := gT_c4 2 rfl rfl
theorem xd_J2_indexOf_4cfef : yJ2_indexOf_4cfef.cls ≠ "java/lang/invoke/MethodHandle" ∧ yJ2_indexOf_4cfef.cls ≠ "java/lang/invoke/VarHandle" ∧ (parseMethodDescriptor yJ2_indexOf_4cfef.desc).map (fun d => d.parameters.length) = some 4 := by decide +kernel
theorem xv_J0_640 : gWO RJ0 640 yJ2_indexOf_4cfef cJ2_indexOf_4cfef 4 (some .int) 4 := ⟨gT_c4 1 rfl rfl, xt_J2_indexOf_4cfef, xini_J2, xc_J2_indexOf_4cfef, xd_J2_indexOf_4cfef⟩
theorem xc_J3_checkIndex_8e157 : Cond.code yJ3_checkIndex_8e157 cJ3_checkIndex_8e157 3 (some .int) ∈ gT := gT_c4 76 rfl rfl
theorem xt_J3_checkIndex_8e157 : Cond.static yJ3_checkIndex_8e157 ∈ gT := gT_c4 75 rfl rfl
theorem xd_J3_checkIndex_8e157 : yJ3_checkIndex_8e157.cls ≠ "java/lang/invoke/MethodHandle" ∧ yJ3_checkIndex_8e157.cls ≠ "java/lang/invoke/VarHandle" ∧ (parseMethodDescriptor yJ3_checkIndex_8e157.desc).map (fun d => d.parameters.length) = some 3 := by decide +kernel
theorem xini_J3 : Cond.initialized RJ3 ∈ gT := gT_c1 22 rfl rfl
theorem xv_J0_1059 : gWO RJ0 1059 yJ3_checkIndex_8e157 cJ3_checkIndex_8e157 3 (some .int) 3 := ⟨gT_c4 74 rfl rfl, xt_J3_checkIndex_8e157, xini_J3, xc_J3_checkIndex_8e157, xd_J3_checkIndex_8e157⟩
theorem xc_J0_checkIndex_df160 : Cond.code yJ0_checkIndex_df160 cJ0_checkIndex_df160 2 none ∈ gT := gT_c4 73 rfl rfl
theorem xt_J0_checkIndex_df160 : Cond.static yJ0_checkIndex_df160 ∈ gT := gT_c4 72 rfl rfl
theorem xd_J0_checkIndex_df160 : yJ0_checkIndex_df160.cls ≠ "java/lang/invoke/MethodHandle" ∧ yJ0_checkIndex_df160.cls ≠ "java/lang/invoke/VarHandle" ∧ (parseMethodDescriptor yJ0_checkIndex_df160.desc).map (fun d => d.parameters.length) = some 2 := by decide +kernel
theorem xv_J1_9 : gWO RJ1 9 yJ0_checkIndex_df160 cJ0_checkIndex_df160 2 none 2 := ⟨gT_c4 71 rfl rfl, xt_J0_checkIndex_df160, xini_J0, xc_J0_checkIndex_df160, xd_J0_checkIndex_df160⟩
theorem xMmin_J1_38 : Cond.methodLink RJ1 38 Lib.Math.min.name ∈ gT ∧ Cond.static Lib.Math.min.name ∈ gT ∧ Cond.initialized "java/lang/Math" ∈ gT ∧ Cond.code Lib.Math.min.name Lib.Math.min.code 2 (some .int) ∈ gT := ⟨gT_c3 237 rfl rfl, xm_min⟩
theorem xc_J1_canEncode_9a6ad : Cond.code yJ1_canEncode_9a6ad cJ1_canEncode_9a6ad 1 (some .boolean) ∈ gT := gT_c3 235 rfl rfl
theorem xt_J1_canEncode_9a6ad : Cond.static yJ1_canEncode_9a6ad ∈ gT := gT_c3 234 rfl rfl
theorem xd_J1_canEncode_9a6ad : yJ1_canEncode_9a6ad.cls ≠ "java/lang/invoke/MethodHandle" ∧ yJ1_canEncode_9a6ad.cls ≠ "java/lang/invoke/VarHandle" ∧ (parseMethodDescriptor yJ1_canEncode_9a6ad.desc).map (fun d => d.parameters.length) = some 1 := by decide +kernel
theorem xv_J1_88 : gWS RJ1 88 yJ1_canEncode_9a6ad cJ1_canEncode_9a6ad 1 (some .boolean) 1 := ⟨gT_c3 233 rfl rfl, xt_J1_canEncode_9a6ad, xini_J1, xc_J1_canEncode_9a6ad, rfl, xd_J1_canEncode_9a6ad⟩
theorem xMmax_J1_92 : Cond.methodLink RJ1 92 Lib.Math.max.name ∈ gT ∧ Cond.static Lib.Math.max.name ∈ gT ∧ Cond.initialized "java/lang/Math" ∈ gT ∧ Cond.code Lib.Math.max.name Lib.Math.max.code 2 (some .int) ∈ gT := ⟨gT_c3 236 rfl rfl, xm_max⟩
theorem xc_J1_indexOfChar_4cfef : Cond.code yJ1_indexOfChar_4cfef cJ1_indexOfChar_4cfef 6 (some .int) ∈ gT := gT_c4 0 rfl rfl
theorem xt_J1_indexOfChar_4cfef : Cond.static yJ1_indexOfChar_4cfef ∈ gT := gT_c3 239 rfl rfl
theorem xd_J1_indexOfChar_4cfef : yJ1_indexOfChar_4cfef.cls ≠ "java/lang/invoke/MethodHandle" ∧ yJ1_indexOfChar_4cfef.cls ≠ "java/lang/invoke/VarHandle" ∧ (parseMethodDescriptor yJ1_indexOfChar_4cfef.desc).map (fun d => d.parameters.length) = some 4 := by decide +kernel
theorem xv_J1_95 : gWS RJ1 95 yJ1_indexOfChar_4cfef cJ1_indexOfChar_4cfef 6 (some .int) 4 := ⟨gT_c3 238 rfl rfl, xt_J1_indexOfChar_4cfef, xini_J1, xc_J1_indexOfChar_4cfef, rfl, xd_J1_indexOfChar_4cfef⟩
theorem xl_J0_38 : Cond.fieldLink RJ0 38 "java/lang/String" "COMPACT_STRINGS" "Z" ∈ gT := gT_c3 220 rfl rfl
theorem xl_J0_1053 : Cond.fieldLink RJ0 1053 "jdk/internal/util/Preconditions" "SIOOBE_FORMATTER" "Ljava/util/function/BiFunction;" ∈ gT := gT_c4 19 rfl rfl
theorem xl_J0_15 : Cond.fieldLink RJ0 15 "java/lang/String" "coder" "B" ∈ gT := gT_c9 96 rfl rfl
theorem xl_J0_9 : Cond.fieldLink RJ0 9 "java/lang/String" "value" "[B" ∈ gT := gT_c9 97 rfl rfl
