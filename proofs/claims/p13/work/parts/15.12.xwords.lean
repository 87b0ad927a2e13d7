/-! words of the class's calls and constants (printed by wip/whole/mkxwords.py) -/
theorem xc_X8_add : Cond.code yX8_add cX8_add 3 none ∈ gT := gT_c2 196 rfl rfl
theorem xi_X8_add : Cond.instanceMethod yX8_add ∈ gT ∧ Cond.selects yX8_add.cls yX8_add yX8_add ∈ gT := ⟨gT_c2 194 rfl rfl, gT_c2 195 rfl rfl⟩
theorem xd_X8_add : yX8_add.cls ≠ "java/lang/invoke/MethodHandle" ∧ yX8_add.cls ≠ "java/lang/invoke/VarHandle" ∧ (parseMethodDescriptor yX8_add.desc).map (fun d => d.parameters.length) = some 1 := by decide +kernel
theorem xini_X8 : Cond.initialized RX8 ∈ gT := gT_c1 3 rfl rfl
theorem xv_X11_78 : gWV RX11 78 yX8_add cX8_add 3 none 1 := ⟨gT_c2 193 rfl rfl, xi_X8_add.1, xi_X8_add.2, xini_X8, xc_X8_add, xd_X8_add⟩
theorem xc_X3_read : Cond.code yX3_read cX3_read 3 (some .int) ∈ gT := gT_c3 182 rfl rfl
theorem xi_X3_read : Cond.instanceMethod yX3_read ∈ gT ∧ Cond.selects yX3_read.cls yX3_read yX3_read ∈ gT := ⟨gT_c3 180 rfl rfl, gT_c3 181 rfl rfl⟩
theorem xd_X3_read : yX3_read.cls ≠ "java/lang/invoke/MethodHandle" ∧ yX3_read.cls ≠ "java/lang/invoke/VarHandle" ∧ (parseMethodDescriptor yX3_read.desc).map (fun d => d.parameters.length) = some 1 := by decide +kernel
theorem xini_X3 : Cond.initialized RX3 ∈ gT := gT_c1 2 rfl rfl
theorem xv_X11_89 : gWV RX11 89 yX3_read cX3_read 3 (some .int) 1 := ⟨gT_c3 179 rfl rfl, xi_X3_read.1, xi_X3_read.2, xini_X3, xc_X3_read, xd_X3_read⟩
theorem xc_X1_refuse : Cond.code yX1_refuse cX1_refuse 2 (some .int) ∈ gT := gT_c2 211 rfl rfl
theorem xi_X1_refuse : Cond.instanceMethod yX1_refuse ∈ gT ∧ Cond.selects yX1_refuse.cls yX1_refuse yX1_refuse ∈ gT := ⟨gT_c2 209 rfl rfl, gT_c2 210 rfl rfl⟩
theorem xd_X1_refuse : yX1_refuse.cls ≠ "java/lang/invoke/MethodHandle" ∧ yX1_refuse.cls ≠ "java/lang/invoke/VarHandle" ∧ (parseMethodDescriptor yX1_refuse.desc).map (fun d => d.parameters.length) = some 1 := by decide +kernel
theorem xini_X1 : Cond.initialized RX1 ∈ gT := gT_c1 6 rfl rfl
theorem xv_X11_93 : gWV RX11 93 yX1_refuse cX1_refuse 2 (some .int) 1 := ⟨gT_c2 208 rfl rfl, xi_X1_refuse.1, xi_X1_refuse.2, xini_X1, xc_X1_refuse, xd_X1_refuse⟩
theorem xc_X1_begin : Cond.code yX1_begin cX1_begin 2 none ∈ gT := gT_c4 188 rfl rfl
theorem xi_X1_begin : Cond.instanceMethod yX1_begin ∈ gT ∧ Cond.selects yX1_begin.cls yX1_begin yX1_begin ∈ gT := ⟨gT_c4 186 rfl rfl, gT_c4 187 rfl rfl⟩
theorem xd_X1_begin : yX1_begin.cls ≠ "java/lang/invoke/MethodHandle" ∧ yX1_begin.cls ≠ "java/lang/invoke/VarHandle" ∧ (parseMethodDescriptor yX1_begin.desc).map (fun d => d.parameters.length) = some 1 := by decide +kernel
theorem xv_X11_98 : gWV RX11 98 yX1_begin cX1_begin 2 none 1 := ⟨gT_c4 185 rfl rfl, xi_X1_begin.1, xi_X1_begin.2, xini_X1, xc_X1_begin, xd_X1_begin⟩
theorem xc_X9_wetOf : Cond.code yX9_wetOf cX9_wetOf 2 (some .int) ∈ gT := gT_c2 230 rfl rfl
theorem xi_X9_wetOf : Cond.instanceMethod yX9_wetOf ∈ gT ∧ Cond.selects yX9_wetOf.cls yX9_wetOf yX9_wetOf ∈ gT := ⟨gT_c2 228 rfl rfl, gT_c2 229 rfl rfl⟩
theorem xd_X9_wetOf : yX9_wetOf.cls ≠ "java/lang/invoke/MethodHandle" ∧ yX9_wetOf.cls ≠ "java/lang/invoke/VarHandle" ∧ (parseMethodDescriptor yX9_wetOf.desc).map (fun d => d.parameters.length) = some 1 := by decide +kernel
theorem xini_X9 : Cond.initialized RX9 ∈ gT := gT_c1 4 rfl rfl
theorem xv_X11_117 : gWV RX11 117 yX9_wetOf cX9_wetOf 2 (some .int) 1 := ⟨gT_c2 227 rfl rfl, xi_X9_wetOf.1, xi_X9_wetOf.2, xini_X9, xc_X9_wetOf, xd_X9_wetOf⟩
theorem xc_X9_mostSin : Cond.code yX9_mostSin cX9_mostSin 1 (some .int) ∈ gT := gT_c3 56 rfl rfl
theorem xi_X9_mostSin : Cond.instanceMethod yX9_mostSin ∈ gT ∧ Cond.selects yX9_mostSin.cls yX9_mostSin yX9_mostSin ∈ gT := ⟨gT_c3 54 rfl rfl, gT_c3 55 rfl rfl⟩
theorem xd_X9_mostSin : yX9_mostSin.cls ≠ "java/lang/invoke/MethodHandle" ∧ yX9_mostSin.cls ≠ "java/lang/invoke/VarHandle" ∧ (parseMethodDescriptor yX9_mostSin.desc).map (fun d => d.parameters.length) = some 0 := by decide +kernel
theorem xv_X11_120 : gWV RX11 120 yX9_mostSin cX9_mostSin 1 (some .int) 0 := ⟨gT_c4 201 rfl rfl, xi_X9_mostSin.1, xi_X9_mostSin.2, xini_X9, xc_X9_mostSin, xd_X9_mostSin⟩
theorem xc_X7_hiredBits : Cond.code yX7_hiredBits cX7_hiredBits 4 (some .int) ∈ gT := gT_c4 205 rfl rfl
theorem xi_X7_hiredBits : Cond.instanceMethod yX7_hiredBits ∈ gT ∧ Cond.selects yX7_hiredBits.cls yX7_hiredBits yX7_hiredBits ∈ gT := ⟨gT_c4 203 rfl rfl, gT_c4 204 rfl rfl⟩
theorem xd_X7_hiredBits : yX7_hiredBits.cls ≠ "java/lang/invoke/MethodHandle" ∧ yX7_hiredBits.cls ≠ "java/lang/invoke/VarHandle" ∧ (parseMethodDescriptor yX7_hiredBits.desc).map (fun d => d.parameters.length) = some 1 := by decide +kernel
theorem xini_X7 : Cond.initialized RX7 ∈ gT := gT_c1 7 rfl rfl
theorem xv_X11_124 : gWV RX11 124 yX7_hiredBits cX7_hiredBits 4 (some .int) 1 := ⟨gT_c4 202 rfl rfl, xi_X7_hiredBits.1, xi_X7_hiredBits.2, xini_X7, xc_X7_hiredBits, xd_X7_hiredBits⟩
theorem xc_X7_purses : Cond.code yX7_purses cX7_purses 4 (some .int) ∈ gT := gT_c4 209 rfl rfl
theorem xi_X7_purses : Cond.instanceMethod yX7_purses ∈ gT ∧ Cond.selects yX7_purses.cls yX7_purses yX7_purses ∈ gT := ⟨gT_c4 207 rfl rfl, gT_c4 208 rfl rfl⟩
theorem xd_X7_purses : yX7_purses.cls ≠ "java/lang/invoke/MethodHandle" ∧ yX7_purses.cls ≠ "java/lang/invoke/VarHandle" ∧ (parseMethodDescriptor yX7_purses.desc).map (fun d => d.parameters.length) = some 1 := by decide +kernel
theorem xv_X11_131 : gWV RX11 131 yX7_purses cX7_purses 4 (some .int) 1 := ⟨gT_c4 206 rfl rfl, xi_X7_purses.1, xi_X7_purses.2, xini_X7, xc_X7_purses, xd_X7_purses⟩
theorem xc_X7_sins : Cond.code yX7_sins cX7_sins 4 (some .int) ∈ gT := gT_c4 213 rfl rfl
theorem xi_X7_sins : Cond.instanceMethod yX7_sins ∈ gT ∧ Cond.selects yX7_sins.cls yX7_sins yX7_sins ∈ gT := ⟨gT_c4 211 rfl rfl, gT_c4 212 rfl rfl⟩
theorem xd_X7_sins : yX7_sins.cls ≠ "java/lang/invoke/MethodHandle" ∧ yX7_sins.cls ≠ "java/lang/invoke/VarHandle" ∧ (parseMethodDescriptor yX7_sins.desc).map (fun d => d.parameters.length) = some 1 := by decide +kernel
theorem xv_X11_134 : gWV RX11 134 yX7_sins cX7_sins 4 (some .int) 1 := ⟨gT_c4 210 rfl rfl, xi_X7_sins.1, xi_X7_sins.2, xini_X7, xc_X7_sins, xd_X7_sins⟩
theorem xc_X11_needGrotto : Cond.code yX11_needGrotto cX11_needGrotto 2 none ∈ gT := gT_c5 0 rfl rfl
theorem xi_X11_needGrotto : Cond.instanceMethod yX11_needGrotto ∈ gT ∧ Cond.selects yX11_needGrotto.cls yX11_needGrotto yX11_needGrotto ∈ gT := ⟨gT_c4 239 rfl rfl, gT_of 23 (by decide +kernel) rfl⟩
theorem xd_X11_needGrotto : yX11_needGrotto.cls ≠ "java/lang/invoke/MethodHandle" ∧ yX11_needGrotto.cls ≠ "java/lang/invoke/VarHandle" ∧ (parseMethodDescriptor yX11_needGrotto.desc).map (fun d => d.parameters.length) = some 1 := by decide +kernel
theorem xini_X11 : Cond.initialized RX11 ∈ gT := gT_c1 1 rfl rfl
theorem xv_X11_162 : gWV RX11 162 yX11_needGrotto cX11_needGrotto 2 none 1 := ⟨gT_c4 237 rfl rfl, xi_X11_needGrotto.1, xi_X11_needGrotto.2, xini_X11, xc_X11_needGrotto, xd_X11_needGrotto⟩
theorem xc_X7_isDrained : Cond.code yX7_isDrained cX7_isDrained 2 (some .boolean) ∈ gT := gT_c5 6 rfl rfl
theorem xi_X7_isDrained : Cond.instanceMethod yX7_isDrained ∈ gT ∧ Cond.selects yX7_isDrained.cls yX7_isDrained yX7_isDrained ∈ gT := ⟨gT_c5 4 rfl rfl, gT_c5 5 rfl rfl⟩
theorem xd_X7_isDrained : yX7_isDrained.cls ≠ "java/lang/invoke/MethodHandle" ∧ yX7_isDrained.cls ≠ "java/lang/invoke/VarHandle" ∧ (parseMethodDescriptor yX7_isDrained.desc).map (fun d => d.parameters.length) = some 1 := by decide +kernel
theorem xv_X11_178 : gWV RX11 178 yX7_isDrained cX7_isDrained 2 (some .boolean) 1 := ⟨gT_c5 3 rfl rfl, xi_X7_isDrained.1, xi_X7_isDrained.2, xini_X7, xc_X7_isDrained, xd_X7_isDrained⟩
theorem xc_X7_holderOf : Cond.code yX7_holderOf cX7_holderOf 4 (some .int) ∈ gT := gT_c5 11 rfl rfl
theorem xi_X7_holderOf : Cond.instanceMethod yX7_holderOf ∈ gT ∧ Cond.selects yX7_holderOf.cls yX7_holderOf yX7_holderOf ∈ gT := ⟨gT_c5 9 rfl rfl, gT_c5 10 rfl rfl⟩
theorem xd_X7_holderOf : yX7_holderOf.cls ≠ "java/lang/invoke/MethodHandle" ∧ yX7_holderOf.cls ≠ "java/lang/invoke/VarHandle" ∧ (parseMethodDescriptor yX7_holderOf.desc).map (fun d => d.parameters.length) = some 2 := by decide +kernel
theorem xv_X11_182 : gWV RX11 182 yX7_holderOf cX7_holderOf 4 (some .int) 2 := ⟨gT_c5 8 rfl rfl, xi_X7_holderOf.1, xi_X7_holderOf.2, xini_X7, xc_X7_holderOf, xd_X7_holderOf⟩
theorem xc_X11_nextDrip : Cond.code yX11_nextDrip cX11_nextDrip 3 (some .int) ∈ gT := gT_c5 15 rfl rfl
theorem xi_X11_nextDrip : Cond.instanceMethod yX11_nextDrip ∈ gT ∧ Cond.selects yX11_nextDrip.cls yX11_nextDrip yX11_nextDrip ∈ gT := ⟨gT_c5 14 rfl rfl, gT_of 24 (by decide +kernel) rfl⟩
theorem xd_X11_nextDrip : yX11_nextDrip.cls ≠ "java/lang/invoke/MethodHandle" ∧ yX11_nextDrip.cls ≠ "java/lang/invoke/VarHandle" ∧ (parseMethodDescriptor yX11_nextDrip.desc).map (fun d => d.parameters.length) = some 1 := by decide +kernel
theorem xv_X11_186 : gWV RX11 186 yX11_nextDrip cX11_nextDrip 3 (some .int) 1 := ⟨gT_c5 12 rfl rfl, xi_X11_nextDrip.1, xi_X11_nextDrip.2, xini_X11, xc_X11_nextDrip, xd_X11_nextDrip⟩
theorem xc_X11_needGuild : Cond.code yX11_needGuild cX11_needGuild 2 none ∈ gT := gT_c5 32 rfl rfl
theorem xi_X11_needGuild : Cond.instanceMethod yX11_needGuild ∈ gT ∧ Cond.selects yX11_needGuild.cls yX11_needGuild yX11_needGuild ∈ gT := ⟨gT_c5 31 rfl rfl, gT_of 26 (by decide +kernel) rfl⟩
theorem xd_X11_needGuild : yX11_needGuild.cls ≠ "java/lang/invoke/MethodHandle" ∧ yX11_needGuild.cls ≠ "java/lang/invoke/VarHandle" ∧ (parseMethodDescriptor yX11_needGuild.desc).map (fun d => d.parameters.length) = some 1 := by decide +kernel
theorem xv_X11_191 : gWV RX11 191 yX11_needGuild cX11_needGuild 2 none 1 := ⟨gT_c5 29 rfl rfl, xi_X11_needGuild.1, xi_X11_needGuild.2, xini_X11, xc_X11_needGuild, xd_X11_needGuild⟩
theorem xc_X11_costNow : Cond.code yX11_costNow cX11_costNow 2 (some .int) ∈ gT := gT_c5 38 rfl rfl
theorem xi_X11_costNow : Cond.instanceMethod yX11_costNow ∈ gT ∧ Cond.selects yX11_costNow.cls yX11_costNow yX11_costNow ∈ gT := ⟨gT_c5 37 rfl rfl, gT_of 27 (by decide +kernel) rfl⟩
theorem xd_X11_costNow : yX11_costNow.cls ≠ "java/lang/invoke/MethodHandle" ∧ yX11_costNow.cls ≠ "java/lang/invoke/VarHandle" ∧ (parseMethodDescriptor yX11_costNow.desc).map (fun d => d.parameters.length) = some 1 := by decide +kernel
theorem xv_X11_209 : gWV RX11 209 yX11_costNow cX11_costNow 2 (some .int) 1 := ⟨gT_c5 35 rfl rfl, xi_X11_costNow.1, xi_X11_costNow.2, xini_X11, xc_X11_costNow, xd_X11_costNow⟩
theorem xc_X11_isWithin : Cond.code yX11_isWithin cX11_isWithin 3 (some .boolean) ∈ gT := gT_c2 207 rfl rfl
theorem xt_X11_isWithin : Cond.static yX11_isWithin ∈ gT := gT_c2 206 rfl rfl
theorem xd_X11_isWithin : yX11_isWithin.cls ≠ "java/lang/invoke/MethodHandle" ∧ yX11_isWithin.cls ≠ "java/lang/invoke/VarHandle" ∧ (parseMethodDescriptor yX11_isWithin.desc).map (fun d => d.parameters.length) = some 3 := by decide +kernel
theorem xv_X11_214 : gWS RX11 214 yX11_isWithin cX11_isWithin 3 (some .boolean) 3 := ⟨gT_c2 205 rfl rfl, xt_X11_isWithin, xini_X11, xc_X11_isWithin, rfl, xd_X11_isWithin⟩
theorem xc_X1_keepAct : Cond.code yX1_keepAct cX1_keepAct 1 none ∈ gT := gT_c2 215 rfl rfl
theorem xi_X1_keepAct : Cond.instanceMethod yX1_keepAct ∈ gT ∧ Cond.selects yX1_keepAct.cls yX1_keepAct yX1_keepAct ∈ gT := ⟨gT_c2 213 rfl rfl, gT_c2 214 rfl rfl⟩
theorem xd_X1_keepAct : yX1_keepAct.cls ≠ "java/lang/invoke/MethodHandle" ∧ yX1_keepAct.cls ≠ "java/lang/invoke/VarHandle" ∧ (parseMethodDescriptor yX1_keepAct.desc).map (fun d => d.parameters.length) = some 0 := by decide +kernel
theorem xv_X11_218 : gWV RX11 218 yX1_keepAct cX1_keepAct 1 none 0 := ⟨gT_c2 212 rfl rfl, xi_X1_keepAct.1, xi_X1_keepAct.2, xini_X1, xc_X1_keepAct, xd_X1_keepAct⟩
theorem xc_X11_passHour : Cond.code yX11_passHour cX11_passHour 5 (some .int) ∈ gT := gT_c2 234 rfl rfl
theorem xi_X11_passHour : Cond.instanceMethod yX11_passHour ∈ gT ∧ Cond.selects yX11_passHour.cls yX11_passHour yX11_passHour ∈ gT := ⟨gT_c2 233 rfl rfl, gT_of 0 (by decide +kernel) rfl⟩
theorem xd_X11_passHour : yX11_passHour.cls ≠ "java/lang/invoke/MethodHandle" ∧ yX11_passHour.cls ≠ "java/lang/invoke/VarHandle" ∧ (parseMethodDescriptor yX11_passHour.desc).map (fun d => d.parameters.length) = some 2 := by decide +kernel
theorem xv_X11_221 : gWV RX11 221 yX11_passHour cX11_passHour 5 (some .int) 2 := ⟨gT_c2 231 rfl rfl, xi_X11_passHour.1, xi_X11_passHour.2, xini_X11, xc_X11_passHour, xd_X11_passHour⟩
theorem xc_X7_turn : Cond.code yX7_turn cX7_turn 2 none ∈ gT := gT_c5 72 rfl rfl
theorem xi_X7_turn : Cond.instanceMethod yX7_turn ∈ gT ∧ Cond.selects yX7_turn.cls yX7_turn yX7_turn ∈ gT := ⟨gT_c5 70 rfl rfl, gT_c5 71 rfl rfl⟩
theorem xd_X7_turn : yX7_turn.cls ≠ "java/lang/invoke/MethodHandle" ∧ yX7_turn.cls ≠ "java/lang/invoke/VarHandle" ∧ (parseMethodDescriptor yX7_turn.desc).map (fun d => d.parameters.length) = some 1 := by decide +kernel
theorem xv_X11_225 : gWV RX11 225 yX7_turn cX7_turn 2 none 1 := ⟨gT_c5 69 rfl rfl, xi_X7_turn.1, xi_X7_turn.2, xini_X7, xc_X7_turn, xd_X7_turn⟩
theorem xc_X7_enrich : Cond.code yX7_enrich cX7_enrich 3 none ∈ gT := gT_c5 83 rfl rfl
theorem xi_X7_enrich : Cond.instanceMethod yX7_enrich ∈ gT ∧ Cond.selects yX7_enrich.cls yX7_enrich yX7_enrich ∈ gT := ⟨gT_c5 81 rfl rfl, gT_c5 82 rfl rfl⟩
theorem xd_X7_enrich : yX7_enrich.cls ≠ "java/lang/invoke/MethodHandle" ∧ yX7_enrich.cls ≠ "java/lang/invoke/VarHandle" ∧ (parseMethodDescriptor yX7_enrich.desc).map (fun d => d.parameters.length) = some 2 := by decide +kernel
theorem xv_X11_228 : gWV RX11 228 yX7_enrich cX7_enrich 3 none 2 := ⟨gT_c5 80 rfl rfl, xi_X7_enrich.1, xi_X7_enrich.2, xini_X7, xc_X7_enrich, xd_X7_enrich⟩
theorem xc_X0_takeBack : Cond.code yX0_takeBack cX0_takeBack 2 (some .int) ∈ gT := gT_c3 72 rfl rfl
theorem xi_X0_takeBack : Cond.instanceMethod yX0_takeBack ∈ gT ∧ Cond.selects yX0_takeBack.cls yX0_takeBack yX0_takeBack ∈ gT := ⟨gT_c3 70 rfl rfl, gT_c3 71 rfl rfl⟩
theorem xd_X0_takeBack : yX0_takeBack.cls ≠ "java/lang/invoke/MethodHandle" ∧ yX0_takeBack.cls ≠ "java/lang/invoke/VarHandle" ∧ (parseMethodDescriptor yX0_takeBack.desc).map (fun d => d.parameters.length) = some 1 := by decide +kernel
theorem xini_X0 : Cond.initialized RX0 ∈ gT := gT_c1 8 rfl rfl
theorem xv_X11_232 : gWV RX11 232 yX0_takeBack cX0_takeBack 2 (some .int) 1 := ⟨gT_c3 69 rfl rfl, xi_X0_takeBack.1, xi_X0_takeBack.2, xini_X0, xc_X0_takeBack, xd_X0_takeBack⟩
theorem xc_X11_needWhat : Cond.code yX11_needWhat cX11_needWhat 2 none ∈ gT := gT_c5 94 rfl rfl
theorem xt_X11_needWhat : Cond.static yX11_needWhat ∈ gT := gT_c5 93 rfl rfl
theorem xd_X11_needWhat : yX11_needWhat.cls ≠ "java/lang/invoke/MethodHandle" ∧ yX11_needWhat.cls ≠ "java/lang/invoke/VarHandle" ∧ (parseMethodDescriptor yX11_needWhat.desc).map (fun d => d.parameters.length) = some 2 := by decide +kernel
theorem xv_X11_236 : gWS RX11 236 yX11_needWhat cX11_needWhat 2 none 2 := ⟨gT_c5 92 rfl rfl, xt_X11_needWhat, xini_X11, xc_X11_needWhat, rfl, xd_X11_needWhat⟩
theorem xc_X11_needWithin : Cond.code yX11_needWithin cX11_needWithin 3 none ∈ gT := gT_c5 98 rfl rfl
theorem xt_X11_needWithin : Cond.static yX11_needWithin ∈ gT := gT_c5 97 rfl rfl
theorem xd_X11_needWithin : yX11_needWithin.cls ≠ "java/lang/invoke/MethodHandle" ∧ yX11_needWithin.cls ≠ "java/lang/invoke/VarHandle" ∧ (parseMethodDescriptor yX11_needWithin.desc).map (fun d => d.parameters.length) = some 3 := by decide +kernel
theorem xv_X11_239 : gWS RX11 239 yX11_needWithin cX11_needWithin 3 none 3 := ⟨gT_c5 96 rfl rfl, xt_X11_needWithin, xini_X11, xc_X11_needWithin, rfl, xd_X11_needWithin⟩
theorem xc_X10_begin : Cond.code yX10_begin cX10_begin 4 none ∈ gT := gT_c2 238 rfl rfl
theorem xi_X10_begin : Cond.instanceMethod yX10_begin ∈ gT ∧ Cond.selects yX10_begin.cls yX10_begin yX10_begin ∈ gT := ⟨gT_c2 236 rfl rfl, gT_c2 237 rfl rfl⟩
theorem xd_X10_begin : yX10_begin.cls ≠ "java/lang/invoke/MethodHandle" ∧ yX10_begin.cls ≠ "java/lang/invoke/VarHandle" ∧ (parseMethodDescriptor yX10_begin.desc).map (fun d => d.parameters.length) = some 3 := by decide +kernel
theorem xini_X10 : Cond.initialized RX10 ∈ gT := gT_c1 10 rfl rfl
theorem xv_X11_243 : gWV RX11 243 yX10_begin cX10_begin 4 none 3 := ⟨gT_c2 235 rfl rfl, xi_X10_begin.1, xi_X10_begin.2, xini_X10, xc_X10_begin, xd_X10_begin⟩
theorem xc_X10_passHours : Cond.code yX10_passHours cX10_passHours 4 none ∈ gT := gT_c5 103 rfl rfl
theorem xi_X10_passHours : Cond.instanceMethod yX10_passHours ∈ gT ∧ Cond.selects yX10_passHours.cls yX10_passHours yX10_passHours ∈ gT := ⟨gT_c5 101 rfl rfl, gT_c5 102 rfl rfl⟩
theorem xd_X10_passHours : yX10_passHours.cls ≠ "java/lang/invoke/MethodHandle" ∧ yX10_passHours.cls ≠ "java/lang/invoke/VarHandle" ∧ (parseMethodDescriptor yX10_passHours.desc).map (fun d => d.parameters.length) = some 2 := by decide +kernel
theorem xv_X11_246 : gWV RX11 246 yX10_passHours cX10_passHours 4 none 2 := ⟨gT_c5 100 rfl rfl, xi_X10_passHours.1, xi_X10_passHours.2, xini_X10, xc_X10_passHours, xd_X10_passHours⟩
theorem xc_X11_dripBits : Cond.code yX11_dripBits cX11_dripBits 4 (some .int) ∈ gT := gT_c5 115 rfl rfl
theorem xi_X11_dripBits : Cond.instanceMethod yX11_dripBits ∈ gT ∧ Cond.selects yX11_dripBits.cls yX11_dripBits yX11_dripBits ∈ gT := ⟨gT_c5 114 rfl rfl, gT_of 28 (by decide +kernel) rfl⟩
theorem xd_X11_dripBits : yX11_dripBits.cls ≠ "java/lang/invoke/MethodHandle" ∧ yX11_dripBits.cls ≠ "java/lang/invoke/VarHandle" ∧ (parseMethodDescriptor yX11_dripBits.desc).map (fun d => d.parameters.length) = some 1 := by decide +kernel
theorem xv_X11_258 : gWV RX11 258 yX11_dripBits cX11_dripBits 4 (some .int) 1 := ⟨gT_c5 112 rfl rfl, xi_X11_dripBits.1, xi_X11_dripBits.2, xini_X11, xc_X11_dripBits, xd_X11_dripBits⟩
theorem xc_X10_passHour : Cond.code yX10_passHour cX10_passHour 5 (some .boolean) ∈ gT := gT_c3 7 rfl rfl
theorem xi_X10_passHour : Cond.instanceMethod yX10_passHour ∈ gT ∧ Cond.selects yX10_passHour.cls yX10_passHour yX10_passHour ∈ gT := ⟨gT_c3 5 rfl rfl, gT_c3 6 rfl rfl⟩
theorem xd_X10_passHour : yX10_passHour.cls ≠ "java/lang/invoke/MethodHandle" ∧ yX10_passHour.cls ≠ "java/lang/invoke/VarHandle" ∧ (parseMethodDescriptor yX10_passHour.desc).map (fun d => d.parameters.length) = some 2 := by decide +kernel
theorem xv_X11_262 : gWV RX11 262 yX10_passHour cX10_passHour 5 (some .boolean) 2 := ⟨gT_c3 4 rfl rfl, xi_X10_passHour.1, xi_X10_passHour.2, xini_X10, xc_X10_passHour, xd_X10_passHour⟩
theorem xm_max : Cond.static Lib.Math.max.name ∈ gT ∧ Cond.initialized "java/lang/Math" ∈ gT ∧ Cond.code Lib.Math.max.name Lib.Math.max.code 2 (some .int) ∈ gT := ⟨gT_c3 47 rfl rfl, gT_c1 18 rfl rfl, gT_c3 48 rfl rfl⟩
theorem xMmax_X11_265 : Cond.methodLink RX11 265 Lib.Math.max.name ∈ gT ∧ Cond.static Lib.Math.max.name ∈ gT ∧ Cond.initialized "java/lang/Math" ∈ gT ∧ Cond.code Lib.Math.max.name Lib.Math.max.code 2 (some .int) ∈ gT := ⟨gT_c5 144 rfl rfl, xm_max⟩
theorem xc_J6_bitCount_0f7a4 : Cond.code yJ6_bitCount_0f7a4 cJ6_bitCount_0f7a4 1 (some .int) ∈ gT := gT_c5 154 rfl rfl
theorem xt_J6_bitCount_0f7a4 : Cond.static yJ6_bitCount_0f7a4 ∈ gT := gT_c5 153 rfl rfl
theorem xd_J6_bitCount_0f7a4 : yJ6_bitCount_0f7a4.cls ≠ "java/lang/invoke/MethodHandle" ∧ yJ6_bitCount_0f7a4.cls ≠ "java/lang/invoke/VarHandle" ∧ (parseMethodDescriptor yJ6_bitCount_0f7a4.desc).map (fun d => d.parameters.length) = some 1 := by decide +kernel
theorem xini_J6 : Cond.initialized RJ6 ∈ gT := gT_c1 26 rfl rfl
theorem xv_X11_271 : gWO RX11 271 yJ6_bitCount_0f7a4 cJ6_bitCount_0f7a4 1 (some .int) 1 := ⟨gT_c5 152 rfl rfl, xt_J6_bitCount_0f7a4, xini_J6, xc_J6_bitCount_0f7a4, xd_J6_bitCount_0f7a4⟩
theorem xc_X11_needGrottoes : Cond.code yX11_needGrottoes cX11_needGrottoes 2 none ∈ gT := gT_c5 168 rfl rfl
theorem xi_X11_needGrottoes : Cond.instanceMethod yX11_needGrottoes ∈ gT ∧ Cond.selects yX11_needGrottoes.cls yX11_needGrottoes yX11_needGrottoes ∈ gT := ⟨gT_c5 167 rfl rfl, gT_of 29 (by decide +kernel) rfl⟩
theorem xd_X11_needGrottoes : yX11_needGrottoes.cls ≠ "java/lang/invoke/MethodHandle" ∧ yX11_needGrottoes.cls ≠ "java/lang/invoke/VarHandle" ∧ (parseMethodDescriptor yX11_needGrottoes.desc).map (fun d => d.parameters.length) = some 1 := by decide +kernel
theorem xv_X11_276 : gWV RX11 276 yX11_needGrottoes cX11_needGrottoes 2 none 1 := ⟨gT_c5 165 rfl rfl, xi_X11_needGrottoes.1, xi_X11_needGrottoes.2, xini_X11, xc_X11_needGrottoes, xd_X11_needGrottoes⟩
theorem xc_X11_isOneOf : Cond.code yX11_isOneOf cX11_isOneOf 2 (some .boolean) ∈ gT := gT_c3 18 rfl rfl
theorem xt_X11_isOneOf : Cond.static yX11_isOneOf ∈ gT := gT_c3 17 rfl rfl
theorem xd_X11_isOneOf : yX11_isOneOf.cls ≠ "java/lang/invoke/MethodHandle" ∧ yX11_isOneOf.cls ≠ "java/lang/invoke/VarHandle" ∧ (parseMethodDescriptor yX11_isOneOf.desc).map (fun d => d.parameters.length) = some 2 := by decide +kernel
theorem xv_X11_279 : gWS RX11 279 yX11_isOneOf cX11_isOneOf 2 (some .boolean) 2 := ⟨gT_c5 170 rfl rfl, xt_X11_isOneOf, xini_X11, xc_X11_isOneOf, rfl, xd_X11_isOneOf⟩
theorem xc_X11_nextOf : Cond.code yX11_nextOf cX11_nextOf 6 (some .int) ∈ gT := gT_c5 174 rfl rfl
theorem xi_X11_nextOf : Cond.instanceMethod yX11_nextOf ∈ gT ∧ Cond.selects yX11_nextOf.cls yX11_nextOf yX11_nextOf ∈ gT := ⟨gT_c5 173 rfl rfl, gT_of 30 (by decide +kernel) rfl⟩
theorem xd_X11_nextOf : yX11_nextOf.cls ≠ "java/lang/invoke/MethodHandle" ∧ yX11_nextOf.cls ≠ "java/lang/invoke/VarHandle" ∧ (parseMethodDescriptor yX11_nextOf.desc).map (fun d => d.parameters.length) = some 3 := by decide +kernel
theorem xv_X11_283 : gWV RX11 283 yX11_nextOf cX11_nextOf 6 (some .int) 3 := ⟨gT_c5 171 rfl rfl, xi_X11_nextOf.1, xi_X11_nextOf.2, xini_X11, xc_X11_nextOf, xd_X11_nextOf⟩
theorem xc_X11_leastCommon : Cond.code yX11_leastCommon cX11_leastCommon 4 (some .int) ∈ gT := gT_c5 178 rfl rfl
theorem xt_X11_leastCommon : Cond.static yX11_leastCommon ∈ gT := gT_c5 177 rfl rfl
theorem xd_X11_leastCommon : yX11_leastCommon.cls ≠ "java/lang/invoke/MethodHandle" ∧ yX11_leastCommon.cls ≠ "java/lang/invoke/VarHandle" ∧ (parseMethodDescriptor yX11_leastCommon.desc).map (fun d => d.parameters.length) = some 2 := by decide +kernel
theorem xv_X11_287 : gWS RX11 287 yX11_leastCommon cX11_leastCommon 4 (some .int) 2 := ⟨gT_c5 176 rfl rfl, xt_X11_leastCommon, xini_X11, xc_X11_leastCommon, rfl, xd_X11_leastCommon⟩
theorem xc_X11_dripsAhead : Cond.code yX11_dripsAhead cX11_dripsAhead 4 (some .boolean) ∈ gT := gT_c5 19 rfl rfl
theorem xi_X11_dripsAhead : Cond.instanceMethod yX11_dripsAhead ∈ gT ∧ Cond.selects yX11_dripsAhead.cls yX11_dripsAhead yX11_dripsAhead ∈ gT := ⟨gT_c5 18 rfl rfl, gT_of 25 (by decide +kernel) rfl⟩
theorem xd_X11_dripsAhead : yX11_dripsAhead.cls ≠ "java/lang/invoke/MethodHandle" ∧ yX11_dripsAhead.cls ≠ "java/lang/invoke/VarHandle" ∧ (parseMethodDescriptor yX11_dripsAhead.desc).map (fun d => d.parameters.length) = some 2 := by decide +kernel
theorem xv_X11_290 : gWV RX11 290 yX11_dripsAhead cX11_dripsAhead 4 (some .boolean) 2 := ⟨gT_c5 16 rfl rfl, xi_X11_dripsAhead.1, xi_X11_dripsAhead.2, xini_X11, xc_X11_dripsAhead, xd_X11_dripsAhead⟩
theorem xc_X6_share : Cond.code yX6_share cX6_share 6 none ∈ gT := gT_c5 210 rfl rfl
theorem xi_X6_share : Cond.instanceMethod yX6_share ∈ gT ∧ Cond.selects yX6_share.cls yX6_share yX6_share ∈ gT := ⟨gT_c5 208 rfl rfl, gT_c5 209 rfl rfl⟩
theorem xd_X6_share : yX6_share.cls ≠ "java/lang/invoke/MethodHandle" ∧ yX6_share.cls ≠ "java/lang/invoke/VarHandle" ∧ (parseMethodDescriptor yX6_share.desc).map (fun d => d.parameters.length) = some 2 := by decide +kernel
theorem xini_X6 : Cond.initialized RX6 ∈ gT := gT_c1 11 rfl rfl
theorem xv_X11_293 : gWV RX11 293 yX6_share cX6_share 6 none 2 := ⟨gT_c5 207 rfl rfl, xi_X6_share.1, xi_X6_share.2, xini_X6, xc_X6_share, xd_X6_share⟩
theorem xc_X4_minds : Cond.code yX4_minds cX4_minds 3 (some .boolean) ∈ gT := gT_c6 11 rfl rfl
theorem xi_X4_minds : Cond.instanceMethod yX4_minds ∈ gT ∧ Cond.selects yX4_minds.cls yX4_minds yX4_minds ∈ gT := ⟨gT_c6 9 rfl rfl, gT_c6 10 rfl rfl⟩
theorem xd_X4_minds : yX4_minds.cls ≠ "java/lang/invoke/MethodHandle" ∧ yX4_minds.cls ≠ "java/lang/invoke/VarHandle" ∧ (parseMethodDescriptor yX4_minds.desc).map (fun d => d.parameters.length) = some 1 := by decide +kernel
theorem xini_X4 : Cond.initialized RX4 ∈ gT := gT_c1 5 rfl rfl
theorem xv_X11_308 : gWV RX11 308 yX4_minds cX4_minds 3 (some .boolean) 1 := ⟨gT_c6 8 rfl rfl, xi_X4_minds.1, xi_X4_minds.2, xini_X4, xc_X4_minds, xd_X4_minds⟩
theorem xc_X11_leastOfAllPurses : Cond.code yX11_leastOfAllPurses cX11_leastOfAllPurses 4 (some .int) ∈ gT := gT_c6 15 rfl rfl
theorem xi_X11_leastOfAllPurses : Cond.instanceMethod yX11_leastOfAllPurses ∈ gT ∧ Cond.selects yX11_leastOfAllPurses.cls yX11_leastOfAllPurses yX11_leastOfAllPurses ∈ gT := ⟨gT_c6 14 rfl rfl, gT_of 35 (by decide +kernel) rfl⟩
theorem xd_X11_leastOfAllPurses : yX11_leastOfAllPurses.cls ≠ "java/lang/invoke/MethodHandle" ∧ yX11_leastOfAllPurses.cls ≠ "java/lang/invoke/VarHandle" ∧ (parseMethodDescriptor yX11_leastOfAllPurses.desc).map (fun d => d.parameters.length) = some 2 := by decide +kernel
theorem xv_X11_316 : gWV RX11 316 yX11_leastOfAllPurses cX11_leastOfAllPurses 4 (some .int) 2 := ⟨gT_c6 12 rfl rfl, xi_X11_leastOfAllPurses.1, xi_X11_leastOfAllPurses.2, xini_X11, xc_X11_leastOfAllPurses, xd_X11_leastOfAllPurses⟩
theorem xc_X11_leastByHalves : Cond.code yX11_leastByHalves cX11_leastByHalves 7 (some .int) ∈ gT := gT_c6 23 rfl rfl
theorem xi_X11_leastByHalves : Cond.instanceMethod yX11_leastByHalves ∈ gT ∧ Cond.selects yX11_leastByHalves.cls yX11_leastByHalves yX11_leastByHalves ∈ gT := ⟨gT_c6 22 rfl rfl, gT_of 37 (by decide +kernel) rfl⟩
theorem xd_X11_leastByHalves : yX11_leastByHalves.cls ≠ "java/lang/invoke/MethodHandle" ∧ yX11_leastByHalves.cls ≠ "java/lang/invoke/VarHandle" ∧ (parseMethodDescriptor yX11_leastByHalves.desc).map (fun d => d.parameters.length) = some 2 := by decide +kernel
theorem xv_X11_319 : gWV RX11 319 yX11_leastByHalves cX11_leastByHalves 7 (some .int) 2 := ⟨gT_c6 20 rfl rfl, xi_X11_leastByHalves.1, xi_X11_leastByHalves.2, xini_X11, xc_X11_leastByHalves, xd_X11_leastByHalves⟩
theorem xc_X10_repent : Cond.code yX10_repent cX10_repent 1 none ∈ gT := gT_c6 34 rfl rfl
theorem xi_X10_repent : Cond.instanceMethod yX10_repent ∈ gT ∧ Cond.selects yX10_repent.cls yX10_repent yX10_repent ∈ gT := ⟨gT_c6 32 rfl rfl, gT_c6 33 rfl rfl⟩
theorem xd_X10_repent : yX10_repent.cls ≠ "java/lang/invoke/MethodHandle" ∧ yX10_repent.cls ≠ "java/lang/invoke/VarHandle" ∧ (parseMethodDescriptor yX10_repent.desc).map (fun d => d.parameters.length) = some 0 := by decide +kernel
theorem xv_X11_322 : gWV RX11 322 yX10_repent cX10_repent 1 none 0 := ⟨gT_c6 31 rfl rfl, xi_X10_repent.1, xi_X10_repent.2, xini_X10, xc_X10_repent, xd_X10_repent⟩
theorem xc_X5_add : Cond.code yX5_add cX5_add 4 none ∈ gT := gT_c6 45 rfl rfl
theorem xi_X5_add : Cond.instanceMethod yX5_add ∈ gT ∧ Cond.selects yX5_add.cls yX5_add yX5_add ∈ gT := ⟨gT_c6 43 rfl rfl, gT_c6 44 rfl rfl⟩
theorem xd_X5_add : yX5_add.cls ≠ "java/lang/invoke/MethodHandle" ∧ yX5_add.cls ≠ "java/lang/invoke/VarHandle" ∧ (parseMethodDescriptor yX5_add.desc).map (fun d => d.parameters.length) = some 3 := by decide +kernel
theorem xini_X5 : Cond.initialized RX5 ∈ gT := gT_c1 9 rfl rfl
theorem xv_X11_325 : gWV RX11 325 yX5_add cX5_add 4 none 3 := ⟨gT_c6 42 rfl rfl, xi_X5_add.1, xi_X5_add.2, xini_X5, xc_X5_add, xd_X5_add⟩
theorem xc_X2_weigh : Cond.code yX2_weigh cX2_weigh 5 none ∈ gT := gT_c6 56 rfl rfl
theorem xi_X2_weigh : Cond.instanceMethod yX2_weigh ∈ gT ∧ Cond.selects yX2_weigh.cls yX2_weigh yX2_weigh ∈ gT := ⟨gT_c6 54 rfl rfl, gT_c6 55 rfl rfl⟩
theorem xd_X2_weigh : yX2_weigh.cls ≠ "java/lang/invoke/MethodHandle" ∧ yX2_weigh.cls ≠ "java/lang/invoke/VarHandle" ∧ (parseMethodDescriptor yX2_weigh.desc).map (fun d => d.parameters.length) = some 3 := by decide +kernel
theorem xini_X2 : Cond.initialized RX2 ∈ gT := gT_c1 12 rfl rfl
theorem xv_X11_327 : gWV RX11 327 yX2_weigh cX2_weigh 5 none 3 := ⟨gT_c6 53 rfl rfl, xi_X2_weigh.1, xi_X2_weigh.2, xini_X2, xc_X2_weigh, xd_X2_weigh⟩
theorem xc_X2_bestLook : Cond.code yX2_bestLook cX2_bestLook 3 (some .int) ∈ gT := gT_c6 89 rfl rfl
theorem xi_X2_bestLook : Cond.instanceMethod yX2_bestLook ∈ gT ∧ Cond.selects yX2_bestLook.cls yX2_bestLook yX2_bestLook ∈ gT := ⟨gT_c6 87 rfl rfl, gT_c6 88 rfl rfl⟩
theorem xd_X2_bestLook : yX2_bestLook.cls ≠ "java/lang/invoke/MethodHandle" ∧ yX2_bestLook.cls ≠ "java/lang/invoke/VarHandle" ∧ (parseMethodDescriptor yX2_bestLook.desc).map (fun d => d.parameters.length) = some 0 := by decide +kernel
theorem xv_X11_338 : gWV RX11 338 yX2_bestLook cX2_bestLook 3 (some .int) 0 := ⟨gT_c6 86 rfl rfl, xi_X2_bestLook.1, xi_X2_bestLook.2, xini_X2, xc_X2_bestLook, xd_X2_bestLook⟩
theorem xc_X2_unlikeBehind : Cond.code yX2_unlikeBehind cX2_unlikeBehind 2 (some .int) ∈ gT := gT_c6 93 rfl rfl
theorem xi_X2_unlikeBehind : Cond.instanceMethod yX2_unlikeBehind ∈ gT ∧ Cond.selects yX2_unlikeBehind.cls yX2_unlikeBehind yX2_unlikeBehind ∈ gT := ⟨gT_c6 91 rfl rfl, gT_c6 92 rfl rfl⟩
theorem xd_X2_unlikeBehind : yX2_unlikeBehind.cls ≠ "java/lang/invoke/MethodHandle" ∧ yX2_unlikeBehind.cls ≠ "java/lang/invoke/VarHandle" ∧ (parseMethodDescriptor yX2_unlikeBehind.desc).map (fun d => d.parameters.length) = some 1 := by decide +kernel
theorem xv_X11_341 : gWV RX11 341 yX2_unlikeBehind cX2_unlikeBehind 2 (some .int) 1 := ⟨gT_c6 95 rfl rfl, xi_X2_unlikeBehind.1, xi_X2_unlikeBehind.2, xini_X2, xc_X2_unlikeBehind, xd_X2_unlikeBehind⟩
theorem xc_X11_mostChoice : Cond.code yX11_mostChoice cX11_mostChoice 2 (some .int) ∈ gT := gT_c6 114 rfl rfl
theorem xi_X11_mostChoice : Cond.instanceMethod yX11_mostChoice ∈ gT ∧ Cond.selects yX11_mostChoice.cls yX11_mostChoice yX11_mostChoice ∈ gT := ⟨gT_c6 113 rfl rfl, gT_of 41 (by decide +kernel) rfl⟩
theorem xd_X11_mostChoice : yX11_mostChoice.cls ≠ "java/lang/invoke/MethodHandle" ∧ yX11_mostChoice.cls ≠ "java/lang/invoke/VarHandle" ∧ (parseMethodDescriptor yX11_mostChoice.desc).map (fun d => d.parameters.length) = some 1 := by decide +kernel
theorem xv_X11_346 : gWV RX11 346 yX11_mostChoice cX11_mostChoice 2 (some .int) 1 := ⟨gT_c6 111 rfl rfl, xi_X11_mostChoice.1, xi_X11_mostChoice.2, xini_X11, xc_X11_mostChoice, xd_X11_mostChoice⟩
theorem xc_X11_isContent : Cond.code yX11_isContent cX11_isContent 6 (some .boolean) ∈ gT := gT_c6 118 rfl rfl
theorem xi_X11_isContent : Cond.instanceMethod yX11_isContent ∈ gT ∧ Cond.selects yX11_isContent.cls yX11_isContent yX11_isContent ∈ gT := ⟨gT_c6 117 rfl rfl, gT_of 42 (by decide +kernel) rfl⟩
theorem xd_X11_isContent : yX11_isContent.cls ≠ "java/lang/invoke/MethodHandle" ∧ yX11_isContent.cls ≠ "java/lang/invoke/VarHandle" ∧ (parseMethodDescriptor yX11_isContent.desc).map (fun d => d.parameters.length) = some 4 := by decide +kernel
theorem xv_X11_349 : gWV RX11 349 yX11_isContent cX11_isContent 6 (some .boolean) 4 := ⟨gT_c6 115 rfl rfl, xi_X11_isContent.1, xi_X11_isContent.2, xini_X11, xc_X11_isContent, xd_X11_isContent⟩
theorem xc_X7_copy : Cond.code yX7_copy cX7_copy 3 none ∈ gT := gT_c3 92 rfl rfl
theorem xi_X7_copy : Cond.instanceMethod yX7_copy ∈ gT ∧ Cond.selects yX7_copy.cls yX7_copy yX7_copy ∈ gT := ⟨gT_c3 90 rfl rfl, gT_c3 91 rfl rfl⟩
theorem xd_X7_copy : yX7_copy.cls ≠ "java/lang/invoke/MethodHandle" ∧ yX7_copy.cls ≠ "java/lang/invoke/VarHandle" ∧ (parseMethodDescriptor yX7_copy.desc).map (fun d => d.parameters.length) = some 1 := by decide +kernel
theorem xv_X11_353 : gWV RX11 353 yX7_copy cX7_copy 3 none 1 := ⟨gT_c6 134 rfl rfl, xi_X7_copy.1, xi_X7_copy.2, xini_X7, xc_X7_copy, xd_X7_copy⟩
theorem xc_X11_draw : Cond.code yX11_draw cX11_draw 2 (some .int) ∈ gT := gT_c6 138 rfl rfl
theorem xi_X11_draw : Cond.instanceMethod yX11_draw ∈ gT ∧ Cond.selects yX11_draw.cls yX11_draw yX11_draw ∈ gT := ⟨gT_c6 137 rfl rfl, gT_of 45 (by decide +kernel) rfl⟩
theorem xd_X11_draw : yX11_draw.cls ≠ "java/lang/invoke/MethodHandle" ∧ yX11_draw.cls ≠ "java/lang/invoke/VarHandle" ∧ (parseMethodDescriptor yX11_draw.desc).map (fun d => d.parameters.length) = some 1 := by decide +kernel
theorem xv_X11_357 : gWV RX11 357 yX11_draw cX11_draw 2 (some .int) 1 := ⟨gT_c6 135 rfl rfl, xi_X11_draw.1, xi_X11_draw.2, xini_X11, xc_X11_draw, xd_X11_draw⟩
theorem xc_X11_chance : Cond.code yX11_chance cX11_chance 4 none ∈ gT := gT_c6 143 rfl rfl
theorem xi_X11_chance : Cond.instanceMethod yX11_chance ∈ gT ∧ Cond.selects yX11_chance.cls yX11_chance yX11_chance ∈ gT := ⟨gT_c6 142 rfl rfl, gT_of 46 (by decide +kernel) rfl⟩
theorem xd_X11_chance : yX11_chance.cls ≠ "java/lang/invoke/MethodHandle" ∧ yX11_chance.cls ≠ "java/lang/invoke/VarHandle" ∧ (parseMethodDescriptor yX11_chance.desc).map (fun d => d.parameters.length) = some 1 := by decide +kernel
theorem xv_X11_360 : gWV RX11 360 yX11_chance cX11_chance 4 none 1 := ⟨gT_c6 140 rfl rfl, xi_X11_chance.1, xi_X11_chance.2, xini_X11, xc_X11_chance, xd_X11_chance⟩
theorem xc_X1_copy : Cond.code yX1_copy cX1_copy 3 none ∈ gT := gT_c3 88 rfl rfl
theorem xi_X1_copy : Cond.instanceMethod yX1_copy ∈ gT ∧ Cond.selects yX1_copy.cls yX1_copy yX1_copy ∈ gT := ⟨gT_c3 86 rfl rfl, gT_c3 87 rfl rfl⟩
theorem xd_X1_copy : yX1_copy.cls ≠ "java/lang/invoke/MethodHandle" ∧ yX1_copy.cls ≠ "java/lang/invoke/VarHandle" ∧ (parseMethodDescriptor yX1_copy.desc).map (fun d => d.parameters.length) = some 1 := by decide +kernel
theorem xv_X11_363 : gWV RX11 363 yX1_copy cX1_copy 3 none 1 := ⟨gT_c3 85 rfl rfl, xi_X1_copy.1, xi_X1_copy.2, xini_X1, xc_X1_copy, xd_X1_copy⟩
theorem xc_X9_isGrotto : Cond.code yX9_isGrotto cX9_isGrotto 2 (some .boolean) ∈ gT := gT_c3 11 rfl rfl
theorem xi_X9_isGrotto : Cond.instanceMethod yX9_isGrotto ∈ gT ∧ Cond.selects yX9_isGrotto.cls yX9_isGrotto yX9_isGrotto ∈ gT := ⟨gT_c3 9 rfl rfl, gT_c3 10 rfl rfl⟩
theorem xd_X9_isGrotto : yX9_isGrotto.cls ≠ "java/lang/invoke/MethodHandle" ∧ yX9_isGrotto.cls ≠ "java/lang/invoke/VarHandle" ∧ (parseMethodDescriptor yX9_isGrotto.desc).map (fun d => d.parameters.length) = some 1 := by decide +kernel
theorem xv_X11_366 : gWV RX11 366 yX9_isGrotto cX9_isGrotto 2 (some .boolean) 1 := ⟨gT_c5 1 rfl rfl, xi_X9_isGrotto.1, xi_X9_isGrotto.2, xini_X9, xc_X9_isGrotto, xd_X9_isGrotto⟩
theorem xc_X9_isGuild : Cond.code yX9_isGuild cX9_isGuild 2 (some .boolean) ∈ gT := gT_c3 2 rfl rfl
theorem xi_X9_isGuild : Cond.instanceMethod yX9_isGuild ∈ gT ∧ Cond.selects yX9_isGuild.cls yX9_isGuild yX9_isGuild ∈ gT := ⟨gT_c3 0 rfl rfl, gT_c3 1 rfl rfl⟩
theorem xd_X9_isGuild : yX9_isGuild.cls ≠ "java/lang/invoke/MethodHandle" ∧ yX9_isGuild.cls ≠ "java/lang/invoke/VarHandle" ∧ (parseMethodDescriptor yX9_isGuild.desc).map (fun d => d.parameters.length) = some 1 := by decide +kernel
theorem xv_X11_371 : gWV RX11 371 yX9_isGuild cX9_isGuild 2 (some .boolean) 1 := ⟨gT_c5 33 rfl rfl, xi_X9_isGuild.1, xi_X9_isGuild.2, xini_X9, xc_X9_isGuild, xd_X9_isGuild⟩
theorem xc_X9_drips : Cond.code yX9_drips cX9_drips 5 (some .boolean) ∈ gT := gT_c3 15 rfl rfl
theorem xi_X9_drips : Cond.instanceMethod yX9_drips ∈ gT ∧ Cond.selects yX9_drips.cls yX9_drips yX9_drips ∈ gT := ⟨gT_c3 13 rfl rfl, gT_c3 14 rfl rfl⟩
theorem xd_X9_drips : yX9_drips.cls ≠ "java/lang/invoke/MethodHandle" ∧ yX9_drips.cls ≠ "java/lang/invoke/VarHandle" ∧ (parseMethodDescriptor yX9_drips.desc).map (fun d => d.parameters.length) = some 4 := by decide +kernel
theorem xv_X11_382 : gWV RX11 382 yX9_drips cX9_drips 5 (some .boolean) 4 := ⟨gT_c5 20 rfl rfl, xi_X9_drips.1, xi_X9_drips.2, xini_X9, xc_X9_drips, xd_X9_drips⟩
theorem xc_X10_cost : Cond.code yX10_cost cX10_cost 3 (some .int) ∈ gT := gT_c3 52 rfl rfl
theorem xi_X10_cost : Cond.instanceMethod yX10_cost ∈ gT ∧ Cond.selects yX10_cost.cls yX10_cost yX10_cost ∈ gT := ⟨gT_c3 50 rfl rfl, gT_c3 51 rfl rfl⟩
theorem xd_X10_cost : yX10_cost.cls ≠ "java/lang/invoke/MethodHandle" ∧ yX10_cost.cls ≠ "java/lang/invoke/VarHandle" ∧ (parseMethodDescriptor yX10_cost.desc).map (fun d => d.parameters.length) = some 1 := by decide +kernel
theorem xv_X11_385 : gWV RX11 385 yX10_cost cX10_cost 3 (some .int) 1 := ⟨gT_c5 39 rfl rfl, xi_X10_cost.1, xi_X10_cost.2, xini_X10, xc_X10_cost, xd_X10_cost⟩
theorem xc_X10_end : Cond.code yX10_end cX10_end 3 none ∈ gT := gT_c3 64 rfl rfl
theorem xi_X10_end : Cond.instanceMethod yX10_end ∈ gT ∧ Cond.selects yX10_end.cls yX10_end yX10_end ∈ gT := ⟨gT_c3 62 rfl rfl, gT_c3 63 rfl rfl⟩
theorem xd_X10_end : yX10_end.cls ≠ "java/lang/invoke/MethodHandle" ∧ yX10_end.cls ≠ "java/lang/invoke/VarHandle" ∧ (parseMethodDescriptor yX10_end.desc).map (fun d => d.parameters.length) = some 2 := by decide +kernel
theorem xv_X11_388 : gWV RX11 388 yX10_end cX10_end 3 none 2 := ⟨gT_c3 61 rfl rfl, xi_X10_end.1, xi_X10_end.2, xini_X10, xc_X10_end, xd_X10_end⟩
theorem xc_X9_comesRound : Cond.code yX9_comesRound cX9_comesRound 3 (some .boolean) ∈ gT := gT_c3 22 rfl rfl
theorem xi_X9_comesRound : Cond.instanceMethod yX9_comesRound ∈ gT ∧ Cond.selects yX9_comesRound.cls yX9_comesRound yX9_comesRound ∈ gT := ⟨gT_c3 20 rfl rfl, gT_c3 21 rfl rfl⟩
theorem xd_X9_comesRound : yX9_comesRound.cls ≠ "java/lang/invoke/MethodHandle" ∧ yX9_comesRound.cls ≠ "java/lang/invoke/VarHandle" ∧ (parseMethodDescriptor yX9_comesRound.desc).map (fun d => d.parameters.length) = some 2 := by decide +kernel
theorem xv_X11_392 : gWV RX11 392 yX9_comesRound cX9_comesRound 3 (some .boolean) 2 := ⟨gT_c5 175 rfl rfl, xi_X9_comesRound.1, xi_X9_comesRound.2, xini_X9, xc_X9_comesRound, xd_X9_comesRound⟩
theorem xc_X11_keeps : Cond.code yX11_keeps cX11_keeps 5 (some .boolean) ∈ gT := gT_c6 19 rfl rfl
theorem xi_X11_keeps : Cond.instanceMethod yX11_keeps ∈ gT ∧ Cond.selects yX11_keeps.cls yX11_keeps yX11_keeps ∈ gT := ⟨gT_c6 18 rfl rfl, gT_of 36 (by decide +kernel) rfl⟩
theorem xd_X11_keeps : yX11_keeps.cls ≠ "java/lang/invoke/MethodHandle" ∧ yX11_keeps.cls ≠ "java/lang/invoke/VarHandle" ∧ (parseMethodDescriptor yX11_keeps.desc).map (fun d => d.parameters.length) = some 3 := by decide +kernel
theorem xv_X11_395 : gWV RX11 395 yX11_keeps cX11_keeps 5 (some .boolean) 3 := ⟨gT_c6 16 rfl rfl, xi_X11_keeps.1, xi_X11_keeps.2, xini_X11, xc_X11_keeps, xd_X11_keeps⟩
theorem xc_X11_gain : Cond.code yX11_gain cX11_gain 5 (some .int) ∈ gT := gT_c6 122 rfl rfl
theorem xi_X11_gain : Cond.instanceMethod yX11_gain ∈ gT ∧ Cond.selects yX11_gain.cls yX11_gain yX11_gain ∈ gT := ⟨gT_c6 121 rfl rfl, gT_of 43 (by decide +kernel) rfl⟩
theorem xd_X11_gain : yX11_gain.cls ≠ "java/lang/invoke/MethodHandle" ∧ yX11_gain.cls ≠ "java/lang/invoke/VarHandle" ∧ (parseMethodDescriptor yX11_gain.desc).map (fun d => d.parameters.length) = some 4 := by decide +kernel
theorem xv_X11_398 : gWV RX11 398 yX11_gain cX11_gain 5 (some .int) 4 := ⟨gT_c6 119 rfl rfl, xi_X11_gain.1, xi_X11_gain.2, xini_X11, xc_X11_gain, xd_X11_gain⟩
theorem xc_X11_quietHours : Cond.code yX11_quietHours cX11_quietHours 5 (some .int) ∈ gT := gT_c6 126 rfl rfl
theorem xi_X11_quietHours : Cond.instanceMethod yX11_quietHours ∈ gT ∧ Cond.selects yX11_quietHours.cls yX11_quietHours yX11_quietHours ∈ gT := ⟨gT_c6 125 rfl rfl, gT_of 44 (by decide +kernel) rfl⟩
theorem xd_X11_quietHours : yX11_quietHours.cls ≠ "java/lang/invoke/MethodHandle" ∧ yX11_quietHours.cls ≠ "java/lang/invoke/VarHandle" ∧ (parseMethodDescriptor yX11_quietHours.desc).map (fun d => d.parameters.length) = some 2 := by decide +kernel
theorem xv_X11_402 : gWV RX11 402 yX11_quietHours cX11_quietHours 5 (some .int) 2 := ⟨gT_c6 123 rfl rfl, xi_X11_quietHours.1, xi_X11_quietHours.2, xini_X11, xc_X11_quietHours, xd_X11_quietHours⟩
theorem xc_X7_write : Cond.code yX7_write cX7_write 5 none ∈ gT := gT_c2 226 rfl rfl
theorem xi_X7_write : Cond.instanceMethod yX7_write ∈ gT ∧ Cond.selects yX7_write.cls yX7_write yX7_write ∈ gT := ⟨gT_c2 224 rfl rfl, gT_c2 225 rfl rfl⟩
theorem xd_X7_write : yX7_write.cls ≠ "java/lang/invoke/MethodHandle" ∧ yX7_write.cls ≠ "java/lang/invoke/VarHandle" ∧ (parseMethodDescriptor yX7_write.desc).map (fun d => d.parameters.length) = some 2 := by decide +kernel
theorem xv_X0_27 : gWV RX0 27 yX7_write cX7_write 5 none 2 := ⟨gT_c2 223 rfl rfl, xi_X7_write.1, xi_X7_write.2, xini_X7, xc_X7_write, xd_X7_write⟩
theorem xc_X7_read : Cond.code yX7_read cX7_read 5 none ∈ gT := gT_c3 76 rfl rfl
theorem xi_X7_read : Cond.instanceMethod yX7_read ∈ gT ∧ Cond.selects yX7_read.cls yX7_read yX7_read ∈ gT := ⟨gT_c3 74 rfl rfl, gT_c3 75 rfl rfl⟩
theorem xd_X7_read : yX7_read.cls ≠ "java/lang/invoke/MethodHandle" ∧ yX7_read.cls ≠ "java/lang/invoke/VarHandle" ∧ (parseMethodDescriptor yX7_read.desc).map (fun d => d.parameters.length) = some 2 := by decide +kernel
theorem xv_X0_31 : gWV RX0 31 yX7_read cX7_read 5 none 2 := ⟨gT_c3 73 rfl rfl, xi_X7_read.1, xi_X7_read.2, xini_X7, xc_X7_read, xd_X7_read⟩
theorem xc_X7_begin : Cond.code yX7_begin cX7_begin 3 none ∈ gT := gT_c4 192 rfl rfl
theorem xi_X7_begin : Cond.instanceMethod yX7_begin ∈ gT ∧ Cond.selects yX7_begin.cls yX7_begin yX7_begin ∈ gT := ⟨gT_c4 190 rfl rfl, gT_c4 191 rfl rfl⟩
theorem xd_X7_begin : yX7_begin.cls ≠ "java/lang/invoke/MethodHandle" ∧ yX7_begin.cls ≠ "java/lang/invoke/VarHandle" ∧ (parseMethodDescriptor yX7_begin.desc).map (fun d => d.parameters.length) = some 1 := by decide +kernel
theorem xv_X1_36 : gWV RX1 36 yX7_begin cX7_begin 3 none 1 := ⟨gT_c4 189 rfl rfl, xi_X7_begin.1, xi_X7_begin.2, xini_X7, xc_X7_begin, xd_X7_begin⟩
theorem xc_X0_add : Cond.code yX0_add cX0_add 2 none ∈ gT := gT_c2 219 rfl rfl
theorem xi_X0_add : Cond.instanceMethod yX0_add ∈ gT ∧ Cond.selects yX0_add.cls yX0_add yX0_add ∈ gT := ⟨gT_c2 217 rfl rfl, gT_c2 218 rfl rfl⟩
theorem xd_X0_add : yX0_add.cls ≠ "java/lang/invoke/MethodHandle" ∧ yX0_add.cls ≠ "java/lang/invoke/VarHandle" ∧ (parseMethodDescriptor yX0_add.desc).map (fun d => d.parameters.length) = some 1 := by decide +kernel
theorem xv_X1_45 : gWV RX1 45 yX0_add cX0_add 2 none 1 := ⟨gT_c2 216 rfl rfl, xi_X0_add.1, xi_X0_add.2, xini_X0, xc_X0_add, xd_X0_add⟩
theorem xv_X1_49 : gWV RX1 49 yX7_copy cX7_copy 3 none 1 := ⟨gT_c3 89 rfl rfl, xi_X7_copy.1, xi_X7_copy.2, xini_X7, xc_X7_copy, xd_X7_copy⟩
theorem xc_X0_copy : Cond.code yX0_copy cX0_copy 2 none ∈ gT := gT_c3 96 rfl rfl
theorem xi_X0_copy : Cond.instanceMethod yX0_copy ∈ gT ∧ Cond.selects yX0_copy.cls yX0_copy yX0_copy ∈ gT := ⟨gT_c3 94 rfl rfl, gT_c3 95 rfl rfl⟩
theorem xd_X0_copy : yX0_copy.cls ≠ "java/lang/invoke/MethodHandle" ∧ yX0_copy.cls ≠ "java/lang/invoke/VarHandle" ∧ (parseMethodDescriptor yX0_copy.desc).map (fun d => d.parameters.length) = some 1 := by decide +kernel
theorem xv_X1_52 : gWV RX1 52 yX0_copy cX0_copy 2 none 1 := ⟨gT_c3 93 rfl rfl, xi_X0_copy.1, xi_X0_copy.2, xini_X0, xc_X0_copy, xd_X0_copy⟩
theorem xc_X5_copy : Cond.code yX5_copy cX5_copy 3 none ∈ gT := gT_c3 100 rfl rfl
theorem xi_X5_copy : Cond.instanceMethod yX5_copy ∈ gT ∧ Cond.selects yX5_copy.cls yX5_copy yX5_copy ∈ gT := ⟨gT_c3 98 rfl rfl, gT_c3 99 rfl rfl⟩
theorem xd_X5_copy : yX5_copy.cls ≠ "java/lang/invoke/MethodHandle" ∧ yX5_copy.cls ≠ "java/lang/invoke/VarHandle" ∧ (parseMethodDescriptor yX5_copy.desc).map (fun d => d.parameters.length) = some 1 := by decide +kernel
theorem xv_X1_55 : gWV RX1 55 yX5_copy cX5_copy 3 none 1 := ⟨gT_c3 97 rfl rfl, xi_X5_copy.1, xi_X5_copy.2, xini_X5, xc_X5_copy, xd_X5_copy⟩
theorem xv_X2_45 : gWV RX2 45 yX10_begin cX10_begin 4 none 3 := ⟨gT_c6 57 rfl rfl, xi_X10_begin.1, xi_X10_begin.2, xini_X10, xc_X10_begin, xd_X10_begin⟩
theorem xc_X2_follow : Cond.code yX2_follow cX2_follow 4 none ∈ gT := gT_c6 60 rfl rfl
theorem xt_X2_follow : Cond.static yX2_follow ∈ gT := gT_c6 59 rfl rfl
theorem xd_X2_follow : yX2_follow.cls ≠ "java/lang/invoke/MethodHandle" ∧ yX2_follow.cls ≠ "java/lang/invoke/VarHandle" ∧ (parseMethodDescriptor yX2_follow.desc).map (fun d => d.parameters.length) = some 3 := by decide +kernel
theorem xv_X2_51 : gWS RX2 51 yX2_follow cX2_follow 4 none 3 := ⟨gT_c6 58 rfl rfl, xt_X2_follow, xini_X2, xc_X2_follow, rfl, xd_X2_follow⟩
theorem xc_X2_doOthersSuit : Cond.code yX2_doOthersSuit cX2_doOthersSuit 5 (some .boolean) ∈ gT := gT_c6 66 rfl rfl
theorem xi_X2_doOthersSuit : Cond.instanceMethod yX2_doOthersSuit ∈ gT ∧ Cond.selects yX2_doOthersSuit.cls yX2_doOthersSuit yX2_doOthersSuit ∈ gT := ⟨gT_c6 65 rfl rfl, gT_of 38 (by decide +kernel) rfl⟩
theorem xd_X2_doOthersSuit : yX2_doOthersSuit.cls ≠ "java/lang/invoke/MethodHandle" ∧ yX2_doOthersSuit.cls ≠ "java/lang/invoke/VarHandle" ∧ (parseMethodDescriptor yX2_doOthersSuit.desc).map (fun d => d.parameters.length) = some 3 := by decide +kernel
theorem xv_X2_59 : gWV RX2 59 yX2_doOthersSuit cX2_doOthersSuit 5 (some .boolean) 3 := ⟨gT_c6 63 rfl rfl, xi_X2_doOthersSuit.1, xi_X2_doOthersSuit.2, xini_X2, xc_X2_doOthersSuit, xd_X2_doOthersSuit⟩
theorem xc_X2_tryGreeds : Cond.code yX2_tryGreeds cX2_tryGreeds 6 none ∈ gT := gT_c6 74 rfl rfl
theorem xi_X2_tryGreeds : Cond.instanceMethod yX2_tryGreeds ∈ gT ∧ Cond.selects yX2_tryGreeds.cls yX2_tryGreeds yX2_tryGreeds ∈ gT := ⟨gT_c6 73 rfl rfl, gT_of 39 (by decide +kernel) rfl⟩
theorem xd_X2_tryGreeds : yX2_tryGreeds.cls ≠ "java/lang/invoke/MethodHandle" ∧ yX2_tryGreeds.cls ≠ "java/lang/invoke/VarHandle" ∧ (parseMethodDescriptor yX2_tryGreeds.desc).map (fun d => d.parameters.length) = some 4 := by decide +kernel
theorem xv_X2_63 : gWV RX2 63 yX2_tryGreeds cX2_tryGreeds 6 none 4 := ⟨gT_c6 71 rfl rfl, xi_X2_tryGreeds.1, xi_X2_tryGreeds.2, xini_X2, xc_X2_tryGreeds, xd_X2_tryGreeds⟩
theorem xv_X2_67 : gWV RX2 67 yX2_unlikeBehind cX2_unlikeBehind 2 (some .int) 1 := ⟨gT_c6 90 rfl rfl, xi_X2_unlikeBehind.1, xi_X2_unlikeBehind.2, xini_X2, xc_X2_unlikeBehind, xd_X2_unlikeBehind⟩
theorem xv_X2_71 : gWO RX2 71 yJ6_bitCount_0f7a4 cJ6_bitCount_0f7a4 1 (some .int) 1 := ⟨gT_c6 94 rfl rfl, xt_J6_bitCount_0f7a4, xini_J6, xc_J6_bitCount_0f7a4, xd_J6_bitCount_0f7a4⟩
theorem xc_X5_suits : Cond.code yX5_suits cX5_suits 5 (some .boolean) ∈ gT := gT_c6 70 rfl rfl
theorem xi_X5_suits : Cond.instanceMethod yX5_suits ∈ gT ∧ Cond.selects yX5_suits.cls yX5_suits yX5_suits ∈ gT := ⟨gT_c6 68 rfl rfl, gT_c6 69 rfl rfl⟩
theorem xd_X5_suits : yX5_suits.cls ≠ "java/lang/invoke/MethodHandle" ∧ yX5_suits.cls ≠ "java/lang/invoke/VarHandle" ∧ (parseMethodDescriptor yX5_suits.desc).map (fun d => d.parameters.length) = some 2 := by decide +kernel
theorem xv_X2_81 : gWV RX2 81 yX5_suits cX5_suits 5 (some .boolean) 2 := ⟨gT_c6 67 rfl rfl, xi_X5_suits.1, xi_X5_suits.2, xini_X5, xc_X5_suits, xd_X5_suits⟩
theorem xc_X2_markWorst : Cond.code yX2_markWorst cX2_markWorst 8 none ∈ gT := gT_c6 78 rfl rfl
theorem xi_X2_markWorst : Cond.instanceMethod yX2_markWorst ∈ gT ∧ Cond.selects yX2_markWorst.cls yX2_markWorst yX2_markWorst ∈ gT := ⟨gT_c6 77 rfl rfl, gT_of 40 (by decide +kernel) rfl⟩
theorem xd_X2_markWorst : yX2_markWorst.cls ≠ "java/lang/invoke/MethodHandle" ∧ yX2_markWorst.cls ≠ "java/lang/invoke/VarHandle" ∧ (parseMethodDescriptor yX2_markWorst.desc).map (fun d => d.parameters.length) = some 2 := by decide +kernel
theorem xv_X2_87 : gWV RX2 87 yX2_markWorst cX2_markWorst 8 none 2 := ⟨gT_c6 75 rfl rfl, xi_X2_markWorst.1, xi_X2_markWorst.2, xini_X2, xc_X2_markWorst, xd_X2_markWorst⟩
theorem xv_X2_97 : gWV RX2 97 yX9_wetOf cX9_wetOf 2 (some .int) 1 := ⟨gT_c6 61 rfl rfl, xi_X9_wetOf.1, xi_X9_wetOf.2, xini_X9, xc_X9_wetOf, xd_X9_wetOf⟩
theorem xv_X2_100 : gWV RX2 100 yX10_passHour cX10_passHour 5 (some .boolean) 2 := ⟨gT_c6 62 rfl rfl, xi_X10_passHour.1, xi_X10_passHour.2, xini_X10, xc_X10_passHour, xd_X10_passHour⟩
theorem xc_X9_clear : Cond.code yX9_clear cX9_clear 1 none ∈ gT := gT_c3 186 rfl rfl
theorem xi_X9_clear : Cond.instanceMethod yX9_clear ∈ gT ∧ Cond.selects yX9_clear.cls yX9_clear yX9_clear ∈ gT := ⟨gT_c3 184 rfl rfl, gT_c3 185 rfl rfl⟩
theorem xd_X9_clear : yX9_clear.cls ≠ "java/lang/invoke/MethodHandle" ∧ yX9_clear.cls ≠ "java/lang/invoke/VarHandle" ∧ (parseMethodDescriptor yX9_clear.desc).map (fun d => d.parameters.length) = some 0 := by decide +kernel
theorem xv_X3_32 : gWV RX3 32 yX9_clear cX9_clear 1 none 0 := ⟨gT_c3 183 rfl rfl, xi_X9_clear.1, xi_X9_clear.2, xini_X9, xc_X9_clear, xd_X9_clear⟩
theorem xc_X8_open : Cond.code yX8_open cX8_open 2 none ∈ gT := gT_c3 194 rfl rfl
theorem xi_X8_open : Cond.instanceMethod yX8_open ∈ gT ∧ Cond.selects yX8_open.cls yX8_open yX8_open ∈ gT := ⟨gT_c3 192 rfl rfl, gT_c3 193 rfl rfl⟩
theorem xd_X8_open : yX8_open.cls ≠ "java/lang/invoke/MethodHandle" ∧ yX8_open.cls ≠ "java/lang/invoke/VarHandle" ∧ (parseMethodDescriptor yX8_open.desc).map (fun d => d.parameters.length) = some 1 := by decide +kernel
theorem xv_X3_35 : gWV RX3 35 yX8_open cX8_open 2 none 1 := ⟨gT_c3 191 rfl rfl, xi_X8_open.1, xi_X8_open.2, xini_X8, xc_X8_open, xd_X8_open⟩
theorem xc_X3_isFine : Cond.code yX3_isFine cX3_isFine 1 (some .boolean) ∈ gT := gT_c4 53 rfl rfl
theorem xi_X3_isFine : Cond.instanceMethod yX3_isFine ∈ gT ∧ Cond.selects yX3_isFine.cls yX3_isFine yX3_isFine ∈ gT := ⟨gT_c4 52 rfl rfl, gT_of 4 (by decide +kernel) rfl⟩
theorem xd_X3_isFine : yX3_isFine.cls ≠ "java/lang/invoke/MethodHandle" ∧ yX3_isFine.cls ≠ "java/lang/invoke/VarHandle" ∧ (parseMethodDescriptor yX3_isFine.desc).map (fun d => d.parameters.length) = some 0 := by decide +kernel
theorem xv_X3_39 : gWV RX3 39 yX3_isFine cX3_isFine 1 (some .boolean) 0 := ⟨gT_c4 50 rfl rfl, xi_X3_isFine.1, xi_X3_isFine.2, xini_X3, xc_X3_isFine, xd_X3_isFine⟩
theorem xc_X3_readLine : Cond.code yX3_readLine cX3_readLine 1 none ∈ gT := gT_c4 57 rfl rfl
theorem xi_X3_readLine : Cond.instanceMethod yX3_readLine ∈ gT ∧ Cond.selects yX3_readLine.cls yX3_readLine yX3_readLine ∈ gT := ⟨gT_c4 56 rfl rfl, gT_of 5 (by decide +kernel) rfl⟩
theorem xd_X3_readLine : yX3_readLine.cls ≠ "java/lang/invoke/MethodHandle" ∧ yX3_readLine.cls ≠ "java/lang/invoke/VarHandle" ∧ (parseMethodDescriptor yX3_readLine.desc).map (fun d => d.parameters.length) = some 0 := by decide +kernel
theorem xv_X3_46 : gWV RX3 46 yX3_readLine cX3_readLine 1 none 0 := ⟨gT_c4 54 rfl rfl, xi_X3_readLine.1, xi_X3_readLine.2, xini_X3, xc_X3_readLine, xd_X3_readLine⟩
theorem xc_X3_skipSign : Cond.code yX3_skipSign cX3_skipSign 2 none ∈ gT := gT_c4 167 rfl rfl
theorem xi_X3_skipSign : Cond.instanceMethod yX3_skipSign ∈ gT ∧ Cond.selects yX3_skipSign.cls yX3_skipSign yX3_skipSign ∈ gT := ⟨gT_c4 166 rfl rfl, gT_of 21 (by decide +kernel) rfl⟩
theorem xd_X3_skipSign : yX3_skipSign.cls ≠ "java/lang/invoke/MethodHandle" ∧ yX3_skipSign.cls ≠ "java/lang/invoke/VarHandle" ∧ (parseMethodDescriptor yX3_skipSign.desc).map (fun d => d.parameters.length) = some 1 := by decide +kernel
theorem xv_X3_49 : gWV RX3 49 yX3_skipSign cX3_skipSign 2 none 1 := ⟨gT_c4 164 rfl rfl, xi_X3_skipSign.1, xi_X3_skipSign.2, xini_X3, xc_X3_skipSign, xd_X3_skipSign⟩
theorem xc_X8_isAtSign : Cond.code yX8_isAtSign cX8_isAtSign 2 (some .boolean) ∈ gT := gT_c4 138 rfl rfl
theorem xi_X8_isAtSign : Cond.instanceMethod yX8_isAtSign ∈ gT ∧ Cond.selects yX8_isAtSign.cls yX8_isAtSign yX8_isAtSign ∈ gT := ⟨gT_c4 136 rfl rfl, gT_c4 137 rfl rfl⟩
theorem xd_X8_isAtSign : yX8_isAtSign.cls ≠ "java/lang/invoke/MethodHandle" ∧ yX8_isAtSign.cls ≠ "java/lang/invoke/VarHandle" ∧ (parseMethodDescriptor yX8_isAtSign.desc).map (fun d => d.parameters.length) = some 1 := by decide +kernel
theorem xv_X3_56 : gWV RX3 56 yX8_isAtSign cX8_isAtSign 2 (some .boolean) 1 := ⟨gT_c4 135 rfl rfl, xi_X8_isAtSign.1, xi_X8_isAtSign.2, xini_X8, xc_X8_isAtSign, xd_X8_isAtSign⟩
theorem xc_X3_refuse : Cond.code yX3_refuse cX3_refuse 2 none ∈ gT := gT_c4 91 rfl rfl
theorem xi_X3_refuse : Cond.instanceMethod yX3_refuse ∈ gT ∧ Cond.selects yX3_refuse.cls yX3_refuse yX3_refuse ∈ gT := ⟨gT_c4 90 rfl rfl, gT_of 7 (by decide +kernel) rfl⟩
theorem xd_X3_refuse : yX3_refuse.cls ≠ "java/lang/invoke/MethodHandle" ∧ yX3_refuse.cls ≠ "java/lang/invoke/VarHandle" ∧ (parseMethodDescriptor yX3_refuse.desc).map (fun d => d.parameters.length) = some 1 := by decide +kernel
theorem xv_X3_60 : gWV RX3 60 yX3_refuse cX3_refuse 2 none 1 := ⟨gT_c4 88 rfl rfl, xi_X3_refuse.1, xi_X3_refuse.2, xini_X3, xc_X3_refuse, xd_X3_refuse⟩
theorem xc_X8_advance : Cond.code yX8_advance cX8_advance 2 none ∈ gT := gT_c3 199 rfl rfl
theorem xi_X8_advance : Cond.instanceMethod yX8_advance ∈ gT ∧ Cond.selects yX8_advance.cls yX8_advance yX8_advance ∈ gT := ⟨gT_c3 197 rfl rfl, gT_c3 198 rfl rfl⟩
theorem xd_X8_advance : yX8_advance.cls ≠ "java/lang/invoke/MethodHandle" ∧ yX8_advance.cls ≠ "java/lang/invoke/VarHandle" ∧ (parseMethodDescriptor yX8_advance.desc).map (fun d => d.parameters.length) = some 0 := by decide +kernel
theorem xv_X3_63 : gWV RX3 63 yX8_advance cX8_advance 2 none 0 := ⟨gT_c4 92 rfl rfl, xi_X8_advance.1, xi_X8_advance.2, xini_X8, xc_X8_advance, xd_X8_advance⟩
theorem xn_X3_69 : Cond.methodLinkNest RX3 69 yX11_isWithin "GrottoHours" ∈ xNest := List.mem_of_getElem? (i := 97) rfl
theorem xv_X3_69 : gWN RX3 "GrottoHours" 69 yX11_isWithin cX11_isWithin 3 (some .boolean) 3 := ⟨xt_X11_isWithin, xini_X11, xc_X11_isWithin, xd_X11_isWithin⟩
theorem xc_X8_isAtWord : Cond.code yX8_isAtWord cX8_isAtWord 3 (some .boolean) ∈ gT := gT_c4 62 rfl rfl
theorem xi_X8_isAtWord : Cond.instanceMethod yX8_isAtWord ∈ gT ∧ Cond.selects yX8_isAtWord.cls yX8_isAtWord yX8_isAtWord ∈ gT := ⟨gT_c4 60 rfl rfl, gT_c4 61 rfl rfl⟩
theorem xd_X8_isAtWord : yX8_isAtWord.cls ≠ "java/lang/invoke/MethodHandle" ∧ yX8_isAtWord.cls ≠ "java/lang/invoke/VarHandle" ∧ (parseMethodDescriptor yX8_isAtWord.desc).map (fun d => d.parameters.length) = some 1 := by decide +kernel
theorem xv_X3_75 : gWV RX3 75 yX8_isAtWord cX8_isAtWord 3 (some .boolean) 1 := ⟨gT_c4 59 rfl rfl, xi_X8_isAtWord.1, xi_X8_isAtWord.2, xini_X8, xc_X8_isAtWord, xd_X8_isAtWord⟩
theorem xc_X3_readGrotto : Cond.code yX3_readGrotto cX3_readGrotto 3 none ∈ gT := gT_c4 87 rfl rfl
theorem xi_X3_readGrotto : Cond.instanceMethod yX3_readGrotto ∈ gT ∧ Cond.selects yX3_readGrotto.cls yX3_readGrotto yX3_readGrotto ∈ gT := ⟨gT_c4 86 rfl rfl, gT_of 6 (by decide +kernel) rfl⟩
theorem xd_X3_readGrotto : yX3_readGrotto.cls ≠ "java/lang/invoke/MethodHandle" ∧ yX3_readGrotto.cls ≠ "java/lang/invoke/VarHandle" ∧ (parseMethodDescriptor yX3_readGrotto.desc).map (fun d => d.parameters.length) = some 1 := by decide +kernel
theorem xv_X3_79 : gWV RX3 79 yX3_readGrotto cX3_readGrotto 3 none 1 := ⟨gT_c4 84 rfl rfl, xi_X3_readGrotto.1, xi_X3_readGrotto.2, xini_X3, xc_X3_readGrotto, xd_X3_readGrotto⟩
theorem xc_X3_readGuild : Cond.code yX3_readGuild cX3_readGuild 2 none ∈ gT := gT_c4 103 rfl rfl
theorem xi_X3_readGuild : Cond.instanceMethod yX3_readGuild ∈ gT ∧ Cond.selects yX3_readGuild.cls yX3_readGuild yX3_readGuild ∈ gT := ⟨gT_c4 102 rfl rfl, gT_of 9 (by decide +kernel) rfl⟩
theorem xd_X3_readGuild : yX3_readGuild.cls ≠ "java/lang/invoke/MethodHandle" ∧ yX3_readGuild.cls ≠ "java/lang/invoke/VarHandle" ∧ (parseMethodDescriptor yX3_readGuild.desc).map (fun d => d.parameters.length) = some 0 := by decide +kernel
theorem xv_X3_87 : gWV RX3 87 yX3_readGuild cX3_readGuild 2 none 0 := ⟨gT_c4 100 rfl rfl, xi_X3_readGuild.1, xi_X3_readGuild.2, xini_X3, xc_X3_readGuild, xd_X3_readGuild⟩
theorem xc_X3_readWet : Cond.code yX3_readWet cX3_readWet 2 none ∈ gT := gT_c4 118 rfl rfl
theorem xi_X3_readWet : Cond.instanceMethod yX3_readWet ∈ gT ∧ Cond.selects yX3_readWet.cls yX3_readWet yX3_readWet ∈ gT := ⟨gT_c4 117 rfl rfl, gT_of 11 (by decide +kernel) rfl⟩
theorem xd_X3_readWet : yX3_readWet.cls ≠ "java/lang/invoke/MethodHandle" ∧ yX3_readWet.cls ≠ "java/lang/invoke/VarHandle" ∧ (parseMethodDescriptor yX3_readWet.desc).map (fun d => d.parameters.length) = some 0 := by decide +kernel
theorem xv_X3_92 : gWV RX3 92 yX3_readWet cX3_readWet 2 none 0 := ⟨gT_c4 115 rfl rfl, xi_X3_readWet.1, xi_X3_readWet.2, xini_X3, xc_X3_readWet, xd_X3_readWet⟩
theorem xc_X3_readBound : Cond.code yX3_readBound cX3_readBound 1 none ∈ gT := gT_c4 123 rfl rfl
theorem xi_X3_readBound : Cond.instanceMethod yX3_readBound ∈ gT ∧ Cond.selects yX3_readBound.cls yX3_readBound yX3_readBound ∈ gT := ⟨gT_c4 122 rfl rfl, gT_of 12 (by decide +kernel) rfl⟩
theorem xd_X3_readBound : yX3_readBound.cls ≠ "java/lang/invoke/MethodHandle" ∧ yX3_readBound.cls ≠ "java/lang/invoke/VarHandle" ∧ (parseMethodDescriptor yX3_readBound.desc).map (fun d => d.parameters.length) = some 0 := by decide +kernel
theorem xv_X3_97 : gWV RX3 97 yX3_readBound cX3_readBound 1 none 0 := ⟨gT_c4 120 rfl rfl, xi_X3_readBound.1, xi_X3_readBound.2, xini_X3, xc_X3_readBound, xd_X3_readBound⟩
theorem xc_X3_readRule : Cond.code yX3_readRule cX3_readRule 2 none ∈ gT := gT_c4 129 rfl rfl
theorem xi_X3_readRule : Cond.instanceMethod yX3_readRule ∈ gT ∧ Cond.selects yX3_readRule.cls yX3_readRule yX3_readRule ∈ gT := ⟨gT_c4 128 rfl rfl, gT_of 13 (by decide +kernel) rfl⟩
theorem xd_X3_readRule : yX3_readRule.cls ≠ "java/lang/invoke/MethodHandle" ∧ yX3_readRule.cls ≠ "java/lang/invoke/VarHandle" ∧ (parseMethodDescriptor yX3_readRule.desc).map (fun d => d.parameters.length) = some 1 := by decide +kernel
theorem xv_X3_105 : gWV RX3 105 yX3_readRule cX3_readRule 2 none 1 := ⟨gT_c4 126 rfl rfl, xi_X3_readRule.1, xi_X3_readRule.2, xini_X3, xc_X3_readRule, xd_X3_readRule⟩
theorem xc_X3_readNumber : Cond.code yX3_readNumber cX3_readNumber 4 (some .int) ∈ gT := gT_c4 96 rfl rfl
theorem xi_X3_readNumber : Cond.instanceMethod yX3_readNumber ∈ gT ∧ Cond.selects yX3_readNumber.cls yX3_readNumber yX3_readNumber ∈ gT := ⟨gT_c4 95 rfl rfl, gT_of 8 (by decide +kernel) rfl⟩
theorem xd_X3_readNumber : yX3_readNumber.cls ≠ "java/lang/invoke/MethodHandle" ∧ yX3_readNumber.cls ≠ "java/lang/invoke/VarHandle" ∧ (parseMethodDescriptor yX3_readNumber.desc).map (fun d => d.parameters.length) = some 2 := by decide +kernel
theorem xv_X3_120 : gWV RX3 120 yX3_readNumber cX3_readNumber 4 (some .int) 2 := ⟨gT_c4 93 rfl rfl, xi_X3_readNumber.1, xi_X3_readNumber.2, xini_X3, xc_X3_readNumber, xd_X3_readNumber⟩
theorem xc_X3_readHired : Cond.code yX3_readHired cX3_readHired 1 (some .int) ∈ gT := gT_c4 108 rfl rfl
theorem xi_X3_readHired : Cond.instanceMethod yX3_readHired ∈ gT ∧ Cond.selects yX3_readHired.cls yX3_readHired yX3_readHired ∈ gT := ⟨gT_c4 107 rfl rfl, gT_of 10 (by decide +kernel) rfl⟩
theorem xd_X3_readHired : yX3_readHired.cls ≠ "java/lang/invoke/MethodHandle" ∧ yX3_readHired.cls ≠ "java/lang/invoke/VarHandle" ∧ (parseMethodDescriptor yX3_readHired.desc).map (fun d => d.parameters.length) = some 0 := by decide +kernel
theorem xv_X3_150 : gWV RX3 150 yX3_readHired cX3_readHired 1 (some .int) 0 := ⟨gT_c4 105 rfl rfl, xi_X3_readHired.1, xi_X3_readHired.2, xini_X3, xc_X3_readHired, xd_X3_readHired⟩
theorem xv_X3_154 : gWV RX3 154 yX9_isGrotto cX9_isGrotto 2 (some .boolean) 1 := ⟨gT_c4 109 rfl rfl, xi_X9_isGrotto.1, xi_X9_isGrotto.2, xini_X9, xc_X9_isGrotto, xd_X9_isGrotto⟩
theorem xc_X9_isHired : Cond.code yX9_isHired cX9_isHired 3 (some .boolean) ∈ gT := gT_c4 113 rfl rfl
theorem xi_X9_isHired : Cond.instanceMethod yX9_isHired ∈ gT ∧ Cond.selects yX9_isHired.cls yX9_isHired yX9_isHired ∈ gT := ⟨gT_c4 111 rfl rfl, gT_c4 112 rfl rfl⟩
theorem xd_X9_isHired : yX9_isHired.cls ≠ "java/lang/invoke/MethodHandle" ∧ yX9_isHired.cls ≠ "java/lang/invoke/VarHandle" ∧ (parseMethodDescriptor yX9_isHired.desc).map (fun d => d.parameters.length) = some 1 := by decide +kernel
theorem xv_X3_158 : gWV RX3 158 yX9_isHired cX9_isHired 3 (some .boolean) 1 := ⟨gT_c4 110 rfl rfl, xi_X9_isHired.1, xi_X9_isHired.2, xini_X9, xc_X9_isHired, xd_X9_isHired⟩
theorem xc_X9_isBoundTold : Cond.code yX9_isBoundTold cX9_isBoundTold 1 (some .boolean) ∈ gT := gT_c3 60 rfl rfl
theorem xi_X9_isBoundTold : Cond.instanceMethod yX9_isBoundTold ∈ gT ∧ Cond.selects yX9_isBoundTold.cls yX9_isBoundTold yX9_isBoundTold ∈ gT := ⟨gT_c3 58 rfl rfl, gT_c3 59 rfl rfl⟩
theorem xd_X9_isBoundTold : yX9_isBoundTold.cls ≠ "java/lang/invoke/MethodHandle" ∧ yX9_isBoundTold.cls ≠ "java/lang/invoke/VarHandle" ∧ (parseMethodDescriptor yX9_isBoundTold.desc).map (fun d => d.parameters.length) = some 0 := by decide +kernel
theorem xv_X3_166 : gWV RX3 166 yX9_isBoundTold cX9_isBoundTold 1 (some .boolean) 0 := ⟨gT_c4 124 rfl rfl, xi_X9_isBoundTold.1, xi_X9_isBoundTold.2, xini_X9, xc_X9_isBoundTold, xd_X9_isBoundTold⟩
theorem xc_X4_isTold : Cond.code yX4_isTold cX4_isTold 1 (some .boolean) ∈ gT := gT_c3 31 rfl rfl
theorem xi_X4_isTold : Cond.instanceMethod yX4_isTold ∈ gT ∧ Cond.selects yX4_isTold.cls yX4_isTold yX4_isTold ∈ gT := ⟨gT_c3 29 rfl rfl, gT_c3 30 rfl rfl⟩
theorem xd_X4_isTold : yX4_isTold.cls ≠ "java/lang/invoke/MethodHandle" ∧ yX4_isTold.cls ≠ "java/lang/invoke/VarHandle" ∧ (parseMethodDescriptor yX4_isTold.desc).map (fun d => d.parameters.length) = some 0 := by decide +kernel
theorem xv_X3_171 : gWV RX3 171 yX4_isTold cX4_isTold 1 (some .boolean) 0 := ⟨gT_c4 130 rfl rfl, xi_X4_isTold.1, xi_X4_isTold.2, xini_X4, xc_X4_isTold, xd_X4_isTold⟩
theorem xc_X3_readExpr : Cond.code yX3_readExpr cX3_readExpr 4 none ∈ gT := gT_c4 134 rfl rfl
theorem xi_X3_readExpr : Cond.instanceMethod yX3_readExpr ∈ gT ∧ Cond.selects yX3_readExpr.cls yX3_readExpr yX3_readExpr ∈ gT := ⟨gT_c4 133 rfl rfl, gT_of 14 (by decide +kernel) rfl⟩
theorem xd_X3_readExpr : yX3_readExpr.cls ≠ "java/lang/invoke/MethodHandle" ∧ yX3_readExpr.cls ≠ "java/lang/invoke/VarHandle" ∧ (parseMethodDescriptor yX3_readExpr.desc).map (fun d => d.parameters.length) = some 2 := by decide +kernel
theorem xv_X3_176 : gWV RX3 176 yX3_readExpr cX3_readExpr 4 none 2 := ⟨gT_c4 131 rfl rfl, xi_X3_readExpr.1, xi_X3_readExpr.2, xini_X3, xc_X3_readExpr, xd_X3_readExpr⟩
theorem xc_X3_readAnd : Cond.code yX3_readAnd cX3_readAnd 4 none ∈ gT := gT_c4 142 rfl rfl
theorem xi_X3_readAnd : Cond.instanceMethod yX3_readAnd ∈ gT ∧ Cond.selects yX3_readAnd.cls yX3_readAnd yX3_readAnd ∈ gT := ⟨gT_c4 141 rfl rfl, gT_of 15 (by decide +kernel) rfl⟩
theorem xd_X3_readAnd : yX3_readAnd.cls ≠ "java/lang/invoke/MethodHandle" ∧ yX3_readAnd.cls ≠ "java/lang/invoke/VarHandle" ∧ (parseMethodDescriptor yX3_readAnd.desc).map (fun d => d.parameters.length) = some 2 := by decide +kernel
theorem xv_X3_180 : gWV RX3 180 yX3_readAnd cX3_readAnd 4 none 2 := ⟨gT_c4 139 rfl rfl, xi_X3_readAnd.1, xi_X3_readAnd.2, xini_X3, xc_X3_readAnd, xd_X3_readAnd⟩
theorem xc_X4_add : Cond.code yX4_add cX4_add 2 none ∈ gT := gT_c4 171 rfl rfl
theorem xi_X4_add : Cond.instanceMethod yX4_add ∈ gT ∧ Cond.selects yX4_add.cls yX4_add yX4_add ∈ gT := ⟨gT_c4 169 rfl rfl, gT_c4 170 rfl rfl⟩
theorem xd_X4_add : yX4_add.cls ≠ "java/lang/invoke/MethodHandle" ∧ yX4_add.cls ≠ "java/lang/invoke/VarHandle" ∧ (parseMethodDescriptor yX4_add.desc).map (fun d => d.parameters.length) = some 1 := by decide +kernel
theorem xv_X3_185 : gWV RX3 185 yX4_add cX4_add 2 none 1 := ⟨gT_c4 168 rfl rfl, xi_X4_add.1, xi_X4_add.2, xini_X4, xc_X4_add, xd_X4_add⟩
theorem xc_X3_readNot : Cond.code yX3_readNot cX3_readNot 5 none ∈ gT := gT_c4 146 rfl rfl
theorem xi_X3_readNot : Cond.instanceMethod yX3_readNot ∈ gT ∧ Cond.selects yX3_readNot.cls yX3_readNot yX3_readNot ∈ gT := ⟨gT_c4 145 rfl rfl, gT_of 16 (by decide +kernel) rfl⟩
theorem xd_X3_readNot : yX3_readNot.cls ≠ "java/lang/invoke/MethodHandle" ∧ yX3_readNot.cls ≠ "java/lang/invoke/VarHandle" ∧ (parseMethodDescriptor yX3_readNot.desc).map (fun d => d.parameters.length) = some 2 := by decide +kernel
theorem xv_X3_188 : gWV RX3 188 yX3_readNot cX3_readNot 5 none 2 := ⟨gT_c4 143 rfl rfl, xi_X3_readNot.1, xi_X3_readNot.2, xini_X3, xc_X3_readNot, xd_X3_readNot⟩
theorem xc_X3_readTest : Cond.code yX3_readTest cX3_readTest 4 none ∈ gT := gT_c4 151 rfl rfl
theorem xi_X3_readTest : Cond.instanceMethod yX3_readTest ∈ gT ∧ Cond.selects yX3_readTest.cls yX3_readTest yX3_readTest ∈ gT := ⟨gT_c4 150 rfl rfl, gT_of 17 (by decide +kernel) rfl⟩
theorem xd_X3_readTest : yX3_readTest.cls ≠ "java/lang/invoke/MethodHandle" ∧ yX3_readTest.cls ≠ "java/lang/invoke/VarHandle" ∧ (parseMethodDescriptor yX3_readTest.desc).map (fun d => d.parameters.length) = some 2 := by decide +kernel
theorem xv_X3_195 : gWV RX3 195 yX3_readTest cX3_readTest 4 none 2 := ⟨gT_c4 148 rfl rfl, xi_X3_readTest.1, xi_X3_readTest.2, xini_X3, xc_X3_readTest, xd_X3_readTest⟩
theorem xc_X3_readSum : Cond.code yX3_readSum cX3_readSum 5 none ∈ gT := gT_c4 155 rfl rfl
theorem xi_X3_readSum : Cond.instanceMethod yX3_readSum ∈ gT ∧ Cond.selects yX3_readSum.cls yX3_readSum yX3_readSum ∈ gT := ⟨gT_c4 154 rfl rfl, gT_of 18 (by decide +kernel) rfl⟩
theorem xd_X3_readSum : yX3_readSum.cls ≠ "java/lang/invoke/MethodHandle" ∧ yX3_readSum.cls ≠ "java/lang/invoke/VarHandle" ∧ (parseMethodDescriptor yX3_readSum.desc).map (fun d => d.parameters.length) = some 2 := by decide +kernel
theorem xv_X3_198 : gWV RX3 198 yX3_readSum cX3_readSum 5 none 2 := ⟨gT_c4 152 rfl rfl, xi_X3_readSum.1, xi_X3_readSum.2, xini_X3, xc_X3_readSum, xd_X3_readSum⟩
theorem xc_X3_readProduct : Cond.code yX3_readProduct cX3_readProduct 5 none ∈ gT := gT_c4 159 rfl rfl
theorem xi_X3_readProduct : Cond.instanceMethod yX3_readProduct ∈ gT ∧ Cond.selects yX3_readProduct.cls yX3_readProduct yX3_readProduct ∈ gT := ⟨gT_c4 158 rfl rfl, gT_of 19 (by decide +kernel) rfl⟩
theorem xd_X3_readProduct : yX3_readProduct.cls ≠ "java/lang/invoke/MethodHandle" ∧ yX3_readProduct.cls ≠ "java/lang/invoke/VarHandle" ∧ (parseMethodDescriptor yX3_readProduct.desc).map (fun d => d.parameters.length) = some 2 := by decide +kernel
theorem xv_X3_201 : gWV RX3 201 yX3_readProduct cX3_readProduct 5 none 2 := ⟨gT_c4 156 rfl rfl, xi_X3_readProduct.1, xi_X3_readProduct.2, xini_X3, xc_X3_readProduct, xd_X3_readProduct⟩
theorem xc_X3_readPart : Cond.code yX3_readPart cX3_readPart 3 none ∈ gT := gT_c4 163 rfl rfl
theorem xi_X3_readPart : Cond.instanceMethod yX3_readPart ∈ gT ∧ Cond.selects yX3_readPart.cls yX3_readPart yX3_readPart ∈ gT := ⟨gT_c4 162 rfl rfl, gT_of 20 (by decide +kernel) rfl⟩
theorem xd_X3_readPart : yX3_readPart.cls ≠ "java/lang/invoke/MethodHandle" ∧ yX3_readPart.cls ≠ "java/lang/invoke/VarHandle" ∧ (parseMethodDescriptor yX3_readPart.desc).map (fun d => d.parameters.length) = some 2 := by decide +kernel
theorem xv_X3_204 : gWV RX3 204 yX3_readPart cX3_readPart 3 none 2 := ⟨gT_c4 160 rfl rfl, xi_X3_readPart.1, xi_X3_readPart.2, xini_X3, xc_X3_readPart, xd_X3_readPart⟩
theorem xc_X3_valueCode : Cond.code yX3_valueCode cX3_valueCode 2 (some .int) ∈ gT := gT_c4 175 rfl rfl
theorem xi_X3_valueCode : Cond.instanceMethod yX3_valueCode ∈ gT ∧ Cond.selects yX3_valueCode.cls yX3_valueCode yX3_valueCode ∈ gT := ⟨gT_c4 174 rfl rfl, gT_of 22 (by decide +kernel) rfl⟩
theorem xd_X3_valueCode : yX3_valueCode.cls ≠ "java/lang/invoke/MethodHandle" ∧ yX3_valueCode.cls ≠ "java/lang/invoke/VarHandle" ∧ (parseMethodDescriptor yX3_valueCode.desc).map (fun d => d.parameters.length) = some 1 := by decide +kernel
theorem xv_X3_207 : gWV RX3 207 yX3_valueCode cX3_valueCode 2 (some .int) 1 := ⟨gT_c4 172 rfl rfl, xi_X3_valueCode.1, xi_X3_valueCode.2, xini_X3, xc_X3_valueCode, xd_X3_valueCode⟩
theorem xc_X10_valueOf : Cond.code yX10_valueOf cX10_valueOf 4 (some .int) ∈ gT := gT_c3 39 rfl rfl
theorem xi_X10_valueOf : Cond.instanceMethod yX10_valueOf ∈ gT ∧ Cond.selects yX10_valueOf.cls yX10_valueOf yX10_valueOf ∈ gT := ⟨gT_c3 37 rfl rfl, gT_c3 38 rfl rfl⟩
theorem xd_X10_valueOf : yX10_valueOf.cls ≠ "java/lang/invoke/MethodHandle" ∧ yX10_valueOf.cls ≠ "java/lang/invoke/VarHandle" ∧ (parseMethodDescriptor yX10_valueOf.desc).map (fun d => d.parameters.length) = some 2 := by decide +kernel
theorem xv_X4_26 : gWV RX4 26 yX10_valueOf cX10_valueOf 4 (some .int) 2 := ⟨gT_c3 36 rfl rfl, xi_X10_valueOf.1, xi_X10_valueOf.2, xini_X10, xc_X10_valueOf, xd_X10_valueOf⟩
theorem xc_X4_join : Cond.code yX4_join cX4_join 3 (some .int) ∈ gT := gT_c3 42 rfl rfl
theorem xt_X4_join : Cond.static yX4_join ∈ gT := gT_c3 41 rfl rfl
theorem xd_X4_join : yX4_join.cls ≠ "java/lang/invoke/MethodHandle" ∧ yX4_join.cls ≠ "java/lang/invoke/VarHandle" ∧ (parseMethodDescriptor yX4_join.desc).map (fun d => d.parameters.length) = some 3 := by decide +kernel
theorem xv_X4_32 : gWS RX4 32 yX4_join cX4_join 3 (some .int) 3 := ⟨gT_c3 40 rfl rfl, xt_X4_join, xini_X4, xc_X4_join, rfl, xd_X4_join⟩
theorem xv_X6_35 : gWO RX6 35 yJ6_bitCount_0f7a4 cJ6_bitCount_0f7a4 1 (some .int) 1 := ⟨gT_c5 211 rfl rfl, xt_J6_bitCount_0f7a4, xini_J6, xc_J6_bitCount_0f7a4, xd_J6_bitCount_0f7a4⟩
theorem xc_X6_bestOf : Cond.code yX6_bestOf cX6_bestOf 7 (some .int) ∈ gT := gT_c5 215 rfl rfl
theorem xi_X6_bestOf : Cond.instanceMethod yX6_bestOf ∈ gT ∧ Cond.selects yX6_bestOf.cls yX6_bestOf yX6_bestOf ∈ gT := ⟨gT_c5 214 rfl rfl, gT_of 31 (by decide +kernel) rfl⟩
theorem xd_X6_bestOf : yX6_bestOf.cls ≠ "java/lang/invoke/MethodHandle" ∧ yX6_bestOf.cls ≠ "java/lang/invoke/VarHandle" ∧ (parseMethodDescriptor yX6_bestOf.desc).map (fun d => d.parameters.length) = some 4 := by decide +kernel
theorem xv_X6_41 : gWV RX6 41 yX6_bestOf cX6_bestOf 7 (some .int) 4 := ⟨gT_c5 212 rfl rfl, xi_X6_bestOf.1, xi_X6_bestOf.2, xini_X6, xc_X6_bestOf, xd_X6_bestOf⟩
theorem xc_X6_choice : Cond.code yX6_choice cX6_choice 6 (some .int) ∈ gT := gT_c5 232 rfl rfl
theorem xi_X6_choice : Cond.instanceMethod yX6_choice ∈ gT ∧ Cond.selects yX6_choice.cls yX6_choice yX6_choice ∈ gT := ⟨gT_c5 231 rfl rfl, gT_of 34 (by decide +kernel) rfl⟩
theorem xd_X6_choice : yX6_choice.cls ≠ "java/lang/invoke/MethodHandle" ∧ yX6_choice.cls ≠ "java/lang/invoke/VarHandle" ∧ (parseMethodDescriptor yX6_choice.desc).map (fun d => d.parameters.length) = some 4 := by decide +kernel
theorem xv_X6_45 : gWV RX6 45 yX6_choice cX6_choice 6 (some .int) 4 := ⟨gT_c5 229 rfl rfl, xi_X6_choice.1, xi_X6_choice.2, xini_X6, xc_X6_choice, xd_X6_choice⟩
theorem xv_X6_48 : gWV RX6 48 yX9_isGrotto cX9_isGrotto 2 (some .boolean) 1 := ⟨gT_c5 233 rfl rfl, xi_X9_isGrotto.1, xi_X9_isGrotto.2, xini_X9, xc_X9_isGrotto, xd_X9_isGrotto⟩
theorem xc_X6_behind : Cond.code yX6_behind cX6_behind 4 (some .int) ∈ gT := gT_c5 219 rfl rfl
theorem xi_X6_behind : Cond.instanceMethod yX6_behind ∈ gT ∧ Cond.selects yX6_behind.cls yX6_behind yX6_behind ∈ gT := ⟨gT_c5 218 rfl rfl, gT_of 32 (by decide +kernel) rfl⟩
theorem xd_X6_behind : yX6_behind.cls ≠ "java/lang/invoke/MethodHandle" ∧ yX6_behind.cls ≠ "java/lang/invoke/VarHandle" ∧ (parseMethodDescriptor yX6_behind.desc).map (fun d => d.parameters.length) = some 3 := by decide +kernel
theorem xv_X6_55 : gWV RX6 55 yX6_behind cX6_behind 4 (some .int) 3 := ⟨gT_c5 216 rfl rfl, xi_X6_behind.1, xi_X6_behind.2, xini_X6, xc_X6_behind, xd_X6_behind⟩
theorem xc_X6_canHave : Cond.code yX6_canHave cX6_canHave 5 (some .boolean) ∈ gT := gT_c5 222 rfl rfl
theorem xt_X6_canHave : Cond.static yX6_canHave ∈ gT := gT_c5 221 rfl rfl
theorem xd_X6_canHave : yX6_canHave.cls ≠ "java/lang/invoke/MethodHandle" ∧ yX6_canHave.cls ≠ "java/lang/invoke/VarHandle" ∧ (parseMethodDescriptor yX6_canHave.desc).map (fun d => d.parameters.length) = some 5 := by decide +kernel
theorem xv_X6_59 : gWS RX6 59 yX6_canHave cX6_canHave 5 (some .boolean) 5 := ⟨gT_c5 220 rfl rfl, xt_X6_canHave, xini_X6, xc_X6_canHave, rfl, xd_X6_canHave⟩
theorem xc_X6_worthOf : Cond.code yX6_worthOf cX6_worthOf 5 (some .int) ∈ gT := gT_c5 227 rfl rfl
theorem xi_X6_worthOf : Cond.instanceMethod yX6_worthOf ∈ gT ∧ Cond.selects yX6_worthOf.cls yX6_worthOf yX6_worthOf ∈ gT := ⟨gT_c5 226 rfl rfl, gT_of 33 (by decide +kernel) rfl⟩
theorem xd_X6_worthOf : yX6_worthOf.cls ≠ "java/lang/invoke/MethodHandle" ∧ yX6_worthOf.cls ≠ "java/lang/invoke/VarHandle" ∧ (parseMethodDescriptor yX6_worthOf.desc).map (fun d => d.parameters.length) = some 4 := by decide +kernel
theorem xv_X6_63 : gWV RX6 63 yX6_worthOf cX6_worthOf 5 (some .int) 4 := ⟨gT_c5 224 rfl rfl, xi_X6_worthOf.1, xi_X6_worthOf.2, xini_X6, xc_X6_worthOf, xd_X6_worthOf⟩
theorem xMmax_X6_67 : Cond.methodLink RX6 67 Lib.Math.max.name ∈ gT ∧ Cond.static Lib.Math.max.name ∈ gT ∧ Cond.initialized "java/lang/Math" ∈ gT ∧ Cond.code Lib.Math.max.name Lib.Math.max.code 2 (some .int) ∈ gT := ⟨gT_c5 228 rfl rfl, xm_max⟩
theorem xn_X6_73 : Cond.methodLinkNest RX6 73 yX11_isOneOf "GrottoHours" ∈ xNest := List.mem_of_getElem? (i := 99) rfl
theorem xv_X6_73 : gWN RX6 "GrottoHours" 73 yX11_isOneOf cX11_isOneOf 2 (some .boolean) 2 := ⟨xt_X11_isOneOf, xini_X11, xc_X11_isOneOf, xd_X11_isOneOf⟩
theorem xn_X7_39 : Cond.methodLinkNest RX7 39 yX11_isOneOf "GrottoHours" ∈ xNest := List.mem_of_getElem? (i := 98) rfl
theorem xv_X7_39 : gWN RX7 "GrottoHours" 39 yX11_isOneOf cX11_isOneOf 2 (some .boolean) 2 := ⟨xt_X11_isOneOf, xini_X11, xc_X11_isOneOf, xd_X11_isOneOf⟩
theorem xm_min : Cond.static Lib.Math.min.name ∈ gT ∧ Cond.initialized "java/lang/Math" ∈ gT ∧ Cond.code Lib.Math.min.name Lib.Math.min.code 2 (some .int) ∈ gT := ⟨gT_c3 44 rfl rfl, gT_c1 18 rfl rfl, gT_c3 45 rfl rfl⟩
theorem xMmin_X7_43 : Cond.methodLink RX7 43 Lib.Math.min.name ∈ gT ∧ Cond.static Lib.Math.min.name ∈ gT ∧ Cond.initialized "java/lang/Math" ∈ gT ∧ Cond.code Lib.Math.min.name Lib.Math.min.code 2 (some .int) ∈ gT := ⟨gT_c5 84 rfl rfl, xm_min⟩
theorem xMmin_X8_34 : Cond.methodLink RX8 34 Lib.Math.min.name ∈ gT ∧ Cond.static Lib.Math.min.name ∈ gT ∧ Cond.initialized "java/lang/Math" ∈ gT ∧ Cond.code Lib.Math.min.name Lib.Math.min.code 2 (some .int) ∈ gT := ⟨gT_c3 195 rfl rfl, xm_min⟩
theorem xv_X8_40 : gWV RX8 40 yX8_advance cX8_advance 2 none 0 := ⟨gT_c3 196 rfl rfl, xi_X8_advance.1, xi_X8_advance.2, xini_X8, xc_X8_advance, xd_X8_advance⟩
theorem xc_X8_at : Cond.code yX8_at cX8_at 2 (some .int) ∈ gT := gT_c3 203 rfl rfl
theorem xi_X8_at : Cond.instanceMethod yX8_at ∈ gT ∧ Cond.selects yX8_at.cls yX8_at yX8_at ∈ gT := ⟨gT_c3 202 rfl rfl, gT_of 3 (by decide +kernel) rfl⟩
theorem xd_X8_at : yX8_at.cls ≠ "java/lang/invoke/MethodHandle" ∧ yX8_at.cls ≠ "java/lang/invoke/VarHandle" ∧ (parseMethodDescriptor yX8_at.desc).map (fun d => d.parameters.length) = some 1 := by decide +kernel
theorem xv_X8_43 : gWV RX8 43 yX8_at cX8_at 2 (some .int) 1 := ⟨gT_c3 200 rfl rfl, xi_X8_at.1, xi_X8_at.2, xini_X8, xc_X8_at, xd_X8_at⟩
theorem xc_X8_kindOf : Cond.code yX8_kindOf cX8_kindOf 1 (some .int) ∈ gT := gT_c3 206 rfl rfl
theorem xt_X8_kindOf : Cond.static yX8_kindOf ∈ gT := gT_c3 205 rfl rfl
theorem xd_X8_kindOf : yX8_kindOf.cls ≠ "java/lang/invoke/MethodHandle" ∧ yX8_kindOf.cls ≠ "java/lang/invoke/VarHandle" ∧ (parseMethodDescriptor yX8_kindOf.desc).map (fun d => d.parameters.length) = some 1 := by decide +kernel
theorem xv_X8_47 : gWS RX8 47 yX8_kindOf cX8_kindOf 1 (some .int) 1 := ⟨gT_c3 204 rfl rfl, xt_X8_kindOf, xini_X8, xc_X8_kindOf, rfl, xd_X8_kindOf⟩
theorem xc_J0_length_8abf5 : Cond.code yJ0_length_8abf5 cJ0_length_8abf5 1 (some .int) ∈ gT := gT_c3 225 rfl rfl
theorem xi_J0_length_8abf5 : Cond.instanceMethod yJ0_length_8abf5 ∈ gT ∧ Cond.selects yJ0_length_8abf5.cls yJ0_length_8abf5 yJ0_length_8abf5 ∈ gT := ⟨gT_c3 223 rfl rfl, gT_c3 224 rfl rfl⟩
theorem xd_J0_length_8abf5 : yJ0_length_8abf5.cls ≠ "java/lang/invoke/MethodHandle" ∧ yJ0_length_8abf5.cls ≠ "java/lang/invoke/VarHandle" ∧ (parseMethodDescriptor yJ0_length_8abf5.desc).map (fun d => d.parameters.length) = some 0 := by decide +kernel
theorem xini_J0 : Cond.initialized RJ0 ∈ gT := gT_c1 19 rfl rfl
theorem xv_X8_50 : gWV RX8 50 yJ0_length_8abf5 cJ0_length_8abf5 1 (some .int) 0 := ⟨gT_c4 63 rfl rfl, xi_J0_length_8abf5.1, xi_J0_length_8abf5.2, xini_J0, xc_J0_length_8abf5, xd_J0_length_8abf5⟩
theorem xc_J0_charAt_5068e : Cond.code yJ0_charAt_5068e cJ0_charAt_5068e 2 (some .char) ∈ gT := gT_c4 67 rfl rfl
theorem xi_J0_charAt_5068e : Cond.instanceMethod yJ0_charAt_5068e ∈ gT ∧ Cond.selects yJ0_charAt_5068e.cls yJ0_charAt_5068e yJ0_charAt_5068e ∈ gT := ⟨gT_c4 65 rfl rfl, gT_c4 66 rfl rfl⟩
theorem xd_J0_charAt_5068e : yJ0_charAt_5068e.cls ≠ "java/lang/invoke/MethodHandle" ∧ yJ0_charAt_5068e.cls ≠ "java/lang/invoke/VarHandle" ∧ (parseMethodDescriptor yJ0_charAt_5068e.desc).map (fun d => d.parameters.length) = some 1 := by decide +kernel
theorem xv_X8_55 : gWV RX8 55 yJ0_charAt_5068e cJ0_charAt_5068e 2 (some .char) 1 := ⟨gT_c4 64 rfl rfl, xi_J0_charAt_5068e.1, xi_J0_charAt_5068e.2, xini_J0, xc_J0_charAt_5068e, xd_J0_charAt_5068e⟩
theorem xc_J0_indexOf_0f7a4 : Cond.code yJ0_indexOf_0f7a4 cJ0_indexOf_0f7a4 2 (some .int) ∈ gT := gT_c3 211 rfl rfl
theorem xi_J0_indexOf_0f7a4 : Cond.instanceMethod yJ0_indexOf_0f7a4 ∈ gT ∧ Cond.selects yJ0_indexOf_0f7a4.cls yJ0_indexOf_0f7a4 yJ0_indexOf_0f7a4 ∈ gT := ⟨gT_c3 209 rfl rfl, gT_c3 210 rfl rfl⟩
theorem xd_J0_indexOf_0f7a4 : yJ0_indexOf_0f7a4.cls ≠ "java/lang/invoke/MethodHandle" ∧ yJ0_indexOf_0f7a4.cls ≠ "java/lang/invoke/VarHandle" ∧ (parseMethodDescriptor yJ0_indexOf_0f7a4.desc).map (fun d => d.parameters.length) = some 1 := by decide +kernel
theorem xv_X8_61 : gWV RX8 61 yJ0_indexOf_0f7a4 cJ0_indexOf_0f7a4 2 (some .int) 1 := ⟨gT_c3 208 rfl rfl, xi_J0_indexOf_0f7a4.1, xi_J0_indexOf_0f7a4.2, xini_J0, xc_J0_indexOf_0f7a4, xd_J0_indexOf_0f7a4⟩
theorem xc_X4_clear : Cond.code yX4_clear cX4_clear 1 none ∈ gT := gT_c3 190 rfl rfl
theorem xi_X4_clear : Cond.instanceMethod yX4_clear ∈ gT ∧ Cond.selects yX4_clear.cls yX4_clear yX4_clear ∈ gT := ⟨gT_c3 188 rfl rfl, gT_c3 189 rfl rfl⟩
theorem xd_X4_clear : yX4_clear.cls ≠ "java/lang/invoke/MethodHandle" ∧ yX4_clear.cls ≠ "java/lang/invoke/VarHandle" ∧ (parseMethodDescriptor yX4_clear.desc).map (fun d => d.parameters.length) = some 0 := by decide +kernel
theorem xv_X9_65 : gWV RX9 65 yX4_clear cX4_clear 1 none 0 := ⟨gT_c3 187 rfl rfl, xi_X4_clear.1, xi_X4_clear.2, xini_X4, xc_X4_clear, xd_X4_clear⟩
theorem xv_X9_68 : gWV RX9 68 yX9_isBoundTold cX9_isBoundTold 1 (some .boolean) 0 := ⟨gT_c3 57 rfl rfl, xi_X9_isBoundTold.1, xi_X9_isBoundTold.2, xini_X9, xc_X9_isBoundTold, xd_X9_isBoundTold⟩
theorem xv_X9_72 : gWV RX9 72 yX9_isGrotto cX9_isGrotto 2 (some .boolean) 1 := ⟨gT_c3 23 rfl rfl, xi_X9_isGrotto.1, xi_X9_isGrotto.2, xini_X9, xc_X9_isGrotto, xd_X9_isGrotto⟩
theorem xn_X9_76 : Cond.methodLinkNest RX9 76 yX11_isOneOf "GrottoHours" ∈ xNest := List.mem_of_getElem? (i := 96) rfl
theorem xv_X9_76 : gWN RX9 "GrottoHours" 76 yX11_isOneOf cX11_isOneOf 2 (some .boolean) 2 := ⟨xt_X11_isOneOf, xini_X11, xc_X11_isOneOf, xd_X11_isOneOf⟩
theorem xv_X9_80 : gWV RX9 80 yX9_comesRound cX9_comesRound 3 (some .boolean) 2 := ⟨gT_c3 19 rfl rfl, xi_X9_comesRound.1, xi_X9_comesRound.2, xini_X9, xc_X9_comesRound, xd_X9_comesRound⟩
theorem xv_X10_36 : gWV RX10 36 yX9_isGuild cX9_isGuild 2 (some .boolean) 1 := ⟨gT_c2 239 rfl rfl, xi_X9_isGuild.1, xi_X9_isGuild.2, xini_X9, xc_X9_isGuild, xd_X9_isGuild⟩
theorem xv_X10_56 : gWV RX10 56 yX9_wetOf cX9_wetOf 2 (some .int) 1 := ⟨gT_c3 3 rfl rfl, xi_X9_wetOf.1, xi_X9_wetOf.2, xini_X9, xc_X9_wetOf, xd_X9_wetOf⟩
theorem xv_X10_61 : gWV RX10 61 yX10_passHour cX10_passHour 5 (some .boolean) 2 := ⟨gT_c5 104 rfl rfl, xi_X10_passHour.1, xi_X10_passHour.2, xini_X10, xc_X10_passHour, xd_X10_passHour⟩
theorem xv_X10_65 : gWV RX10 65 yX9_isGrotto cX9_isGrotto 2 (some .boolean) 1 := ⟨gT_c3 8 rfl rfl, xi_X9_isGrotto.1, xi_X9_isGrotto.2, xini_X9, xc_X9_isGrotto, xd_X9_isGrotto⟩
theorem xv_X10_68 : gWV RX10 68 yX9_drips cX9_drips 5 (some .boolean) 4 := ⟨gT_c3 12 rfl rfl, xi_X9_drips.1, xi_X9_drips.2, xini_X9, xc_X9_drips, xd_X9_drips⟩
theorem xc_X10_pray : Cond.code yX10_pray cX10_pray 3 none ∈ gT := gT_c3 27 rfl rfl
theorem xi_X10_pray : Cond.instanceMethod yX10_pray ∈ gT ∧ Cond.selects yX10_pray.cls yX10_pray yX10_pray ∈ gT := ⟨gT_c3 26 rfl rfl, gT_of 1 (by decide +kernel) rfl⟩
theorem xd_X10_pray : yX10_pray.cls ≠ "java/lang/invoke/MethodHandle" ∧ yX10_pray.cls ≠ "java/lang/invoke/VarHandle" ∧ (parseMethodDescriptor yX10_pray.desc).map (fun d => d.parameters.length) = some 1 := by decide +kernel
theorem xv_X10_72 : gWV RX10 72 yX10_pray cX10_pray 3 none 1 := ⟨gT_c3 24 rfl rfl, xi_X10_pray.1, xi_X10_pray.2, xini_X10, xc_X10_pray, xd_X10_pray⟩
theorem xMmin_X10_80 : Cond.methodLink RX10 80 Lib.Math.min.name ∈ gT ∧ Cond.static Lib.Math.min.name ∈ gT ∧ Cond.initialized "java/lang/Math" ∈ gT ∧ Cond.code Lib.Math.min.name Lib.Math.min.code 2 (some .int) ∈ gT := ⟨gT_c3 43 rfl rfl, xm_min⟩
theorem xv_X10_86 : gWV RX10 86 yX10_cost cX10_cost 3 (some .int) 1 := ⟨gT_c3 49 rfl rfl, xi_X10_cost.1, xi_X10_cost.2, xini_X10, xc_X10_cost, xd_X10_cost⟩
theorem xv_X10_90 : gWV RX10 90 yX9_mostSin cX9_mostSin 1 (some .int) 0 := ⟨gT_c3 53 rfl rfl, xi_X9_mostSin.1, xi_X9_mostSin.2, xini_X9, xc_X9_mostSin, xd_X9_mostSin⟩
theorem xv_X10_98 : gWV RX10 98 yX4_isTold cX4_isTold 1 (some .boolean) 0 := ⟨gT_c3 28 rfl rfl, xi_X4_isTold.1, xi_X4_isTold.2, xini_X4, xc_X4_isTold, xd_X4_isTold⟩
theorem xc_X4_worth : Cond.code yX4_worth cX4_worth 6 (some .int) ∈ gT := gT_c3 35 rfl rfl
theorem xi_X4_worth : Cond.instanceMethod yX4_worth ∈ gT ∧ Cond.selects yX4_worth.cls yX4_worth yX4_worth ∈ gT := ⟨gT_c3 33 rfl rfl, gT_c3 34 rfl rfl⟩
theorem xd_X4_worth : yX4_worth.cls ≠ "java/lang/invoke/MethodHandle" ∧ yX4_worth.cls ≠ "java/lang/invoke/VarHandle" ∧ (parseMethodDescriptor yX4_worth.desc).map (fun d => d.parameters.length) = some 2 := by decide +kernel
theorem xv_X10_104 : gWV RX10 104 yX4_worth cX4_worth 6 (some .int) 2 := ⟨gT_c3 32 rfl rfl, xi_X4_worth.1, xi_X4_worth.2, xini_X4, xc_X4_worth, xd_X4_worth⟩
theorem xMmax_X10_111 : Cond.methodLink RX10 111 Lib.Math.max.name ∈ gT ∧ Cond.static Lib.Math.max.name ∈ gT ∧ Cond.initialized "java/lang/Math" ∈ gT ∧ Cond.code Lib.Math.max.name Lib.Math.max.code 2 (some .int) ∈ gT := ⟨gT_c3 46 rfl rfl, xm_max⟩
theorem xKI_J2_227 : Cond.constant RJ2 227 (65536) ∈ gT := gT_c4 6 rfl rfl
theorem xKI_J11_110 : Cond.constant RJ11 110 (55232) ∈ gT := gT_c4 45 rfl rfl
theorem xKI_J11_76 : Cond.constant RJ11 76 (56320) ∈ gT := gT_c4 49 rfl rfl
theorem xKI_J6_265 : Cond.constant RJ6 265 (1431655765) ∈ gT := gT_c5 155 rfl rfl
theorem xKI_J6_266 : Cond.constant RJ6 266 (858993459) ∈ gT := gT_c5 156 rfl rfl
theorem xKI_J6_267 : Cond.constant RJ6 267 (252645135) ∈ gT := gT_c5 157 rfl rfl
theorem xKI_X11_405 : Cond.constant RX11 405 (1103515245) ∈ gT := gT_c6 139 rfl rfl
theorem xKI_X12_191 : Cond.constant RX12 191 (100000) ∈ gT := gT_c7 150 rfl rfl
theorem xKI_X12_480 : Cond.constant RX12 480 (1103515245) ∈ gT := gT_c9 65 rfl rfl
