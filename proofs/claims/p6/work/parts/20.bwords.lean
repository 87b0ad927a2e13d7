/-! words of the law's calls (printed by wip/whole/mklaw.py) -/
theorem xc_X11_port : Cond.code yX11_port cX11_port 4 (some .int) ∈ gT := gT_c3 112 rfl rfl
theorem xi_X11_port : Cond.instanceMethod yX11_port ∈ gT ∧ Cond.selects yX11_port.cls yX11_port yX11_port ∈ gT := ⟨gT_c3 110 rfl rfl, gT_c3 111 rfl rfl⟩
theorem xd_X11_port : yX11_port.cls ≠ "java/lang/invoke/MethodHandle" ∧ yX11_port.cls ≠ "java/lang/invoke/VarHandle" ∧ (parseMethodDescriptor yX11_port.desc).map (fun d => d.parameters.length) = some 1 := by decide +kernel
theorem xv_L_7 : gWV RL 7 yX11_port cX11_port 4 (some .int) 1 := ⟨gT_c3 109 rfl rfl, xi_X11_port.1, xi_X11_port.2, xini_X11, xc_X11_port, xd_X11_port⟩
theorem xc_X11_count : Cond.code yX11_count cX11_count 3 (some .int) ∈ gT := gT_c4 200 rfl rfl
theorem xi_X11_count : Cond.instanceMethod yX11_count ∈ gT ∧ Cond.selects yX11_count.cls yX11_count yX11_count ∈ gT := ⟨gT_c4 198 rfl rfl, gT_c4 199 rfl rfl⟩
theorem xd_X11_count : yX11_count.cls ≠ "java/lang/invoke/MethodHandle" ∧ yX11_count.cls ≠ "java/lang/invoke/VarHandle" ∧ (parseMethodDescriptor yX11_count.desc).map (fun d => d.parameters.length) = some 1 := by decide +kernel
theorem xv_L_15 : gWV RL 15 yX11_count cX11_count 3 (some .int) 1 := ⟨gT_c4 197 rfl rfl, xi_X11_count.1, xi_X11_count.2, xini_X11, xc_X11_count, xd_X11_count⟩
theorem xc_X11_grotto : Cond.code yX11_grotto cX11_grotto 3 (some .int) ∈ gT := gT_c4 236 rfl rfl
theorem xi_X11_grotto : Cond.instanceMethod yX11_grotto ∈ gT ∧ Cond.selects yX11_grotto.cls yX11_grotto yX11_grotto ∈ gT := ⟨gT_c4 234 rfl rfl, gT_c4 235 rfl rfl⟩
theorem xd_X11_grotto : yX11_grotto.cls ≠ "java/lang/invoke/MethodHandle" ∧ yX11_grotto.cls ≠ "java/lang/invoke/VarHandle" ∧ (parseMethodDescriptor yX11_grotto.desc).map (fun d => d.parameters.length) = some 2 := by decide +kernel
theorem xv_L_20 : gWV RL 20 yX11_grotto cX11_grotto 3 (some .int) 2 := ⟨gT_c4 233 rfl rfl, xi_X11_grotto.1, xi_X11_grotto.2, xini_X11, xc_X11_grotto, xd_X11_grotto⟩
theorem xc_X11_guild : Cond.code yX11_guild cX11_guild 4 (some .int) ∈ gT := gT_c5 28 rfl rfl
theorem xi_X11_guild : Cond.instanceMethod yX11_guild ∈ gT ∧ Cond.selects yX11_guild.cls yX11_guild yX11_guild ∈ gT := ⟨gT_c5 26 rfl rfl, gT_c5 27 rfl rfl⟩
theorem xd_X11_guild : yX11_guild.cls ≠ "java/lang/invoke/MethodHandle" ∧ yX11_guild.cls ≠ "java/lang/invoke/VarHandle" ∧ (parseMethodDescriptor yX11_guild.desc).map (fun d => d.parameters.length) = some 2 := by decide +kernel
theorem xv_L_24 : gWV RL 24 yX11_guild cX11_guild 4 (some .int) 2 := ⟨gT_c5 25 rfl rfl, xi_X11_guild.1, xi_X11_guild.2, xini_X11, xc_X11_guild, xd_X11_guild⟩
theorem xc_X11_hire : Cond.code yX11_hire cX11_hire 3 (some .boolean) ∈ gT := gT_c5 47 rfl rfl
theorem xi_X11_hire : Cond.instanceMethod yX11_hire ∈ gT ∧ Cond.selects yX11_hire.cls yX11_hire yX11_hire ∈ gT := ⟨gT_c5 45 rfl rfl, gT_c5 46 rfl rfl⟩
theorem xd_X11_hire : yX11_hire.cls ≠ "java/lang/invoke/MethodHandle" ∧ yX11_hire.cls ≠ "java/lang/invoke/VarHandle" ∧ (parseMethodDescriptor yX11_hire.desc).map (fun d => d.parameters.length) = some 2 := by decide +kernel
theorem xv_L_27 : gWV RL 27 yX11_hire cX11_hire 3 (some .boolean) 2 := ⟨gT_c5 44 rfl rfl, xi_X11_hire.1, xi_X11_hire.2, xini_X11, xc_X11_hire, xd_X11_hire⟩
theorem xc_X11_dismiss : Cond.code yX11_dismiss cX11_dismiss 3 (some .int) ∈ gT := gT_c5 54 rfl rfl
theorem xi_X11_dismiss : Cond.instanceMethod yX11_dismiss ∈ gT ∧ Cond.selects yX11_dismiss.cls yX11_dismiss yX11_dismiss ∈ gT := ⟨gT_c5 52 rfl rfl, gT_c5 53 rfl rfl⟩
theorem xd_X11_dismiss : yX11_dismiss.cls ≠ "java/lang/invoke/MethodHandle" ∧ yX11_dismiss.cls ≠ "java/lang/invoke/VarHandle" ∧ (parseMethodDescriptor yX11_dismiss.desc).map (fun d => d.parameters.length) = some 1 := by decide +kernel
theorem xv_L_31 : gWV RL 31 yX11_dismiss cX11_dismiss 3 (some .int) 1 := ⟨gT_c5 51 rfl rfl, xi_X11_dismiss.1, xi_X11_dismiss.2, xini_X11, xc_X11_dismiss, xd_X11_dismiss⟩
theorem xc_X11_confess : Cond.code yX11_confess cX11_confess 3 (some .int) ∈ gT := gT_c5 61 rfl rfl
theorem xi_X11_confess : Cond.instanceMethod yX11_confess ∈ gT ∧ Cond.selects yX11_confess.cls yX11_confess yX11_confess ∈ gT := ⟨gT_c5 59 rfl rfl, gT_c5 60 rfl rfl⟩
theorem xd_X11_confess : yX11_confess.cls ≠ "java/lang/invoke/MethodHandle" ∧ yX11_confess.cls ≠ "java/lang/invoke/VarHandle" ∧ (parseMethodDescriptor yX11_confess.desc).map (fun d => d.parameters.length) = some 1 := by decide +kernel
theorem xv_L_34 : gWV RL 34 yX11_confess cX11_confess 3 (some .int) 1 := ⟨gT_c5 58 rfl rfl, xi_X11_confess.1, xi_X11_confess.2, xini_X11, xc_X11_confess, xd_X11_confess⟩
theorem xc_X11_drain : Cond.code yX11_drain cX11_drain 3 (some .boolean) ∈ gT := gT_c5 68 rfl rfl
theorem xi_X11_drain : Cond.instanceMethod yX11_drain ∈ gT ∧ Cond.selects yX11_drain.cls yX11_drain yX11_drain ∈ gT := ⟨gT_c5 66 rfl rfl, gT_c5 67 rfl rfl⟩
theorem xd_X11_drain : yX11_drain.cls ≠ "java/lang/invoke/MethodHandle" ∧ yX11_drain.cls ≠ "java/lang/invoke/VarHandle" ∧ (parseMethodDescriptor yX11_drain.desc).map (fun d => d.parameters.length) = some 2 := by decide +kernel
theorem xv_L_37 : gWV RL 37 yX11_drain cX11_drain 3 (some .boolean) 2 := ⟨gT_c5 65 rfl rfl, xi_X11_drain.1, xi_X11_drain.2, xini_X11, xc_X11_drain, xd_X11_drain⟩
theorem xc_X11_give : Cond.code yX11_give cX11_give 3 (some .int) ∈ gT := gT_c5 79 rfl rfl
theorem xi_X11_give : Cond.instanceMethod yX11_give ∈ gT ∧ Cond.selects yX11_give.cls yX11_give yX11_give ∈ gT := ⟨gT_c5 77 rfl rfl, gT_c5 78 rfl rfl⟩
theorem xd_X11_give : yX11_give.cls ≠ "java/lang/invoke/MethodHandle" ∧ yX11_give.cls ≠ "java/lang/invoke/VarHandle" ∧ (parseMethodDescriptor yX11_give.desc).map (fun d => d.parameters.length) = some 2 := by decide +kernel
theorem xv_L_41 : gWV RL 41 yX11_give cX11_give 3 (some .int) 2 := ⟨gT_c5 76 rfl rfl, xi_X11_give.1, xi_X11_give.2, xini_X11, xc_X11_give, xd_X11_give⟩
theorem xc_X11_then : Cond.code yX11_then cX11_then 4 (some .int) ∈ gT := gT_c5 91 rfl rfl
theorem xi_X11_then : Cond.instanceMethod yX11_then ∈ gT ∧ Cond.selects yX11_then.cls yX11_then yX11_then ∈ gT := ⟨gT_c5 89 rfl rfl, gT_c5 90 rfl rfl⟩
theorem xd_X11_then : yX11_then.cls ≠ "java/lang/invoke/MethodHandle" ∧ yX11_then.cls ≠ "java/lang/invoke/VarHandle" ∧ (parseMethodDescriptor yX11_then.desc).map (fun d => d.parameters.length) = some 3 := by decide +kernel
theorem xv_L_44 : gWV RL 44 yX11_then cX11_then 4 (some .int) 3 := ⟨gT_c5 88 rfl rfl, xi_X11_then.1, xi_X11_then.2, xini_X11, xc_X11_then, xd_X11_then⟩
theorem xc_X11_dripping : Cond.code yX11_dripping cX11_dripping 2 (some .int) ∈ gT := gT_c5 111 rfl rfl
theorem xi_X11_dripping : Cond.instanceMethod yX11_dripping ∈ gT ∧ Cond.selects yX11_dripping.cls yX11_dripping yX11_dripping ∈ gT := ⟨gT_c5 109 rfl rfl, gT_c5 110 rfl rfl⟩
theorem xd_X11_dripping : yX11_dripping.cls ≠ "java/lang/invoke/MethodHandle" ∧ yX11_dripping.cls ≠ "java/lang/invoke/VarHandle" ∧ (parseMethodDescriptor yX11_dripping.desc).map (fun d => d.parameters.length) = some 1 := by decide +kernel
theorem xv_L_48 : gWV RL 48 yX11_dripping cX11_dripping 2 (some .int) 1 := ⟨gT_c5 108 rfl rfl, xi_X11_dripping.1, xi_X11_dripping.2, xini_X11, xc_X11_dripping, xd_X11_dripping⟩
theorem xc_X11_first : Cond.code yX11_first cX11_first 3 (some .int) ∈ gT := gT_c5 122 rfl rfl
theorem xi_X11_first : Cond.instanceMethod yX11_first ∈ gT ∧ Cond.selects yX11_first.cls yX11_first yX11_first ∈ gT := ⟨gT_c5 120 rfl rfl, gT_c5 121 rfl rfl⟩
theorem xd_X11_first : yX11_first.cls ≠ "java/lang/invoke/MethodHandle" ∧ yX11_first.cls ≠ "java/lang/invoke/VarHandle" ∧ (parseMethodDescriptor yX11_first.desc).map (fun d => d.parameters.length) = some 1 := by decide +kernel
theorem xv_L_51 : gWV RL 51 yX11_first cX11_first 3 (some .int) 1 := ⟨gT_c5 119 rfl rfl, xi_X11_first.1, xi_X11_first.2, xini_X11, xc_X11_first, xd_X11_first⟩
theorem xc_X11_dismissed : Cond.code yX11_dismissed cX11_dismissed 3 (some .int) ∈ gT := gT_c5 129 rfl rfl
theorem xi_X11_dismissed : Cond.instanceMethod yX11_dismissed ∈ gT ∧ Cond.selects yX11_dismissed.cls yX11_dismissed yX11_dismissed ∈ gT := ⟨gT_c5 127 rfl rfl, gT_c5 128 rfl rfl⟩
theorem xd_X11_dismissed : yX11_dismissed.cls ≠ "java/lang/invoke/MethodHandle" ∧ yX11_dismissed.cls ≠ "java/lang/invoke/VarHandle" ∧ (parseMethodDescriptor yX11_dismissed.desc).map (fun d => d.parameters.length) = some 1 := by decide +kernel
theorem xv_L_54 : gWV RL 54 yX11_dismissed cX11_dismissed 3 (some .int) 1 := ⟨gT_c5 126 rfl rfl, xi_X11_dismissed.1, xi_X11_dismissed.2, xini_X11, xc_X11_dismissed, xd_X11_dismissed⟩
theorem xc_X11_most : Cond.code yX11_most cX11_most 7 (some .int) ∈ gT := gT_c5 136 rfl rfl
theorem xi_X11_most : Cond.instanceMethod yX11_most ∈ gT ∧ Cond.selects yX11_most.cls yX11_most yX11_most ∈ gT := ⟨gT_c5 134 rfl rfl, gT_c5 135 rfl rfl⟩
theorem xd_X11_most : yX11_most.cls ≠ "java/lang/invoke/MethodHandle" ∧ yX11_most.cls ≠ "java/lang/invoke/VarHandle" ∧ (parseMethodDescriptor yX11_most.desc).map (fun d => d.parameters.length) = some 2 := by decide +kernel
theorem xv_L_57 : gWV RL 57 yX11_most cX11_most 7 (some .int) 2 := ⟨gT_c5 133 rfl rfl, xi_X11_most.1, xi_X11_most.2, xini_X11, xc_X11_most, xd_X11_most⟩
theorem xc_X11_hush : Cond.code yX11_hush cX11_hush 5 (some .int) ∈ gT := gT_c5 143 rfl rfl
theorem xi_X11_hush : Cond.instanceMethod yX11_hush ∈ gT ∧ Cond.selects yX11_hush.cls yX11_hush yX11_hush ∈ gT := ⟨gT_c5 141 rfl rfl, gT_c5 142 rfl rfl⟩
theorem xd_X11_hush : yX11_hush.cls ≠ "java/lang/invoke/MethodHandle" ∧ yX11_hush.cls ≠ "java/lang/invoke/VarHandle" ∧ (parseMethodDescriptor yX11_hush.desc).map (fun d => d.parameters.length) = some 1 := by decide +kernel
theorem xv_L_60 : gWV RL 60 yX11_hush cX11_hush 5 (some .int) 1 := ⟨gT_c5 140 rfl rfl, xi_X11_hush.1, xi_X11_hush.2, xini_X11, xc_X11_hush, xd_X11_hush⟩
theorem xc_X11_chorus : Cond.code yX11_chorus cX11_chorus 6 (some .int) ∈ gT := gT_c5 151 rfl rfl
theorem xi_X11_chorus : Cond.instanceMethod yX11_chorus ∈ gT ∧ Cond.selects yX11_chorus.cls yX11_chorus yX11_chorus ∈ gT := ⟨gT_c5 149 rfl rfl, gT_c5 150 rfl rfl⟩
theorem xd_X11_chorus : yX11_chorus.cls ≠ "java/lang/invoke/MethodHandle" ∧ yX11_chorus.cls ≠ "java/lang/invoke/VarHandle" ∧ (parseMethodDescriptor yX11_chorus.desc).map (fun d => d.parameters.length) = some 1 := by decide +kernel
theorem xv_L_63 : gWV RL 63 yX11_chorus cX11_chorus 6 (some .int) 1 := ⟨gT_c5 148 rfl rfl, xi_X11_chorus.1, xi_X11_chorus.2, xini_X11, xc_X11_chorus, xd_X11_chorus⟩
theorem xc_X11_together : Cond.code yX11_together cX11_together 5 (some .int) ∈ gT := gT_c5 164 rfl rfl
theorem xi_X11_together : Cond.instanceMethod yX11_together ∈ gT ∧ Cond.selects yX11_together.cls yX11_together yX11_together ∈ gT := ⟨gT_c5 162 rfl rfl, gT_c5 163 rfl rfl⟩
theorem xd_X11_together : yX11_together.cls ≠ "java/lang/invoke/MethodHandle" ∧ yX11_together.cls ≠ "java/lang/invoke/VarHandle" ∧ (parseMethodDescriptor yX11_together.desc).map (fun d => d.parameters.length) = some 1 := by decide +kernel
theorem xv_L_66 : gWV RL 66 yX11_together cX11_together 5 (some .int) 1 := ⟨gT_c5 161 rfl rfl, xi_X11_together.1, xi_X11_together.2, xini_X11, xc_X11_together, xd_X11_together⟩
theorem xc_X11_rhythm : Cond.code yX11_rhythm cX11_rhythm 4 (some .int) ∈ gT := gT_c5 185 rfl rfl
theorem xi_X11_rhythm : Cond.instanceMethod yX11_rhythm ∈ gT ∧ Cond.selects yX11_rhythm.cls yX11_rhythm yX11_rhythm ∈ gT := ⟨gT_c5 183 rfl rfl, gT_c5 184 rfl rfl⟩
theorem xd_X11_rhythm : yX11_rhythm.cls ≠ "java/lang/invoke/MethodHandle" ∧ yX11_rhythm.cls ≠ "java/lang/invoke/VarHandle" ∧ (parseMethodDescriptor yX11_rhythm.desc).map (fun d => d.parameters.length) = some 1 := by decide +kernel
theorem xv_L_69 : gWV RL 69 yX11_rhythm cX11_rhythm 4 (some .int) 1 := ⟨gT_c5 182 rfl rfl, xi_X11_rhythm.1, xi_X11_rhythm.2, xini_X11, xc_X11_rhythm, xd_X11_rhythm⟩
theorem xc_X11_often : Cond.code yX11_often cX11_often 5 (some .int) ∈ gT := gT_c5 192 rfl rfl
theorem xi_X11_often : Cond.instanceMethod yX11_often ∈ gT ∧ Cond.selects yX11_often.cls yX11_often yX11_often ∈ gT := ⟨gT_c5 190 rfl rfl, gT_c5 191 rfl rfl⟩
theorem xd_X11_often : yX11_often.cls ≠ "java/lang/invoke/MethodHandle" ∧ yX11_often.cls ≠ "java/lang/invoke/VarHandle" ∧ (parseMethodDescriptor yX11_often.desc).map (fun d => d.parameters.length) = some 2 := by decide +kernel
theorem xv_L_72 : gWV RL 72 yX11_often cX11_often 5 (some .int) 2 := ⟨gT_c5 189 rfl rfl, xi_X11_often.1, xi_X11_often.2, xini_X11, xc_X11_often, xd_X11_often⟩
theorem xc_X11_toHire : Cond.code yX11_toHire cX11_toHire 8 (some .int) ∈ gT := gT_c5 199 rfl rfl
theorem xi_X11_toHire : Cond.instanceMethod yX11_toHire ∈ gT ∧ Cond.selects yX11_toHire.cls yX11_toHire yX11_toHire ∈ gT := ⟨gT_c5 197 rfl rfl, gT_c5 198 rfl rfl⟩
theorem xd_X11_toHire : yX11_toHire.cls ≠ "java/lang/invoke/MethodHandle" ∧ yX11_toHire.cls ≠ "java/lang/invoke/VarHandle" ∧ (parseMethodDescriptor yX11_toHire.desc).map (fun d => d.parameters.length) = some 3 := by decide +kernel
theorem xv_L_75 : gWV RL 75 yX11_toHire cX11_toHire 8 (some .int) 3 := ⟨gT_c5 196 rfl rfl, xi_X11_toHire.1, xi_X11_toHire.2, xini_X11, xc_X11_toHire, xd_X11_toHire⟩
theorem xc_X11_shared : Cond.code yX11_shared cX11_shared 2 (some .int) ∈ gT := gT_c5 206 rfl rfl
theorem xi_X11_shared : Cond.instanceMethod yX11_shared ∈ gT ∧ Cond.selects yX11_shared.cls yX11_shared yX11_shared ∈ gT := ⟨gT_c5 204 rfl rfl, gT_c5 205 rfl rfl⟩
theorem xd_X11_shared : yX11_shared.cls ≠ "java/lang/invoke/MethodHandle" ∧ yX11_shared.cls ≠ "java/lang/invoke/VarHandle" ∧ (parseMethodDescriptor yX11_shared.desc).map (fun d => d.parameters.length) = some 1 := by decide +kernel
theorem xv_L_78 : gWV RL 78 yX11_shared cX11_shared 2 (some .int) 1 := ⟨gT_c5 203 rfl rfl, xi_X11_shared.1, xi_X11_shared.2, xini_X11, xc_X11_shared, xd_X11_shared⟩
theorem xc_X11_has : Cond.code yX11_has cX11_has 2 (some .int) ∈ gT := gT_c6 0 rfl rfl
theorem xi_X11_has : Cond.instanceMethod yX11_has ∈ gT ∧ Cond.selects yX11_has.cls yX11_has yX11_has ∈ gT := ⟨gT_c5 238 rfl rfl, gT_c5 239 rfl rfl⟩
theorem xd_X11_has : yX11_has.cls ≠ "java/lang/invoke/MethodHandle" ∧ yX11_has.cls ≠ "java/lang/invoke/VarHandle" ∧ (parseMethodDescriptor yX11_has.desc).map (fun d => d.parameters.length) = some 1 := by decide +kernel
theorem xv_L_81 : gWV RL 81 yX11_has cX11_has 2 (some .int) 1 := ⟨gT_c5 237 rfl rfl, xi_X11_has.1, xi_X11_has.2, xini_X11, xc_X11_has, xd_X11_has⟩
theorem xc_X11_toGive : Cond.code yX11_toGive cX11_toGive 3 (some .int) ∈ gT := gT_c6 7 rfl rfl
theorem xi_X11_toGive : Cond.instanceMethod yX11_toGive ∈ gT ∧ Cond.selects yX11_toGive.cls yX11_toGive yX11_toGive ∈ gT := ⟨gT_c6 5 rfl rfl, gT_c6 6 rfl rfl⟩
theorem xd_X11_toGive : yX11_toGive.cls ≠ "java/lang/invoke/MethodHandle" ∧ yX11_toGive.cls ≠ "java/lang/invoke/VarHandle" ∧ (parseMethodDescriptor yX11_toGive.desc).map (fun d => d.parameters.length) = some 2 := by decide +kernel
theorem xv_L_84 : gWV RL 84 yX11_toGive cX11_toGive 3 (some .int) 2 := ⟨gT_c6 4 rfl rfl, xi_X11_toGive.1, xi_X11_toGive.2, xini_X11, xc_X11_toGive, xd_X11_toGive⟩
theorem xc_X11_confessing : Cond.code yX11_confessing cX11_confessing 4 (some .int) ∈ gT := gT_c6 30 rfl rfl
theorem xi_X11_confessing : Cond.instanceMethod yX11_confessing ∈ gT ∧ Cond.selects yX11_confessing.cls yX11_confessing yX11_confessing ∈ gT := ⟨gT_c6 28 rfl rfl, gT_c6 29 rfl rfl⟩
theorem xd_X11_confessing : yX11_confessing.cls ≠ "java/lang/invoke/MethodHandle" ∧ yX11_confessing.cls ≠ "java/lang/invoke/VarHandle" ∧ (parseMethodDescriptor yX11_confessing.desc).map (fun d => d.parameters.length) = some 2 := by decide +kernel
theorem xv_L_87 : gWV RL 87 yX11_confessing cX11_confessing 4 (some .int) 2 := ⟨gT_c6 27 rfl rfl, xi_X11_confessing.1, xi_X11_confessing.2, xini_X11, xc_X11_confessing, xd_X11_confessing⟩
theorem xc_X11_see : Cond.code yX11_see cX11_see 6 (some .int) ∈ gT := gT_c6 41 rfl rfl
theorem xi_X11_see : Cond.instanceMethod yX11_see ∈ gT ∧ Cond.selects yX11_see.cls yX11_see yX11_see ∈ gT := ⟨gT_c6 39 rfl rfl, gT_c6 40 rfl rfl⟩
theorem xd_X11_see : yX11_see.cls ≠ "java/lang/invoke/MethodHandle" ∧ yX11_see.cls ≠ "java/lang/invoke/VarHandle" ∧ (parseMethodDescriptor yX11_see.desc).map (fun d => d.parameters.length) = some 3 := by decide +kernel
theorem xv_L_90 : gWV RL 90 yX11_see cX11_see 6 (some .int) 3 := ⟨gT_c6 38 rfl rfl, xi_X11_see.1, xi_X11_see.2, xini_X11, xc_X11_see, xd_X11_see⟩
theorem xc_X11_greedy : Cond.code yX11_greedy cX11_greedy 2 (some .int) ∈ gT := gT_c6 52 rfl rfl
theorem xi_X11_greedy : Cond.instanceMethod yX11_greedy ∈ gT ∧ Cond.selects yX11_greedy.cls yX11_greedy yX11_greedy ∈ gT := ⟨gT_c6 50 rfl rfl, gT_c6 51 rfl rfl⟩
theorem xd_X11_greedy : yX11_greedy.cls ≠ "java/lang/invoke/MethodHandle" ∧ yX11_greedy.cls ≠ "java/lang/invoke/VarHandle" ∧ (parseMethodDescriptor yX11_greedy.desc).map (fun d => d.parameters.length) = some 1 := by decide +kernel
theorem xv_L_93 : gWV RL 93 yX11_greedy cX11_greedy 2 (some .int) 1 := ⟨gT_c6 49 rfl rfl, xi_X11_greedy.1, xi_X11_greedy.2, xini_X11, xc_X11_greedy, xd_X11_greedy⟩
theorem xc_X11_look : Cond.code yX11_look cX11_look 3 (some .int) ∈ gT := gT_c6 85 rfl rfl
theorem xi_X11_look : Cond.instanceMethod yX11_look ∈ gT ∧ Cond.selects yX11_look.cls yX11_look yX11_look ∈ gT := ⟨gT_c6 83 rfl rfl, gT_c6 84 rfl rfl⟩
theorem xd_X11_look : yX11_look.cls ≠ "java/lang/invoke/MethodHandle" ∧ yX11_look.cls ≠ "java/lang/invoke/VarHandle" ∧ (parseMethodDescriptor yX11_look.desc).map (fun d => d.parameters.length) = some 1 := by decide +kernel
theorem xv_L_96 : gWV RL 96 yX11_look cX11_look 3 (some .int) 1 := ⟨gT_c6 82 rfl rfl, xi_X11_look.1, xi_X11_look.2, xini_X11, xc_X11_look, xd_X11_look⟩
theorem xc_X11_drought : Cond.code yX11_drought cX11_drought 10 (some .int) ∈ gT := gT_c6 102 rfl rfl
theorem xi_X11_drought : Cond.instanceMethod yX11_drought ∈ gT ∧ Cond.selects yX11_drought.cls yX11_drought yX11_drought ∈ gT := ⟨gT_c6 100 rfl rfl, gT_c6 101 rfl rfl⟩
theorem xd_X11_drought : yX11_drought.cls ≠ "java/lang/invoke/MethodHandle" ∧ yX11_drought.cls ≠ "java/lang/invoke/VarHandle" ∧ (parseMethodDescriptor yX11_drought.desc).map (fun d => d.parameters.length) = some 3 := by decide +kernel
theorem xv_L_99 : gWV RL 99 yX11_drought cX11_drought 10 (some .int) 3 := ⟨gT_c6 99 rfl rfl, xi_X11_drought.1, xi_X11_drought.2, xini_X11, xc_X11_drought, xd_X11_drought⟩
theorem xc_X11_game : Cond.code yX11_game cX11_game 8 (some .int) ∈ gT := gT_c6 109 rfl rfl
theorem xi_X11_game : Cond.instanceMethod yX11_game ∈ gT ∧ Cond.selects yX11_game.cls yX11_game yX11_game ∈ gT := ⟨gT_c6 107 rfl rfl, gT_c6 108 rfl rfl⟩
theorem xd_X11_game : yX11_game.cls ≠ "java/lang/invoke/MethodHandle" ∧ yX11_game.cls ≠ "java/lang/invoke/VarHandle" ∧ (parseMethodDescriptor yX11_game.desc).map (fun d => d.parameters.length) = some 3 := by decide +kernel
theorem xv_L_102 : gWV RL 102 yX11_game cX11_game 8 (some .int) 3 := ⟨gT_c6 106 rfl rfl, xi_X11_game.1, xi_X11_game.2, xini_X11, xc_X11_game, xd_X11_game⟩
theorem xc_X11_years : Cond.code yX11_years cX11_years 6 (some .int) ∈ gT := gT_c6 133 rfl rfl
theorem xi_X11_years : Cond.instanceMethod yX11_years ∈ gT ∧ Cond.selects yX11_years.cls yX11_years yX11_years ∈ gT := ⟨gT_c6 131 rfl rfl, gT_c6 132 rfl rfl⟩
theorem xd_X11_years : yX11_years.cls ≠ "java/lang/invoke/MethodHandle" ∧ yX11_years.cls ≠ "java/lang/invoke/VarHandle" ∧ (parseMethodDescriptor yX11_years.desc).map (fun d => d.parameters.length) = some 3 := by decide +kernel
theorem xv_L_105 : gWV RL 105 yX11_years cX11_years 6 (some .int) 3 := ⟨gT_c6 130 rfl rfl, xi_X11_years.1, xi_X11_years.2, xini_X11, xc_X11_years, xd_X11_years⟩
theorem xc_X11_feed : Cond.code yX11_feed cX11_feed 7 (some .int) ∈ gT := gT_c2 192 rfl rfl
theorem xi_X11_feed : Cond.instanceMethod yX11_feed ∈ gT ∧ Cond.selects yX11_feed.cls yX11_feed yX11_feed ∈ gT := ⟨gT_c2 190 rfl rfl, gT_c2 191 rfl rfl⟩
theorem xd_X11_feed : yX11_feed.cls ≠ "java/lang/invoke/MethodHandle" ∧ yX11_feed.cls ≠ "java/lang/invoke/VarHandle" ∧ (parseMethodDescriptor yX11_feed.desc).map (fun d => d.parameters.length) = some 5 := by decide +kernel
theorem xv_L_112 : gWV RL 112 yX11_feed cX11_feed 7 (some .int) 5 := ⟨gT_c2 189 rfl rfl, xi_X11_feed.1, xi_X11_feed.2, xini_X11, xc_X11_feed, xd_X11_feed⟩
theorem xc_X12_feed : Cond.code yX12_feed cX12_feed 8 (some .int) ∈ gT := gT_c7 127 rfl rfl
theorem xi_X12_feed : Cond.instanceMethod yX12_feed ∈ gT ∧ Cond.selects yX12_feed.cls yX12_feed yX12_feed ∈ gT := ⟨gT_c7 125 rfl rfl, gT_c7 126 rfl rfl⟩
theorem xd_X12_feed : yX12_feed.cls ≠ "java/lang/invoke/MethodHandle" ∧ yX12_feed.cls ≠ "java/lang/invoke/VarHandle" ∧ (parseMethodDescriptor yX12_feed.desc).map (fun d => d.parameters.length) = some 5 := by decide +kernel
theorem xini_X12 : Cond.initialized RX12 ∈ gT := gT_c1 13 rfl rfl
theorem xv_L_116 : gWV RL 116 yX12_feed cX12_feed 8 (some .int) 5 := ⟨gT_c7 124 rfl rfl, xi_X12_feed.1, xi_X12_feed.2, xini_X12, xc_X12_feed, xd_X12_feed⟩
theorem xini_L : Cond.initialized RL ∈ gT := gT_c1 0 rfl rfl
theorem lw_port : Cond.methodLink RL 117 yL_port ∈ gT ∧ Cond.static yL_port ∈ gT ∧ Cond.initialized RL ∈ gT ∧ Cond.codeWith yL_port cL_port 4 (some .int) [(0, 9, 12, 13)] ∈ gT ∧ (yL_port.cls ≠ "java/lang/invoke/MethodHandle" ∧ yL_port.cls ≠ "java/lang/invoke/VarHandle" ∧ (parseMethodDescriptor yL_port.desc).map (fun d => d.parameters.length) = some 3) := ⟨gT_c3 105 rfl rfl, gT_c3 106 rfl rfl, xini_L, gT_c3 107 rfl rfl, by decide +kernel⟩
theorem xc_X12_port : Cond.code yX12_port cX12_port 3 (some .int) ∈ gT := gT_c7 131 rfl rfl
theorem xi_X12_port : Cond.instanceMethod yX12_port ∈ gT ∧ Cond.selects yX12_port.cls yX12_port yX12_port ∈ gT := ⟨gT_c7 129 rfl rfl, gT_c7 130 rfl rfl⟩
theorem xd_X12_port : yX12_port.cls ≠ "java/lang/invoke/MethodHandle" ∧ yX12_port.cls ≠ "java/lang/invoke/VarHandle" ∧ (parseMethodDescriptor yX12_port.desc).map (fun d => d.parameters.length) = some 1 := by decide +kernel
theorem xv_L_122 : gWV RL 122 yX12_port cX12_port 3 (some .int) 1 := ⟨gT_c7 128 rfl rfl, xi_X12_port.1, xi_X12_port.2, xini_X12, xc_X12_port, xd_X12_port⟩
theorem xc_X11_fault : Cond.code yX11_fault cX11_fault 1 (some .int) ∈ gT := gT_c2 200 rfl rfl
theorem xi_X11_fault : Cond.instanceMethod yX11_fault ∈ gT ∧ Cond.selects yX11_fault.cls yX11_fault yX11_fault ∈ gT := ⟨gT_c2 198 rfl rfl, gT_c2 199 rfl rfl⟩
theorem xd_X11_fault : yX11_fault.cls ≠ "java/lang/invoke/MethodHandle" ∧ yX11_fault.cls ≠ "java/lang/invoke/VarHandle" ∧ (parseMethodDescriptor yX11_fault.desc).map (fun d => d.parameters.length) = some 0 := by decide +kernel
theorem xv_L_123 : gWV RL 123 yX11_fault cX11_fault 1 (some .int) 0 := ⟨gT_c2 197 rfl rfl, xi_X11_fault.1, xi_X11_fault.2, xini_X11, xc_X11_fault, xd_X11_fault⟩
theorem xc_X12_fault : Cond.code yX12_fault cX12_fault 1 (some .int) ∈ gT := gT_c8 18 rfl rfl
theorem xi_X12_fault : Cond.instanceMethod yX12_fault ∈ gT ∧ Cond.selects yX12_fault.cls yX12_fault yX12_fault ∈ gT := ⟨gT_c8 16 rfl rfl, gT_c8 17 rfl rfl⟩
theorem xd_X12_fault : yX12_fault.cls ≠ "java/lang/invoke/MethodHandle" ∧ yX12_fault.cls ≠ "java/lang/invoke/VarHandle" ∧ (parseMethodDescriptor yX12_fault.desc).map (fun d => d.parameters.length) = some 0 := by decide +kernel
theorem xv_L_127 : gWV RL 127 yX12_fault cX12_fault 1 (some .int) 0 := ⟨gT_c8 15 rfl rfl, xi_X12_fault.1, xi_X12_fault.2, xini_X12, xc_X12_fault, xd_X12_fault⟩
theorem lw_count : Cond.methodLink RL 128 yL_count ∈ gT ∧ Cond.static yL_count ∈ gT ∧ Cond.initialized RL ∈ gT ∧ Cond.codeWith yL_count cL_count 4 (some .int) [(0, 9, 12, 18)] ∈ gT ∧ (yL_count.cls ≠ "java/lang/invoke/MethodHandle" ∧ yL_count.cls ≠ "java/lang/invoke/VarHandle" ∧ (parseMethodDescriptor yL_count.desc).map (fun d => d.parameters.length) = some 3) := ⟨gT_c4 193 rfl rfl, gT_c4 194 rfl rfl, xini_L, gT_c4 195 rfl rfl, by decide +kernel⟩
theorem xc_X12_count : Cond.code yX12_count cX12_count 2 (some .int) ∈ gT := gT_c8 22 rfl rfl
theorem xi_X12_count : Cond.instanceMethod yX12_count ∈ gT ∧ Cond.selects yX12_count.cls yX12_count yX12_count ∈ gT := ⟨gT_c8 20 rfl rfl, gT_c8 21 rfl rfl⟩
theorem xd_X12_count : yX12_count.cls ≠ "java/lang/invoke/MethodHandle" ∧ yX12_count.cls ≠ "java/lang/invoke/VarHandle" ∧ (parseMethodDescriptor yX12_count.desc).map (fun d => d.parameters.length) = some 1 := by decide +kernel
theorem xv_L_130 : gWV RL 130 yX12_count cX12_count 2 (some .int) 1 := ⟨gT_c8 19 rfl rfl, xi_X12_count.1, xi_X12_count.2, xini_X12, xc_X12_count, xd_X12_count⟩
theorem lw_grotto : Cond.methodLink RL 131 yL_grotto ∈ gT ∧ Cond.static yL_grotto ∈ gT ∧ Cond.initialized RL ∈ gT ∧ Cond.codeWith yL_grotto cL_grotto 5 (some .int) [(0, 10, 13, 18)] ∈ gT ∧ (yL_grotto.cls ≠ "java/lang/invoke/MethodHandle" ∧ yL_grotto.cls ≠ "java/lang/invoke/VarHandle" ∧ (parseMethodDescriptor yL_grotto.desc).map (fun d => d.parameters.length) = some 4) := ⟨gT_c4 230 rfl rfl, gT_c4 231 rfl rfl, xini_L, gT_c4 232 rfl rfl, by decide +kernel⟩
theorem xc_X12_grotto : Cond.code yX12_grotto cX12_grotto 3 (some .int) ∈ gT := gT_c8 38 rfl rfl
theorem xi_X12_grotto : Cond.instanceMethod yX12_grotto ∈ gT ∧ Cond.selects yX12_grotto.cls yX12_grotto yX12_grotto ∈ gT := ⟨gT_c8 36 rfl rfl, gT_c8 37 rfl rfl⟩
theorem xd_X12_grotto : yX12_grotto.cls ≠ "java/lang/invoke/MethodHandle" ∧ yX12_grotto.cls ≠ "java/lang/invoke/VarHandle" ∧ (parseMethodDescriptor yX12_grotto.desc).map (fun d => d.parameters.length) = some 2 := by decide +kernel
theorem xv_L_134 : gWV RL 134 yX12_grotto cX12_grotto 3 (some .int) 2 := ⟨gT_c8 35 rfl rfl, xi_X12_grotto.1, xi_X12_grotto.2, xini_X12, xc_X12_grotto, xd_X12_grotto⟩
theorem xc_X12_thrown : Cond.code yX12_thrown cX12_thrown 1 (some .int) ∈ gT := gT_c7 123 rfl rfl
theorem xi_X12_thrown : Cond.instanceMethod yX12_thrown ∈ gT ∧ Cond.selects yX12_thrown.cls yX12_thrown yX12_thrown ∈ gT := ⟨gT_c7 121 rfl rfl, gT_c7 122 rfl rfl⟩
theorem xd_X12_thrown : yX12_thrown.cls ≠ "java/lang/invoke/MethodHandle" ∧ yX12_thrown.cls ≠ "java/lang/invoke/VarHandle" ∧ (parseMethodDescriptor yX12_thrown.desc).map (fun d => d.parameters.length) = some 0 := by decide +kernel
theorem xv_L_135 : gWV RL 135 yX12_thrown cX12_thrown 1 (some .int) 0 := ⟨gT_c7 120 rfl rfl, xi_X12_thrown.1, xi_X12_thrown.2, xini_X12, xc_X12_thrown, xd_X12_thrown⟩
theorem lw_guild : Cond.methodLink RL 138 yL_guild ∈ gT ∧ Cond.static yL_guild ∈ gT ∧ Cond.initialized RL ∈ gT ∧ Cond.codeWith yL_guild cL_guild 5 (some .int) [(0, 10, 13, 18)] ∈ gT ∧ (yL_guild.cls ≠ "java/lang/invoke/MethodHandle" ∧ yL_guild.cls ≠ "java/lang/invoke/VarHandle" ∧ (parseMethodDescriptor yL_guild.desc).map (fun d => d.parameters.length) = some 4) := ⟨gT_c5 22 rfl rfl, gT_c5 23 rfl rfl, xini_L, gT_c5 24 rfl rfl, by decide +kernel⟩
theorem xc_X12_guild : Cond.code yX12_guild cX12_guild 3 (some .int) ∈ gT := gT_c8 73 rfl rfl
theorem xi_X12_guild : Cond.instanceMethod yX12_guild ∈ gT ∧ Cond.selects yX12_guild.cls yX12_guild yX12_guild ∈ gT := ⟨gT_c8 71 rfl rfl, gT_c8 72 rfl rfl⟩
theorem xd_X12_guild : yX12_guild.cls ≠ "java/lang/invoke/MethodHandle" ∧ yX12_guild.cls ≠ "java/lang/invoke/VarHandle" ∧ (parseMethodDescriptor yX12_guild.desc).map (fun d => d.parameters.length) = some 2 := by decide +kernel
theorem xv_L_140 : gWV RL 140 yX12_guild cX12_guild 3 (some .int) 2 := ⟨gT_c8 70 rfl rfl, xi_X12_guild.1, xi_X12_guild.2, xini_X12, xc_X12_guild, xd_X12_guild⟩
theorem xc_X11_hours : Cond.code yX11_hours cX11_hours 4 (some .int) ∈ gT := gT_c2 204 rfl rfl
theorem xi_X11_hours : Cond.instanceMethod yX11_hours ∈ gT ∧ Cond.selects yX11_hours.cls yX11_hours yX11_hours ∈ gT := ⟨gT_c2 202 rfl rfl, gT_c2 203 rfl rfl⟩
theorem xd_X11_hours : yX11_hours.cls ≠ "java/lang/invoke/MethodHandle" ∧ yX11_hours.cls ≠ "java/lang/invoke/VarHandle" ∧ (parseMethodDescriptor yX11_hours.desc).map (fun d => d.parameters.length) = some 1 := by decide +kernel
theorem xv_L_141 : gWV RL 141 yX11_hours cX11_hours 4 (some .int) 1 := ⟨gT_c2 201 rfl rfl, xi_X11_hours.1, xi_X11_hours.2, xini_X11, xc_X11_hours, xd_X11_hours⟩
theorem xc_X12_hours : Cond.code yX12_hours cX12_hours 2 (some .int) ∈ gT := gT_c8 97 rfl rfl
theorem xi_X12_hours : Cond.instanceMethod yX12_hours ∈ gT ∧ Cond.selects yX12_hours.cls yX12_hours yX12_hours ∈ gT := ⟨gT_c8 95 rfl rfl, gT_c8 96 rfl rfl⟩
theorem xd_X12_hours : yX12_hours.cls ≠ "java/lang/invoke/MethodHandle" ∧ yX12_hours.cls ≠ "java/lang/invoke/VarHandle" ∧ (parseMethodDescriptor yX12_hours.desc).map (fun d => d.parameters.length) = some 1 := by decide +kernel
theorem xv_L_144 : gWV RL 144 yX12_hours cX12_hours 2 (some .int) 1 := ⟨gT_c8 94 rfl rfl, xi_X12_hours.1, xi_X12_hours.2, xini_X12, xc_X12_hours, xd_X12_hours⟩
theorem lw_hire : Cond.methodLink RL 145 yL_hire ∈ gT ∧ Cond.static yL_hire ∈ gT ∧ Cond.initialized RL ∈ gT ∧ Cond.codeWith yL_hire cL_hire 5 (some .int) [(0, 17, 20, 18)] ∈ gT ∧ (yL_hire.cls ≠ "java/lang/invoke/MethodHandle" ∧ yL_hire.cls ≠ "java/lang/invoke/VarHandle" ∧ (parseMethodDescriptor yL_hire.desc).map (fun d => d.parameters.length) = some 4) := ⟨gT_c5 41 rfl rfl, gT_c5 42 rfl rfl, xini_L, gT_c5 43 rfl rfl, by decide +kernel⟩
theorem xc_X12_hire : Cond.code yX12_hire cX12_hire 3 (some .boolean) ∈ gT := gT_c8 126 rfl rfl
theorem xi_X12_hire : Cond.instanceMethod yX12_hire ∈ gT ∧ Cond.selects yX12_hire.cls yX12_hire yX12_hire ∈ gT := ⟨gT_c8 124 rfl rfl, gT_c8 125 rfl rfl⟩
theorem xd_X12_hire : yX12_hire.cls ≠ "java/lang/invoke/MethodHandle" ∧ yX12_hire.cls ≠ "java/lang/invoke/VarHandle" ∧ (parseMethodDescriptor yX12_hire.desc).map (fun d => d.parameters.length) = some 2 := by decide +kernel
theorem xv_L_147 : gWV RL 147 yX12_hire cX12_hire 3 (some .boolean) 2 := ⟨gT_c8 123 rfl rfl, xi_X12_hire.1, xi_X12_hire.2, xini_X12, xc_X12_hire, xd_X12_hire⟩
theorem lw_dismiss : Cond.methodLink RL 148 yL_dismiss ∈ gT ∧ Cond.static yL_dismiss ∈ gT ∧ Cond.initialized RL ∈ gT ∧ Cond.codeWith yL_dismiss cL_dismiss 4 (some .int) [(0, 9, 12, 18)] ∈ gT ∧ (yL_dismiss.cls ≠ "java/lang/invoke/MethodHandle" ∧ yL_dismiss.cls ≠ "java/lang/invoke/VarHandle" ∧ (parseMethodDescriptor yL_dismiss.desc).map (fun d => d.parameters.length) = some 3) := ⟨gT_c5 48 rfl rfl, gT_c5 49 rfl rfl, xini_L, gT_c5 50 rfl rfl, by decide +kernel⟩
theorem xc_X12_dismiss : Cond.code yX12_dismiss cX12_dismiss 3 (some .int) ∈ gT := gT_c8 138 rfl rfl
theorem xi_X12_dismiss : Cond.instanceMethod yX12_dismiss ∈ gT ∧ Cond.selects yX12_dismiss.cls yX12_dismiss yX12_dismiss ∈ gT := ⟨gT_c8 136 rfl rfl, gT_c8 137 rfl rfl⟩
theorem xd_X12_dismiss : yX12_dismiss.cls ≠ "java/lang/invoke/MethodHandle" ∧ yX12_dismiss.cls ≠ "java/lang/invoke/VarHandle" ∧ (parseMethodDescriptor yX12_dismiss.desc).map (fun d => d.parameters.length) = some 1 := by decide +kernel
theorem xv_L_150 : gWV RL 150 yX12_dismiss cX12_dismiss 3 (some .int) 1 := ⟨gT_c8 135 rfl rfl, xi_X12_dismiss.1, xi_X12_dismiss.2, xini_X12, xc_X12_dismiss, xd_X12_dismiss⟩
theorem lw_confess : Cond.methodLink RL 151 yL_confess ∈ gT ∧ Cond.static yL_confess ∈ gT ∧ Cond.initialized RL ∈ gT ∧ Cond.codeWith yL_confess cL_confess 4 (some .int) [(0, 9, 12, 18)] ∈ gT ∧ (yL_confess.cls ≠ "java/lang/invoke/MethodHandle" ∧ yL_confess.cls ≠ "java/lang/invoke/VarHandle" ∧ (parseMethodDescriptor yL_confess.desc).map (fun d => d.parameters.length) = some 3) := ⟨gT_c5 55 rfl rfl, gT_c5 56 rfl rfl, xini_L, gT_c5 57 rfl rfl, by decide +kernel⟩
theorem xc_X12_confess : Cond.code yX12_confess cX12_confess 2 (some .int) ∈ gT := gT_c8 142 rfl rfl
theorem xi_X12_confess : Cond.instanceMethod yX12_confess ∈ gT ∧ Cond.selects yX12_confess.cls yX12_confess yX12_confess ∈ gT := ⟨gT_c8 140 rfl rfl, gT_c8 141 rfl rfl⟩
theorem xd_X12_confess : yX12_confess.cls ≠ "java/lang/invoke/MethodHandle" ∧ yX12_confess.cls ≠ "java/lang/invoke/VarHandle" ∧ (parseMethodDescriptor yX12_confess.desc).map (fun d => d.parameters.length) = some 1 := by decide +kernel
theorem xv_L_153 : gWV RL 153 yX12_confess cX12_confess 2 (some .int) 1 := ⟨gT_c8 139 rfl rfl, xi_X12_confess.1, xi_X12_confess.2, xini_X12, xc_X12_confess, xd_X12_confess⟩
theorem lw_drain : Cond.methodLink RL 154 yL_drain ∈ gT ∧ Cond.static yL_drain ∈ gT ∧ Cond.initialized RL ∈ gT ∧ Cond.codeWith yL_drain cL_drain 5 (some .int) [(0, 17, 20, 18)] ∈ gT ∧ (yL_drain.cls ≠ "java/lang/invoke/MethodHandle" ∧ yL_drain.cls ≠ "java/lang/invoke/VarHandle" ∧ (parseMethodDescriptor yL_drain.desc).map (fun d => d.parameters.length) = some 4) := ⟨gT_c5 62 rfl rfl, gT_c5 63 rfl rfl, xini_L, gT_c5 64 rfl rfl, by decide +kernel⟩
theorem xc_X12_drain : Cond.code yX12_drain cX12_drain 3 (some .boolean) ∈ gT := gT_c8 154 rfl rfl
theorem xi_X12_drain : Cond.instanceMethod yX12_drain ∈ gT ∧ Cond.selects yX12_drain.cls yX12_drain yX12_drain ∈ gT := ⟨gT_c8 152 rfl rfl, gT_c8 153 rfl rfl⟩
theorem xd_X12_drain : yX12_drain.cls ≠ "java/lang/invoke/MethodHandle" ∧ yX12_drain.cls ≠ "java/lang/invoke/VarHandle" ∧ (parseMethodDescriptor yX12_drain.desc).map (fun d => d.parameters.length) = some 2 := by decide +kernel
theorem xv_L_157 : gWV RL 157 yX12_drain cX12_drain 3 (some .boolean) 2 := ⟨gT_c8 151 rfl rfl, xi_X12_drain.1, xi_X12_drain.2, xini_X12, xc_X12_drain, xd_X12_drain⟩
theorem lw_give : Cond.methodLink RL 158 yL_give ∈ gT ∧ Cond.static yL_give ∈ gT ∧ Cond.initialized RL ∈ gT ∧ Cond.codeWith yL_give cL_give 5 (some .int) [(0, 10, 13, 18)] ∈ gT ∧ (yL_give.cls ≠ "java/lang/invoke/MethodHandle" ∧ yL_give.cls ≠ "java/lang/invoke/VarHandle" ∧ (parseMethodDescriptor yL_give.desc).map (fun d => d.parameters.length) = some 4) := ⟨gT_c5 73 rfl rfl, gT_c5 74 rfl rfl, xini_L, gT_c5 75 rfl rfl, by decide +kernel⟩
theorem xc_X12_give : Cond.code yX12_give cX12_give 3 (some .int) ∈ gT := gT_c8 158 rfl rfl
theorem xi_X12_give : Cond.instanceMethod yX12_give ∈ gT ∧ Cond.selects yX12_give.cls yX12_give yX12_give ∈ gT := ⟨gT_c8 156 rfl rfl, gT_c8 157 rfl rfl⟩
theorem xd_X12_give : yX12_give.cls ≠ "java/lang/invoke/MethodHandle" ∧ yX12_give.cls ≠ "java/lang/invoke/VarHandle" ∧ (parseMethodDescriptor yX12_give.desc).map (fun d => d.parameters.length) = some 2 := by decide +kernel
theorem xv_L_160 : gWV RL 160 yX12_give cX12_give 3 (some .int) 2 := ⟨gT_c8 155 rfl rfl, xi_X12_give.1, xi_X12_give.2, xini_X12, xc_X12_give, xd_X12_give⟩
theorem xc_X11_undo : Cond.code yX11_undo cX11_undo 1 (some .int) ∈ gT := gT_c3 68 rfl rfl
theorem xi_X11_undo : Cond.instanceMethod yX11_undo ∈ gT ∧ Cond.selects yX11_undo.cls yX11_undo yX11_undo ∈ gT := ⟨gT_c3 66 rfl rfl, gT_c3 67 rfl rfl⟩
theorem xd_X11_undo : yX11_undo.cls ≠ "java/lang/invoke/MethodHandle" ∧ yX11_undo.cls ≠ "java/lang/invoke/VarHandle" ∧ (parseMethodDescriptor yX11_undo.desc).map (fun d => d.parameters.length) = some 0 := by decide +kernel
theorem xv_L_161 : gWV RL 161 yX11_undo cX11_undo 1 (some .int) 0 := ⟨gT_c3 65 rfl rfl, xi_X11_undo.1, xi_X11_undo.2, xini_X11, xc_X11_undo, xd_X11_undo⟩
theorem xc_X12_undo : Cond.code yX12_undo cX12_undo 1 (some .int) ∈ gT := gT_c8 163 rfl rfl
theorem xi_X12_undo : Cond.instanceMethod yX12_undo ∈ gT ∧ Cond.selects yX12_undo.cls yX12_undo yX12_undo ∈ gT := ⟨gT_c8 161 rfl rfl, gT_c8 162 rfl rfl⟩
theorem xd_X12_undo : yX12_undo.cls ≠ "java/lang/invoke/MethodHandle" ∧ yX12_undo.cls ≠ "java/lang/invoke/VarHandle" ∧ (parseMethodDescriptor yX12_undo.desc).map (fun d => d.parameters.length) = some 0 := by decide +kernel
theorem xv_L_164 : gWV RL 164 yX12_undo cX12_undo 1 (some .int) 0 := ⟨gT_c8 160 rfl rfl, xi_X12_undo.1, xi_X12_undo.2, xini_X12, xc_X12_undo, xd_X12_undo⟩
theorem lw_then : Cond.methodLink RL 165 yL_then ∈ gT ∧ Cond.static yL_then ∈ gT ∧ Cond.initialized RL ∈ gT ∧ Cond.codeWith yL_then cL_then 6 (some .int) [(0, 12, 15, 18), (0, 12, 19, 13)] ∈ gT ∧ (yL_then.cls ≠ "java/lang/invoke/MethodHandle" ∧ yL_then.cls ≠ "java/lang/invoke/VarHandle" ∧ (parseMethodDescriptor yL_then.desc).map (fun d => d.parameters.length) = some 5) := ⟨gT_c5 85 rfl rfl, gT_c5 86 rfl rfl, xini_L, gT_c5 87 rfl rfl, by decide +kernel⟩
theorem xc_X12_then : Cond.code yX12_then cX12_then 5 (some .int) ∈ gT := gT_c8 167 rfl rfl
theorem xi_X12_then : Cond.instanceMethod yX12_then ∈ gT ∧ Cond.selects yX12_then.cls yX12_then yX12_then ∈ gT := ⟨gT_c8 165 rfl rfl, gT_c8 166 rfl rfl⟩
theorem xd_X12_then : yX12_then.cls ≠ "java/lang/invoke/MethodHandle" ∧ yX12_then.cls ≠ "java/lang/invoke/VarHandle" ∧ (parseMethodDescriptor yX12_then.desc).map (fun d => d.parameters.length) = some 3 := by decide +kernel
theorem xv_L_168 : gWV RL 168 yX12_then cX12_then 5 (some .int) 3 := ⟨gT_c8 164 rfl rfl, xi_X12_then.1, xi_X12_then.2, xini_X12, xc_X12_then, xd_X12_then⟩
theorem lw_dripping : Cond.methodLink RL 169 yL_dripping ∈ gT ∧ Cond.static yL_dripping ∈ gT ∧ Cond.initialized RL ∈ gT ∧ Cond.codeWith yL_dripping cL_dripping 4 (some .int) [(0, 9, 12, 13)] ∈ gT ∧ (yL_dripping.cls ≠ "java/lang/invoke/MethodHandle" ∧ yL_dripping.cls ≠ "java/lang/invoke/VarHandle" ∧ (parseMethodDescriptor yL_dripping.desc).map (fun d => d.parameters.length) = some 3) := ⟨gT_c5 105 rfl rfl, gT_c5 106 rfl rfl, xini_L, gT_c5 107 rfl rfl, by decide +kernel⟩
theorem xc_X12_dripping : Cond.code yX12_dripping cX12_dripping 3 (some .int) ∈ gT := gT_c8 173 rfl rfl
theorem xi_X12_dripping : Cond.instanceMethod yX12_dripping ∈ gT ∧ Cond.selects yX12_dripping.cls yX12_dripping yX12_dripping ∈ gT := ⟨gT_c8 171 rfl rfl, gT_c8 172 rfl rfl⟩
theorem xd_X12_dripping : yX12_dripping.cls ≠ "java/lang/invoke/MethodHandle" ∧ yX12_dripping.cls ≠ "java/lang/invoke/VarHandle" ∧ (parseMethodDescriptor yX12_dripping.desc).map (fun d => d.parameters.length) = some 1 := by decide +kernel
theorem xv_L_171 : gWV RL 171 yX12_dripping cX12_dripping 3 (some .int) 1 := ⟨gT_c8 170 rfl rfl, xi_X12_dripping.1, xi_X12_dripping.2, xini_X12, xc_X12_dripping, xd_X12_dripping⟩
theorem lw_first : Cond.methodLink RL 172 yL_first ∈ gT ∧ Cond.static yL_first ∈ gT ∧ Cond.initialized RL ∈ gT ∧ Cond.codeWith yL_first cL_first 4 (some .int) [(0, 9, 12, 18)] ∈ gT ∧ (yL_first.cls ≠ "java/lang/invoke/MethodHandle" ∧ yL_first.cls ≠ "java/lang/invoke/VarHandle" ∧ (parseMethodDescriptor yL_first.desc).map (fun d => d.parameters.length) = some 3) := ⟨gT_c5 116 rfl rfl, gT_c5 117 rfl rfl, xini_L, gT_c5 118 rfl rfl, by decide +kernel⟩
theorem xc_X12_first : Cond.code yX12_first cX12_first 4 (some .int) ∈ gT := gT_c8 177 rfl rfl
theorem xi_X12_first : Cond.instanceMethod yX12_first ∈ gT ∧ Cond.selects yX12_first.cls yX12_first yX12_first ∈ gT := ⟨gT_c8 175 rfl rfl, gT_c8 176 rfl rfl⟩
theorem xd_X12_first : yX12_first.cls ≠ "java/lang/invoke/MethodHandle" ∧ yX12_first.cls ≠ "java/lang/invoke/VarHandle" ∧ (parseMethodDescriptor yX12_first.desc).map (fun d => d.parameters.length) = some 1 := by decide +kernel
theorem xv_L_174 : gWV RL 174 yX12_first cX12_first 4 (some .int) 1 := ⟨gT_c8 174 rfl rfl, xi_X12_first.1, xi_X12_first.2, xini_X12, xc_X12_first, xd_X12_first⟩
theorem lw_dismissed : Cond.methodLink RL 175 yL_dismissed ∈ gT ∧ Cond.static yL_dismissed ∈ gT ∧ Cond.initialized RL ∈ gT ∧ Cond.codeWith yL_dismissed cL_dismissed 4 (some .int) [(0, 9, 12, 18)] ∈ gT ∧ (yL_dismissed.cls ≠ "java/lang/invoke/MethodHandle" ∧ yL_dismissed.cls ≠ "java/lang/invoke/VarHandle" ∧ (parseMethodDescriptor yL_dismissed.desc).map (fun d => d.parameters.length) = some 3) := ⟨gT_c5 123 rfl rfl, gT_c5 124 rfl rfl, xini_L, gT_c5 125 rfl rfl, by decide +kernel⟩
theorem xc_X12_dismissed : Cond.code yX12_dismissed cX12_dismissed 4 (some .int) ∈ gT := gT_c8 181 rfl rfl
theorem xi_X12_dismissed : Cond.instanceMethod yX12_dismissed ∈ gT ∧ Cond.selects yX12_dismissed.cls yX12_dismissed yX12_dismissed ∈ gT := ⟨gT_c8 179 rfl rfl, gT_c8 180 rfl rfl⟩
theorem xd_X12_dismissed : yX12_dismissed.cls ≠ "java/lang/invoke/MethodHandle" ∧ yX12_dismissed.cls ≠ "java/lang/invoke/VarHandle" ∧ (parseMethodDescriptor yX12_dismissed.desc).map (fun d => d.parameters.length) = some 1 := by decide +kernel
theorem xv_L_177 : gWV RL 177 yX12_dismissed cX12_dismissed 4 (some .int) 1 := ⟨gT_c8 178 rfl rfl, xi_X12_dismissed.1, xi_X12_dismissed.2, xini_X12, xc_X12_dismissed, xd_X12_dismissed⟩
theorem lw_most : Cond.methodLink RL 178 yL_most ∈ gT ∧ Cond.static yL_most ∈ gT ∧ Cond.initialized RL ∈ gT ∧ Cond.codeWith yL_most cL_most 5 (some .int) [(0, 10, 13, 18), (0, 10, 17, 13)] ∈ gT ∧ (yL_most.cls ≠ "java/lang/invoke/MethodHandle" ∧ yL_most.cls ≠ "java/lang/invoke/VarHandle" ∧ (parseMethodDescriptor yL_most.desc).map (fun d => d.parameters.length) = some 4) := ⟨gT_c5 130 rfl rfl, gT_c5 131 rfl rfl, xini_L, gT_c5 132 rfl rfl, by decide +kernel⟩
theorem xc_X12_most : Cond.code yX12_most cX12_most 4 (some .int) ∈ gT := gT_c8 185 rfl rfl
theorem xi_X12_most : Cond.instanceMethod yX12_most ∈ gT ∧ Cond.selects yX12_most.cls yX12_most yX12_most ∈ gT := ⟨gT_c8 183 rfl rfl, gT_c8 184 rfl rfl⟩
theorem xd_X12_most : yX12_most.cls ≠ "java/lang/invoke/MethodHandle" ∧ yX12_most.cls ≠ "java/lang/invoke/VarHandle" ∧ (parseMethodDescriptor yX12_most.desc).map (fun d => d.parameters.length) = some 2 := by decide +kernel
theorem xv_L_180 : gWV RL 180 yX12_most cX12_most 4 (some .int) 2 := ⟨gT_c8 182 rfl rfl, xi_X12_most.1, xi_X12_most.2, xini_X12, xc_X12_most, xd_X12_most⟩
theorem lw_hush : Cond.methodLink RL 181 yL_hush ∈ gT ∧ Cond.static yL_hush ∈ gT ∧ Cond.initialized RL ∈ gT ∧ Cond.codeWith yL_hush cL_hush 4 (some .int) [(0, 9, 12, 13)] ∈ gT ∧ (yL_hush.cls ≠ "java/lang/invoke/MethodHandle" ∧ yL_hush.cls ≠ "java/lang/invoke/VarHandle" ∧ (parseMethodDescriptor yL_hush.desc).map (fun d => d.parameters.length) = some 3) := ⟨gT_c5 137 rfl rfl, gT_c5 138 rfl rfl, xini_L, gT_c5 139 rfl rfl, by decide +kernel⟩
theorem xc_X12_hush : Cond.code yX12_hush cX12_hush 5 (some .int) ∈ gT := gT_c8 193 rfl rfl
theorem xi_X12_hush : Cond.instanceMethod yX12_hush ∈ gT ∧ Cond.selects yX12_hush.cls yX12_hush yX12_hush ∈ gT := ⟨gT_c8 191 rfl rfl, gT_c8 192 rfl rfl⟩
theorem xd_X12_hush : yX12_hush.cls ≠ "java/lang/invoke/MethodHandle" ∧ yX12_hush.cls ≠ "java/lang/invoke/VarHandle" ∧ (parseMethodDescriptor yX12_hush.desc).map (fun d => d.parameters.length) = some 1 := by decide +kernel
theorem xv_L_183 : gWV RL 183 yX12_hush cX12_hush 5 (some .int) 1 := ⟨gT_c8 190 rfl rfl, xi_X12_hush.1, xi_X12_hush.2, xini_X12, xc_X12_hush, xd_X12_hush⟩
theorem lw_chorus : Cond.methodLink RL 184 yL_chorus ∈ gT ∧ Cond.static yL_chorus ∈ gT ∧ Cond.initialized RL ∈ gT ∧ Cond.codeWith yL_chorus cL_chorus 4 (some .int) [(0, 9, 12, 13)] ∈ gT ∧ (yL_chorus.cls ≠ "java/lang/invoke/MethodHandle" ∧ yL_chorus.cls ≠ "java/lang/invoke/VarHandle" ∧ (parseMethodDescriptor yL_chorus.desc).map (fun d => d.parameters.length) = some 3) := ⟨gT_c5 145 rfl rfl, gT_c5 146 rfl rfl, xini_L, gT_c5 147 rfl rfl, by decide +kernel⟩
theorem xc_X12_chorus : Cond.code yX12_chorus cX12_chorus 6 (some .int) ∈ gT := gT_c8 197 rfl rfl
theorem xi_X12_chorus : Cond.instanceMethod yX12_chorus ∈ gT ∧ Cond.selects yX12_chorus.cls yX12_chorus yX12_chorus ∈ gT := ⟨gT_c8 195 rfl rfl, gT_c8 196 rfl rfl⟩
theorem xd_X12_chorus : yX12_chorus.cls ≠ "java/lang/invoke/MethodHandle" ∧ yX12_chorus.cls ≠ "java/lang/invoke/VarHandle" ∧ (parseMethodDescriptor yX12_chorus.desc).map (fun d => d.parameters.length) = some 1 := by decide +kernel
theorem xv_L_186 : gWV RL 186 yX12_chorus cX12_chorus 6 (some .int) 1 := ⟨gT_c8 194 rfl rfl, xi_X12_chorus.1, xi_X12_chorus.2, xini_X12, xc_X12_chorus, xd_X12_chorus⟩
theorem lw_together : Cond.methodLink RL 187 yL_together ∈ gT ∧ Cond.static yL_together ∈ gT ∧ Cond.initialized RL ∈ gT ∧ Cond.codeWith yL_together cL_together 4 (some .int) [(0, 9, 12, 13)] ∈ gT ∧ (yL_together.cls ≠ "java/lang/invoke/MethodHandle" ∧ yL_together.cls ≠ "java/lang/invoke/VarHandle" ∧ (parseMethodDescriptor yL_together.desc).map (fun d => d.parameters.length) = some 3) := ⟨gT_c5 158 rfl rfl, gT_c5 159 rfl rfl, xini_L, gT_c5 160 rfl rfl, by decide +kernel⟩
theorem xc_X12_together : Cond.code yX12_together cX12_together 5 (some .int) ∈ gT := gT_c8 208 rfl rfl
theorem xi_X12_together : Cond.instanceMethod yX12_together ∈ gT ∧ Cond.selects yX12_together.cls yX12_together yX12_together ∈ gT := ⟨gT_c8 206 rfl rfl, gT_c8 207 rfl rfl⟩
theorem xd_X12_together : yX12_together.cls ≠ "java/lang/invoke/MethodHandle" ∧ yX12_together.cls ≠ "java/lang/invoke/VarHandle" ∧ (parseMethodDescriptor yX12_together.desc).map (fun d => d.parameters.length) = some 1 := by decide +kernel
theorem xv_L_189 : gWV RL 189 yX12_together cX12_together 5 (some .int) 1 := ⟨gT_c8 205 rfl rfl, xi_X12_together.1, xi_X12_together.2, xini_X12, xc_X12_together, xd_X12_together⟩
theorem lw_rhythm : Cond.methodLink RL 190 yL_rhythm ∈ gT ∧ Cond.static yL_rhythm ∈ gT ∧ Cond.initialized RL ∈ gT ∧ Cond.codeWith yL_rhythm cL_rhythm 4 (some .int) [(0, 9, 12, 13)] ∈ gT ∧ (yL_rhythm.cls ≠ "java/lang/invoke/MethodHandle" ∧ yL_rhythm.cls ≠ "java/lang/invoke/VarHandle" ∧ (parseMethodDescriptor yL_rhythm.desc).map (fun d => d.parameters.length) = some 3) := ⟨gT_c5 179 rfl rfl, gT_c5 180 rfl rfl, xini_L, gT_c5 181 rfl rfl, by decide +kernel⟩
theorem xc_X12_rhythm : Cond.code yX12_rhythm cX12_rhythm 5 (some .int) ∈ gT := gT_c8 216 rfl rfl
theorem xi_X12_rhythm : Cond.instanceMethod yX12_rhythm ∈ gT ∧ Cond.selects yX12_rhythm.cls yX12_rhythm yX12_rhythm ∈ gT := ⟨gT_c8 214 rfl rfl, gT_c8 215 rfl rfl⟩
theorem xd_X12_rhythm : yX12_rhythm.cls ≠ "java/lang/invoke/MethodHandle" ∧ yX12_rhythm.cls ≠ "java/lang/invoke/VarHandle" ∧ (parseMethodDescriptor yX12_rhythm.desc).map (fun d => d.parameters.length) = some 1 := by decide +kernel
theorem xv_L_192 : gWV RL 192 yX12_rhythm cX12_rhythm 5 (some .int) 1 := ⟨gT_c8 213 rfl rfl, xi_X12_rhythm.1, xi_X12_rhythm.2, xini_X12, xc_X12_rhythm, xd_X12_rhythm⟩
theorem lw_often : Cond.methodLink RL 193 yL_often ∈ gT ∧ Cond.static yL_often ∈ gT ∧ Cond.initialized RL ∈ gT ∧ Cond.codeWith yL_often cL_often 5 (some .int) [(0, 10, 13, 18), (0, 10, 17, 13)] ∈ gT ∧ (yL_often.cls ≠ "java/lang/invoke/MethodHandle" ∧ yL_often.cls ≠ "java/lang/invoke/VarHandle" ∧ (parseMethodDescriptor yL_often.desc).map (fun d => d.parameters.length) = some 4) := ⟨gT_c5 186 rfl rfl, gT_c5 187 rfl rfl, xini_L, gT_c5 188 rfl rfl, by decide +kernel⟩
theorem xc_X12_often : Cond.code yX12_often cX12_often 5 (some .int) ∈ gT := gT_c8 204 rfl rfl
theorem xi_X12_often : Cond.instanceMethod yX12_often ∈ gT ∧ Cond.selects yX12_often.cls yX12_often yX12_often ∈ gT := ⟨gT_c8 202 rfl rfl, gT_c8 203 rfl rfl⟩
theorem xd_X12_often : yX12_often.cls ≠ "java/lang/invoke/MethodHandle" ∧ yX12_often.cls ≠ "java/lang/invoke/VarHandle" ∧ (parseMethodDescriptor yX12_often.desc).map (fun d => d.parameters.length) = some 2 := by decide +kernel
theorem xv_L_195 : gWV RL 195 yX12_often cX12_often 5 (some .int) 2 := ⟨gT_c8 201 rfl rfl, xi_X12_often.1, xi_X12_often.2, xini_X12, xc_X12_often, xd_X12_often⟩
theorem lw_toHire : Cond.methodLink RL 196 yL_toHire ∈ gT ∧ Cond.static yL_toHire ∈ gT ∧ Cond.initialized RL ∈ gT ∧ Cond.codeWith yL_toHire cL_toHire 6 (some .int) [(0, 12, 15, 18), (0, 12, 19, 13)] ∈ gT ∧ (yL_toHire.cls ≠ "java/lang/invoke/MethodHandle" ∧ yL_toHire.cls ≠ "java/lang/invoke/VarHandle" ∧ (parseMethodDescriptor yL_toHire.desc).map (fun d => d.parameters.length) = some 5) := ⟨gT_c5 193 rfl rfl, gT_c5 194 rfl rfl, xini_L, gT_c5 195 rfl rfl, by decide +kernel⟩
theorem xc_X12_toHire : Cond.code yX12_toHire cX12_toHire 9 (some .int) ∈ gT := gT_c8 220 rfl rfl
theorem xi_X12_toHire : Cond.instanceMethod yX12_toHire ∈ gT ∧ Cond.selects yX12_toHire.cls yX12_toHire yX12_toHire ∈ gT := ⟨gT_c8 218 rfl rfl, gT_c8 219 rfl rfl⟩
theorem xd_X12_toHire : yX12_toHire.cls ≠ "java/lang/invoke/MethodHandle" ∧ yX12_toHire.cls ≠ "java/lang/invoke/VarHandle" ∧ (parseMethodDescriptor yX12_toHire.desc).map (fun d => d.parameters.length) = some 3 := by decide +kernel
theorem xv_L_198 : gWV RL 198 yX12_toHire cX12_toHire 9 (some .int) 3 := ⟨gT_c8 217 rfl rfl, xi_X12_toHire.1, xi_X12_toHire.2, xini_X12, xc_X12_toHire, xd_X12_toHire⟩
theorem lw_shared : Cond.methodLink RL 199 yL_shared ∈ gT ∧ Cond.static yL_shared ∈ gT ∧ Cond.initialized RL ∈ gT ∧ Cond.codeWith yL_shared cL_shared 4 (some .int) [(0, 9, 12, 18)] ∈ gT ∧ (yL_shared.cls ≠ "java/lang/invoke/MethodHandle" ∧ yL_shared.cls ≠ "java/lang/invoke/VarHandle" ∧ (parseMethodDescriptor yL_shared.desc).map (fun d => d.parameters.length) = some 3) := ⟨gT_c5 200 rfl rfl, gT_c5 201 rfl rfl, xini_L, gT_c5 202 rfl rfl, by decide +kernel⟩
theorem xc_X12_shared : Cond.code yX12_shared cX12_shared 2 (some .int) ∈ gT := gT_c8 224 rfl rfl
theorem xi_X12_shared : Cond.instanceMethod yX12_shared ∈ gT ∧ Cond.selects yX12_shared.cls yX12_shared yX12_shared ∈ gT := ⟨gT_c8 222 rfl rfl, gT_c8 223 rfl rfl⟩
theorem xd_X12_shared : yX12_shared.cls ≠ "java/lang/invoke/MethodHandle" ∧ yX12_shared.cls ≠ "java/lang/invoke/VarHandle" ∧ (parseMethodDescriptor yX12_shared.desc).map (fun d => d.parameters.length) = some 1 := by decide +kernel
theorem xv_L_201 : gWV RL 201 yX12_shared cX12_shared 2 (some .int) 1 := ⟨gT_c8 221 rfl rfl, xi_X12_shared.1, xi_X12_shared.2, xini_X12, xc_X12_shared, xd_X12_shared⟩
theorem lw_has : Cond.methodLink RL 202 yL_has ∈ gT ∧ Cond.static yL_has ∈ gT ∧ Cond.initialized RL ∈ gT ∧ Cond.codeWith yL_has cL_has 4 (some .int) [(0, 9, 12, 18)] ∈ gT ∧ (yL_has.cls ≠ "java/lang/invoke/MethodHandle" ∧ yL_has.cls ≠ "java/lang/invoke/VarHandle" ∧ (parseMethodDescriptor yL_has.desc).map (fun d => d.parameters.length) = some 3) := ⟨gT_c5 234 rfl rfl, gT_c5 235 rfl rfl, xini_L, gT_c5 236 rfl rfl, by decide +kernel⟩
theorem xc_X12_has : Cond.code yX12_has cX12_has 6 (some .int) ∈ gT := gT_c9 0 rfl rfl
theorem xi_X12_has : Cond.instanceMethod yX12_has ∈ gT ∧ Cond.selects yX12_has.cls yX12_has yX12_has ∈ gT := ⟨gT_c8 238 rfl rfl, gT_c8 239 rfl rfl⟩
theorem xd_X12_has : yX12_has.cls ≠ "java/lang/invoke/MethodHandle" ∧ yX12_has.cls ≠ "java/lang/invoke/VarHandle" ∧ (parseMethodDescriptor yX12_has.desc).map (fun d => d.parameters.length) = some 1 := by decide +kernel
theorem xv_L_204 : gWV RL 204 yX12_has cX12_has 6 (some .int) 1 := ⟨gT_c8 237 rfl rfl, xi_X12_has.1, xi_X12_has.2, xini_X12, xc_X12_has, xd_X12_has⟩
theorem lw_toGive : Cond.methodLink RL 205 yL_toGive ∈ gT ∧ Cond.static yL_toGive ∈ gT ∧ Cond.initialized RL ∈ gT ∧ Cond.codeWith yL_toGive cL_toGive 5 (some .int) [(0, 10, 13, 18), (0, 10, 17, 13)] ∈ gT ∧ (yL_toGive.cls ≠ "java/lang/invoke/MethodHandle" ∧ yL_toGive.cls ≠ "java/lang/invoke/VarHandle" ∧ (parseMethodDescriptor yL_toGive.desc).map (fun d => d.parameters.length) = some 4) := ⟨gT_c6 1 rfl rfl, gT_c6 2 rfl rfl, xini_L, gT_c6 3 rfl rfl, by decide +kernel⟩
theorem xc_X12_toGive : Cond.code yX12_toGive cX12_toGive 6 (some .int) ∈ gT := gT_c9 4 rfl rfl
theorem xi_X12_toGive : Cond.instanceMethod yX12_toGive ∈ gT ∧ Cond.selects yX12_toGive.cls yX12_toGive yX12_toGive ∈ gT := ⟨gT_c9 2 rfl rfl, gT_c9 3 rfl rfl⟩
theorem xd_X12_toGive : yX12_toGive.cls ≠ "java/lang/invoke/MethodHandle" ∧ yX12_toGive.cls ≠ "java/lang/invoke/VarHandle" ∧ (parseMethodDescriptor yX12_toGive.desc).map (fun d => d.parameters.length) = some 2 := by decide +kernel
theorem xv_L_207 : gWV RL 207 yX12_toGive cX12_toGive 6 (some .int) 2 := ⟨gT_c9 1 rfl rfl, xi_X12_toGive.1, xi_X12_toGive.2, xini_X12, xc_X12_toGive, xd_X12_toGive⟩
theorem lw_confessing : Cond.methodLink RL 208 yL_confessing ∈ gT ∧ Cond.static yL_confessing ∈ gT ∧ Cond.initialized RL ∈ gT ∧ Cond.codeWith yL_confessing cL_confessing 5 (some .int) [(0, 10, 13, 18), (0, 10, 17, 13)] ∈ gT ∧ (yL_confessing.cls ≠ "java/lang/invoke/MethodHandle" ∧ yL_confessing.cls ≠ "java/lang/invoke/VarHandle" ∧ (parseMethodDescriptor yL_confessing.desc).map (fun d => d.parameters.length) = some 4) := ⟨gT_c6 24 rfl rfl, gT_c6 25 rfl rfl, xini_L, gT_c6 26 rfl rfl, by decide +kernel⟩
theorem xc_X12_confessing : Cond.code yX12_confessing cX12_confessing 5 (some .int) ∈ gT := gT_c9 8 rfl rfl
theorem xi_X12_confessing : Cond.instanceMethod yX12_confessing ∈ gT ∧ Cond.selects yX12_confessing.cls yX12_confessing yX12_confessing ∈ gT := ⟨gT_c9 6 rfl rfl, gT_c9 7 rfl rfl⟩
theorem xd_X12_confessing : yX12_confessing.cls ≠ "java/lang/invoke/MethodHandle" ∧ yX12_confessing.cls ≠ "java/lang/invoke/VarHandle" ∧ (parseMethodDescriptor yX12_confessing.desc).map (fun d => d.parameters.length) = some 2 := by decide +kernel
theorem xv_L_210 : gWV RL 210 yX12_confessing cX12_confessing 5 (some .int) 2 := ⟨gT_c9 5 rfl rfl, xi_X12_confessing.1, xi_X12_confessing.2, xini_X12, xc_X12_confessing, xd_X12_confessing⟩
theorem lw_see : Cond.methodLink RL 211 yL_see ∈ gT ∧ Cond.static yL_see ∈ gT ∧ Cond.initialized RL ∈ gT ∧ Cond.codeWith yL_see cL_see 6 (some .int) [(0, 12, 15, 18)] ∈ gT ∧ (yL_see.cls ≠ "java/lang/invoke/MethodHandle" ∧ yL_see.cls ≠ "java/lang/invoke/VarHandle" ∧ (parseMethodDescriptor yL_see.desc).map (fun d => d.parameters.length) = some 5) := ⟨gT_c6 35 rfl rfl, gT_c6 36 rfl rfl, xini_L, gT_c6 37 rfl rfl, by decide +kernel⟩
theorem xc_X12_see : Cond.code yX12_see cX12_see 4 (some .int) ∈ gT := gT_c9 12 rfl rfl
theorem xi_X12_see : Cond.instanceMethod yX12_see ∈ gT ∧ Cond.selects yX12_see.cls yX12_see yX12_see ∈ gT := ⟨gT_c9 10 rfl rfl, gT_c9 11 rfl rfl⟩
theorem xd_X12_see : yX12_see.cls ≠ "java/lang/invoke/MethodHandle" ∧ yX12_see.cls ≠ "java/lang/invoke/VarHandle" ∧ (parseMethodDescriptor yX12_see.desc).map (fun d => d.parameters.length) = some 3 := by decide +kernel
theorem xv_L_213 : gWV RL 213 yX12_see cX12_see 4 (some .int) 3 := ⟨gT_c9 9 rfl rfl, xi_X12_see.1, xi_X12_see.2, xini_X12, xc_X12_see, xd_X12_see⟩
theorem lw_greedy : Cond.methodLink RL 214 yL_greedy ∈ gT ∧ Cond.static yL_greedy ∈ gT ∧ Cond.initialized RL ∈ gT ∧ Cond.codeWith yL_greedy cL_greedy 4 (some .int) [(0, 9, 12, 18)] ∈ gT ∧ (yL_greedy.cls ≠ "java/lang/invoke/MethodHandle" ∧ yL_greedy.cls ≠ "java/lang/invoke/VarHandle" ∧ (parseMethodDescriptor yL_greedy.desc).map (fun d => d.parameters.length) = some 3) := ⟨gT_c6 46 rfl rfl, gT_c6 47 rfl rfl, xini_L, gT_c6 48 rfl rfl, by decide +kernel⟩
theorem xc_X12_greedy : Cond.code yX12_greedy cX12_greedy 2 (some .int) ∈ gT := gT_c9 17 rfl rfl
theorem xi_X12_greedy : Cond.instanceMethod yX12_greedy ∈ gT ∧ Cond.selects yX12_greedy.cls yX12_greedy yX12_greedy ∈ gT := ⟨gT_c9 15 rfl rfl, gT_c9 16 rfl rfl⟩
theorem xd_X12_greedy : yX12_greedy.cls ≠ "java/lang/invoke/MethodHandle" ∧ yX12_greedy.cls ≠ "java/lang/invoke/VarHandle" ∧ (parseMethodDescriptor yX12_greedy.desc).map (fun d => d.parameters.length) = some 1 := by decide +kernel
theorem xv_L_216 : gWV RL 216 yX12_greedy cX12_greedy 2 (some .int) 1 := ⟨gT_c9 14 rfl rfl, xi_X12_greedy.1, xi_X12_greedy.2, xini_X12, xc_X12_greedy, xd_X12_greedy⟩
theorem lw_look : Cond.methodLink RL 217 yL_look ∈ gT ∧ Cond.static yL_look ∈ gT ∧ Cond.initialized RL ∈ gT ∧ Cond.codeWith yL_look cL_look 4 (some .int) [(0, 9, 12, 18)] ∈ gT ∧ (yL_look.cls ≠ "java/lang/invoke/MethodHandle" ∧ yL_look.cls ≠ "java/lang/invoke/VarHandle" ∧ (parseMethodDescriptor yL_look.desc).map (fun d => d.parameters.length) = some 3) := ⟨gT_c6 79 rfl rfl, gT_c6 80 rfl rfl, xini_L, gT_c6 81 rfl rfl, by decide +kernel⟩
theorem xc_X12_look : Cond.code yX12_look cX12_look 6 (some .int) ∈ gT := gT_c9 30 rfl rfl
theorem xi_X12_look : Cond.instanceMethod yX12_look ∈ gT ∧ Cond.selects yX12_look.cls yX12_look yX12_look ∈ gT := ⟨gT_c9 28 rfl rfl, gT_c9 29 rfl rfl⟩
theorem xd_X12_look : yX12_look.cls ≠ "java/lang/invoke/MethodHandle" ∧ yX12_look.cls ≠ "java/lang/invoke/VarHandle" ∧ (parseMethodDescriptor yX12_look.desc).map (fun d => d.parameters.length) = some 1 := by decide +kernel
theorem xv_L_219 : gWV RL 219 yX12_look cX12_look 6 (some .int) 1 := ⟨gT_c9 27 rfl rfl, xi_X12_look.1, xi_X12_look.2, xini_X12, xc_X12_look, xd_X12_look⟩
theorem xc_X11_forget : Cond.code yX11_forget cX11_forget 1 none ∈ gT := gT_c3 80 rfl rfl
theorem xi_X11_forget : Cond.instanceMethod yX11_forget ∈ gT ∧ Cond.selects yX11_forget.cls yX11_forget yX11_forget ∈ gT := ⟨gT_c3 78 rfl rfl, gT_c3 79 rfl rfl⟩
theorem xd_X11_forget : yX11_forget.cls ≠ "java/lang/invoke/MethodHandle" ∧ yX11_forget.cls ≠ "java/lang/invoke/VarHandle" ∧ (parseMethodDescriptor yX11_forget.desc).map (fun d => d.parameters.length) = some 0 := by decide +kernel
theorem xv_L_220 : gWV RL 220 yX11_forget cX11_forget 1 none 0 := ⟨gT_c3 77 rfl rfl, xi_X11_forget.1, xi_X11_forget.2, xini_X11, xc_X11_forget, xd_X11_forget⟩
theorem xc_X12_forget : Cond.code yX12_forget cX12_forget 1 none ∈ gT := gT_c9 38 rfl rfl
theorem xi_X12_forget : Cond.instanceMethod yX12_forget ∈ gT ∧ Cond.selects yX12_forget.cls yX12_forget yX12_forget ∈ gT := ⟨gT_c9 36 rfl rfl, gT_c9 37 rfl rfl⟩
theorem xd_X12_forget : yX12_forget.cls ≠ "java/lang/invoke/MethodHandle" ∧ yX12_forget.cls ≠ "java/lang/invoke/VarHandle" ∧ (parseMethodDescriptor yX12_forget.desc).map (fun d => d.parameters.length) = some 0 := by decide +kernel
theorem xv_L_223 : gWV RL 223 yX12_forget cX12_forget 1 none 0 := ⟨gT_c9 35 rfl rfl, xi_X12_forget.1, xi_X12_forget.2, xini_X12, xc_X12_forget, xd_X12_forget⟩
theorem lw_drought : Cond.methodLink RL 224 yL_drought ∈ gT ∧ Cond.static yL_drought ∈ gT ∧ Cond.initialized RL ∈ gT ∧ Cond.codeWith yL_drought cL_drought 6 (some .int) [(0, 12, 15, 18), (0, 12, 19, 13)] ∈ gT ∧ (yL_drought.cls ≠ "java/lang/invoke/MethodHandle" ∧ yL_drought.cls ≠ "java/lang/invoke/VarHandle" ∧ (parseMethodDescriptor yL_drought.desc).map (fun d => d.parameters.length) = some 5) := ⟨gT_c6 96 rfl rfl, gT_c6 97 rfl rfl, xini_L, gT_c6 98 rfl rfl, by decide +kernel⟩
theorem xc_X12_drought : Cond.code yX12_drought cX12_drought 9 (some .int) ∈ gT := gT_c9 42 rfl rfl
theorem xi_X12_drought : Cond.instanceMethod yX12_drought ∈ gT ∧ Cond.selects yX12_drought.cls yX12_drought yX12_drought ∈ gT := ⟨gT_c9 40 rfl rfl, gT_c9 41 rfl rfl⟩
theorem xd_X12_drought : yX12_drought.cls ≠ "java/lang/invoke/MethodHandle" ∧ yX12_drought.cls ≠ "java/lang/invoke/VarHandle" ∧ (parseMethodDescriptor yX12_drought.desc).map (fun d => d.parameters.length) = some 3 := by decide +kernel
theorem xv_L_226 : gWV RL 226 yX12_drought cX12_drought 9 (some .int) 3 := ⟨gT_c9 39 rfl rfl, xi_X12_drought.1, xi_X12_drought.2, xini_X12, xc_X12_drought, xd_X12_drought⟩
theorem lw_game : Cond.methodLink RL 227 yL_game ∈ gT ∧ Cond.static yL_game ∈ gT ∧ Cond.initialized RL ∈ gT ∧ Cond.codeWith yL_game cL_game 6 (some .int) [(0, 12, 15, 18), (0, 12, 19, 13)] ∈ gT ∧ (yL_game.cls ≠ "java/lang/invoke/MethodHandle" ∧ yL_game.cls ≠ "java/lang/invoke/VarHandle" ∧ (parseMethodDescriptor yL_game.desc).map (fun d => d.parameters.length) = some 5) := ⟨gT_c6 103 rfl rfl, gT_c6 104 rfl rfl, xini_L, gT_c6 105 rfl rfl, by decide +kernel⟩
theorem xc_X12_game : Cond.code yX12_game cX12_game 9 (some .int) ∈ gT := gT_c9 48 rfl rfl
theorem xi_X12_game : Cond.instanceMethod yX12_game ∈ gT ∧ Cond.selects yX12_game.cls yX12_game yX12_game ∈ gT := ⟨gT_c9 46 rfl rfl, gT_c9 47 rfl rfl⟩
theorem xd_X12_game : yX12_game.cls ≠ "java/lang/invoke/MethodHandle" ∧ yX12_game.cls ≠ "java/lang/invoke/VarHandle" ∧ (parseMethodDescriptor yX12_game.desc).map (fun d => d.parameters.length) = some 3 := by decide +kernel
theorem xv_L_229 : gWV RL 229 yX12_game cX12_game 9 (some .int) 3 := ⟨gT_c9 45 rfl rfl, xi_X12_game.1, xi_X12_game.2, xini_X12, xc_X12_game, xd_X12_game⟩
theorem lw_years : Cond.methodLink RL 230 yL_years ∈ gT ∧ Cond.static yL_years ∈ gT ∧ Cond.initialized RL ∈ gT ∧ Cond.codeWith yL_years cL_years 6 (some .int) [(0, 12, 15, 18), (0, 12, 19, 13)] ∈ gT ∧ (yL_years.cls ≠ "java/lang/invoke/MethodHandle" ∧ yL_years.cls ≠ "java/lang/invoke/VarHandle" ∧ (parseMethodDescriptor yL_years.desc).map (fun d => d.parameters.length) = some 5) := ⟨gT_c6 127 rfl rfl, gT_c6 128 rfl rfl, xini_L, gT_c6 129 rfl rfl, by decide +kernel⟩
theorem xc_X12_years : Cond.code yX12_years cX12_years 6 (some .int) ∈ gT := gT_c9 56 rfl rfl
theorem xi_X12_years : Cond.instanceMethod yX12_years ∈ gT ∧ Cond.selects yX12_years.cls yX12_years yX12_years ∈ gT := ⟨gT_c9 54 rfl rfl, gT_c9 55 rfl rfl⟩
theorem xd_X12_years : yX12_years.cls ≠ "java/lang/invoke/MethodHandle" ∧ yX12_years.cls ≠ "java/lang/invoke/VarHandle" ∧ (parseMethodDescriptor yX12_years.desc).map (fun d => d.parameters.length) = some 3 := by decide +kernel
theorem xv_L_232 : gWV RL 232 yX12_years cX12_years 6 (some .int) 3 := ⟨gT_c9 53 rfl rfl, xi_X12_years.1, xi_X12_years.2, xini_X12, xc_X12_years, xd_X12_years⟩
theorem xc_X11_image : Cond.code yX11_image cX11_image 1 none ∈ gT := gT_c3 84 rfl rfl
theorem xi_X11_image : Cond.instanceMethod yX11_image ∈ gT ∧ Cond.selects yX11_image.cls yX11_image yX11_image ∈ gT := ⟨gT_c3 82 rfl rfl, gT_c3 83 rfl rfl⟩
theorem xd_X11_image : yX11_image.cls ≠ "java/lang/invoke/MethodHandle" ∧ yX11_image.cls ≠ "java/lang/invoke/VarHandle" ∧ (parseMethodDescriptor yX11_image.desc).map (fun d => d.parameters.length) = some 0 := by decide +kernel
theorem xv_L_233 : gWV RL 233 yX11_image cX11_image 1 none 0 := ⟨gT_c3 81 rfl rfl, xi_X11_image.1, xi_X11_image.2, xini_X11, xc_X11_image, xd_X11_image⟩
theorem xc_X12_image : Cond.code yX12_image cX12_image 1 none ∈ gT := gT_c9 69 rfl rfl
theorem xi_X12_image : Cond.instanceMethod yX12_image ∈ gT ∧ Cond.selects yX12_image.cls yX12_image yX12_image ∈ gT := ⟨gT_c9 67 rfl rfl, gT_c9 68 rfl rfl⟩
theorem xd_X12_image : yX12_image.cls ≠ "java/lang/invoke/MethodHandle" ∧ yX12_image.cls ≠ "java/lang/invoke/VarHandle" ∧ (parseMethodDescriptor yX12_image.desc).map (fun d => d.parameters.length) = some 0 := by decide +kernel
theorem xv_L_236 : gWV RL 236 yX12_image cX12_image 1 none 0 := ⟨gT_c9 66 rfl rfl, xi_X12_image.1, xi_X12_image.2, xini_X12, xc_X12_image, xd_X12_image⟩
theorem xc_X11_restore : Cond.code yX11_restore cX11_restore 1 (some .boolean) ∈ gT := gT_c3 104 rfl rfl
theorem xi_X11_restore : Cond.instanceMethod yX11_restore ∈ gT ∧ Cond.selects yX11_restore.cls yX11_restore yX11_restore ∈ gT := ⟨gT_c3 102 rfl rfl, gT_c3 103 rfl rfl⟩
theorem xd_X11_restore : yX11_restore.cls ≠ "java/lang/invoke/MethodHandle" ∧ yX11_restore.cls ≠ "java/lang/invoke/VarHandle" ∧ (parseMethodDescriptor yX11_restore.desc).map (fun d => d.parameters.length) = some 0 := by decide +kernel
theorem xv_L_237 : gWV RL 237 yX11_restore cX11_restore 1 (some .boolean) 0 := ⟨gT_c3 101 rfl rfl, xi_X11_restore.1, xi_X11_restore.2, xini_X11, xc_X11_restore, xd_X11_restore⟩
theorem xc_X12_restore : Cond.code yX12_restore cX12_restore 1 (some .boolean) ∈ gT := gT_c9 76 rfl rfl
theorem xi_X12_restore : Cond.instanceMethod yX12_restore ∈ gT ∧ Cond.selects yX12_restore.cls yX12_restore yX12_restore ∈ gT := ⟨gT_c9 74 rfl rfl, gT_c9 75 rfl rfl⟩
theorem xd_X12_restore : yX12_restore.cls ≠ "java/lang/invoke/MethodHandle" ∧ yX12_restore.cls ≠ "java/lang/invoke/VarHandle" ∧ (parseMethodDescriptor yX12_restore.desc).map (fun d => d.parameters.length) = some 0 := by decide +kernel
theorem xv_L_241 : gWV RL 241 yX12_restore cX12_restore 1 (some .boolean) 0 := ⟨gT_c9 73 rfl rfl, xi_X12_restore.1, xi_X12_restore.2, xini_X12, xc_X12_restore, xd_X12_restore⟩
theorem lx_13 : Cond.classLink RL 13 (tE 2) ∈ gT := gT_c3 108 rfl rfl
theorem lx_18 : Cond.classLink RL 18 (tE 1) ∈ gT := gT_c4 196 rfl rfl
