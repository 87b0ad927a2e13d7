theorem dX12_grotto_68 : decode cX12_grotto 68 = .ok (.iload_n 1, 1) := by decide +kernel
theorem dX12_grotto_69 : decode cX12_grotto 69 = .ok (.iaload, 1) := by decide +kernel
theorem dX12_grotto_70 : decode cX12_grotto 70 = .ok (.ireturn, 1) := by decide +kernel
theorem dX12_grotto_71 : decode cX12_grotto 71 = .ok (.aload_n 0, 1) := by decide +kernel
theorem dX12_grotto_72 : decode cX12_grotto 72 = .ok (.getfield 50, 3) := by decide +kernel
theorem dX12_grotto_75 : decode cX12_grotto 75 = .ok (.iload_n 1, 1) := by decide +kernel
theorem dX12_grotto_76 : decode cX12_grotto 76 = .ok (.iaload, 1) := by decide +kernel
theorem dX12_grotto_77 : decode cX12_grotto 77 = .ok (.ireturn, 1) := by decide +kernel
theorem dX12_grotto_78 : decode cX12_grotto 78 = .ok (.aload_n 0, 1) := by decide +kernel
theorem dX12_grotto_79 : decode cX12_grotto 79 = .ok (.getfield 53, 3) := by decide +kernel
theorem dX12_grotto_82 : decode cX12_grotto 82 = .ok (.iload_n 1, 1) := by decide +kernel
theorem dX12_grotto_83 : decode cX12_grotto 83 = .ok (.iaload, 1) := by decide +kernel
theorem dX12_grotto_84 : decode cX12_grotto 84 = .ok (.ireturn, 1) := by decide +kernel
theorem dX12_grotto_85 : decode cX12_grotto 85 = .ok (.aload_n 0, 1) := by decide +kernel
theorem dX12_grotto_86 : decode cX12_grotto 86 = .ok (.getfield 46, 3) := by decide +kernel
theorem dX12_grotto_89 : decode cX12_grotto 89 = .ok (.iload_n 1, 1) := by decide +kernel
theorem dX12_grotto_90 : decode cX12_grotto 90 = .ok (.iaload, 1) := by decide +kernel
theorem dX12_grotto_91 : decode cX12_grotto 91 = .ok (.ireturn, 1) := by decide +kernel
theorem dX12_grotto_92 : decode cX12_grotto 92 = .ok (.aload_n 0, 1) := by decide +kernel
theorem dX12_grotto_93 : decode cX12_grotto 93 = .ok (.getfield 324, 3) := by decide +kernel
theorem dX12_grotto_96 : decode cX12_grotto 96 = .ok (.iload_n 1, 1) := by decide +kernel
theorem dX12_grotto_97 : decode cX12_grotto 97 = .ok (.ishr, 1) := by decide +kernel
theorem dX12_grotto_98 : decode cX12_grotto 98 = .ok (.iconst 1, 1) := by decide +kernel
theorem dX12_grotto_99 : decode cX12_grotto 99 = .ok (.iand, 1) := by decide +kernel
theorem dX12_grotto_100 : decode cX12_grotto 100 = .ok (.ireturn, 1) := by decide +kernel
theorem dX12_grotto_101 : decode cX12_grotto 101 = .ok (.aload_n 0, 1) := by decide +kernel
theorem dX12_grotto_102 : decode cX12_grotto 102 = .ok (.iload_n 1, 1) := by decide +kernel
theorem dX12_grotto_103 : decode cX12_grotto 103 = .ok (.invokevirtual 369, 3) := by decide +kernel
theorem dX12_grotto_106 : decode cX12_grotto 106 = .ok (.ireturn, 1) := by decide +kernel
theorem dX12_grotto_107 : decode cX12_grotto 107 = .ok (.aload_n 0, 1) := by decide +kernel
theorem dX12_grotto_108 : decode cX12_grotto 108 = .ok (.iload_n 1, 1) := by decide +kernel
theorem dX12_grotto_109 : decode cX12_grotto 109 = .ok (.invokevirtual 398, 3) := by decide +kernel
theorem dX12_grotto_112 : decode cX12_grotto 112 = .ok (.ireturn, 1) := by decide +kernel
theorem dX12_grotto_113 : decode cX12_grotto 113 = .ok (.aload_n 0, 1) := by decide +kernel
theorem dX12_grotto_114 : decode cX12_grotto 114 = .ok (.iconst 1, 1) := by decide +kernel
theorem dX12_grotto_115 : decode cX12_grotto 115 = .ok (.invokevirtual 308, 3) := by decide +kernel
theorem dX12_grotto_118 : decode cX12_grotto 118 = .ok (.ireturn, 1) := by decide +kernel
theorem dX12_guild_0 : decode cX12_guild 0 = .ok (.aload_n 0, 1) := by decide +kernel
theorem dX12_guild_1 : decode cX12_guild 1 = .ok (.iconst 0, 1) := by decide +kernel
theorem dX12_guild_2 : decode cX12_guild 2 = .ok (.putfield 155, 3) := by decide +kernel
theorem dX12_guild_5 : decode cX12_guild 5 = .ok (.aload_n 0, 1) := by decide +kernel
theorem dX12_guild_6 : decode cX12_guild 6 = .ok (.iload_n 1, 1) := by decide +kernel
theorem dX12_guild_7 : decode cX12_guild 7 = .ok (.invokevirtual 401, 3) := by decide +kernel
theorem dX12_guild_10 : decode cX12_guild 10 = .ok (.ifCond .ne 9, 3) := by decide +kernel
theorem dX12_guild_13 : decode cX12_guild 13 = .ok (.aload_n 0, 1) := by decide +kernel
theorem dX12_guild_14 : decode cX12_guild 14 = .ok (.iconst 1, 1) := by decide +kernel
theorem dX12_guild_15 : decode cX12_guild 15 = .ok (.invokevirtual 308, 3) := by decide +kernel
theorem dX12_guild_18 : decode cX12_guild 18 = .ok (.ireturn, 1) := by decide +kernel
theorem dX12_guild_19 : decode cX12_guild 19 = .ok (.iload_n 2, 1) := by decide +kernel
theorem dX12_guild_20 : decode cX12_guild 20 = .ok (.tableswitch 95 0 5 #[40, 47, 54, 61, 68, 75], 40) := by decide +kernel
theorem dX12_guild_60 : decode cX12_guild 60 = .ok (.aload_n 0, 1) := by decide +kernel
theorem dX12_guild_61 : decode cX12_guild 61 = .ok (.getfield 79, 3) := by decide +kernel
theorem dX12_guild_64 : decode cX12_guild 64 = .ok (.iload_n 1, 1) := by decide +kernel
theorem dX12_guild_65 : decode cX12_guild 65 = .ok (.iaload, 1) := by decide +kernel
theorem dX12_guild_66 : decode cX12_guild 66 = .ok (.ireturn, 1) := by decide +kernel
theorem dX12_guild_67 : decode cX12_guild 67 = .ok (.aload_n 0, 1) := by decide +kernel
theorem dX12_guild_68 : decode cX12_guild 68 = .ok (.getfield 88, 3) := by decide +kernel
theorem dX12_guild_71 : decode cX12_guild 71 = .ok (.iload_n 1, 1) := by decide +kernel
theorem dX12_guild_72 : decode cX12_guild 72 = .ok (.iaload, 1) := by decide +kernel
theorem dX12_guild_73 : decode cX12_guild 73 = .ok (.ireturn, 1) := by decide +kernel
theorem dX12_guild_74 : decode cX12_guild 74 = .ok (.aload_n 0, 1) := by decide +kernel
theorem dX12_guild_75 : decode cX12_guild 75 = .ok (.getfield 90, 3) := by decide +kernel
theorem dX12_guild_78 : decode cX12_guild 78 = .ok (.iload_n 1, 1) := by decide +kernel
theorem dX12_guild_79 : decode cX12_guild 79 = .ok (.iaload, 1) := by decide +kernel
theorem dX12_guild_80 : decode cX12_guild 80 = .ok (.ireturn, 1) := by decide +kernel
theorem dX12_guild_81 : decode cX12_guild 81 = .ok (.aload_n 0, 1) := by decide +kernel
theorem dX12_guild_82 : decode cX12_guild 82 = .ok (.getfield 92, 3) := by decide +kernel
theorem dX12_guild_85 : decode cX12_guild 85 = .ok (.iload_n 1, 1) := by decide +kernel
theorem dX12_guild_86 : decode cX12_guild 86 = .ok (.iaload, 1) := by decide +kernel
theorem dX12_guild_87 : decode cX12_guild 87 = .ok (.ireturn, 1) := by decide +kernel
theorem dX12_guild_88 : decode cX12_guild 88 = .ok (.aload_n 0, 1) := by decide +kernel
theorem dX12_guild_89 : decode cX12_guild 89 = .ok (.getfield 95, 3) := by decide +kernel
theorem dX12_guild_92 : decode cX12_guild 92 = .ok (.iload_n 1, 1) := by decide +kernel
theorem dX12_guild_93 : decode cX12_guild 93 = .ok (.iaload, 1) := by decide +kernel
theorem dX12_guild_94 : decode cX12_guild 94 = .ok (.ireturn, 1) := by decide +kernel
theorem dX12_guild_95 : decode cX12_guild 95 = .ok (.aload_n 0, 1) := by decide +kernel
theorem dX12_guild_96 : decode cX12_guild 96 = .ok (.getfield 95, 3) := by decide +kernel
theorem dX12_guild_99 : decode cX12_guild 99 = .ok (.iload_n 1, 1) := by decide +kernel
theorem dX12_guild_100 : decode cX12_guild 100 = .ok (.iaload, 1) := by decide +kernel
theorem dX12_guild_101 : decode cX12_guild 101 = .ok (.iconst (-1), 1) := by decide +kernel
theorem dX12_guild_102 : decode cX12_guild 102 = .ok (.if_icmp .ne 7, 3) := by decide +kernel
theorem dX12_guild_105 : decode cX12_guild 105 = .ok (.iconst 0, 1) := by decide +kernel
theorem dX12_guild_106 : decode cX12_guild 106 = .ok (.goto 8, 3) := by decide +kernel
theorem dX12_guild_109 : decode cX12_guild 109 = .ok (.aload_n 0, 1) := by decide +kernel
theorem dX12_guild_110 : decode cX12_guild 110 = .ok (.iload_n 1, 1) := by decide +kernel
theorem dX12_guild_111 : decode cX12_guild 111 = .ok (.invokevirtual 357, 3) := by decide +kernel
theorem dX12_guild_114 : decode cX12_guild 114 = .ok (.ireturn, 1) := by decide +kernel
theorem dX12_guild_115 : decode cX12_guild 115 = .ok (.aload_n 0, 1) := by decide +kernel
theorem dX12_guild_116 : decode cX12_guild 116 = .ok (.iconst 1, 1) := by decide +kernel
theorem dX12_guild_117 : decode cX12_guild 117 = .ok (.invokevirtual 308, 3) := by decide +kernel
theorem dX12_guild_120 : decode cX12_guild 120 = .ok (.ireturn, 1) := by decide +kernel
theorem dX12_refuse_0 : decode cX12_refuse 0 = .ok (.aload_n 0, 1) := by decide +kernel
theorem dX12_refuse_1 : decode cX12_refuse 1 = .ok (.getfield 76, 3) := by decide +kernel
theorem dX12_refuse_4 : decode cX12_refuse 4 = .ok (.iload_n 1, 1) := by decide +kernel
theorem dX12_refuse_5 : decode cX12_refuse 5 = .ok (.dup2, 1) := by decide +kernel
theorem dX12_refuse_6 : decode cX12_refuse 6 = .ok (.iaload, 1) := by decide +kernel
theorem dX12_refuse_7 : decode cX12_refuse 7 = .ok (.iconst 1, 1) := by decide +kernel
theorem dX12_refuse_8 : decode cX12_refuse 8 = .ok (.iadd, 1) := by decide +kernel
theorem dX12_refuse_9 : decode cX12_refuse 9 = .ok (.iastore, 1) := by decide +kernel
theorem dX12_refuse_10 : decode cX12_refuse 10 = .ok (.iconst (-1), 1) := by decide +kernel
theorem dX12_refuse_11 : decode cX12_refuse 11 = .ok (.ireturn, 1) := by decide +kernel
theorem dX12_refused_0 : decode cX12_refused 0 = .ok (.aload_n 0, 1) := by decide +kernel
theorem dX12_refused_1 : decode cX12_refused 1 = .ok (.getfield 76, 3) := by decide +kernel
theorem dX12_refused_4 : decode cX12_refused 4 = .ok (.iconst 1, 1) := by decide +kernel
theorem dX12_refused_5 : decode cX12_refused 5 = .ok (.dup2, 1) := by decide +kernel
theorem dX12_refused_6 : decode cX12_refused 6 = .ok (.iaload, 1) := by decide +kernel
theorem dX12_refused_7 : decode cX12_refused 7 = .ok (.iconst 1, 1) := by decide +kernel
theorem dX12_refused_8 : decode cX12_refused 8 = .ok (.iadd, 1) := by decide +kernel
theorem dX12_refused_9 : decode cX12_refused 9 = .ok (.iastore, 1) := by decide +kernel
theorem dX12_refused_10 : decode cX12_refused 10 = .ok (.iconst 0, 1) := by decide +kernel
theorem dX12_refused_11 : decode cX12_refused 11 = .ok (.ireturn, 1) := by decide +kernel
theorem dX12_keep_0 : decode cX12_keep 0 = .ok (.aload_n 0, 1) := by decide +kernel
theorem dX12_keep_1 : decode cX12_keep 1 = .ok (.getfield 327, 3) := by decide +kernel
theorem dX12_keep_4 : decode cX12_keep 4 = .ok (.bipush 40, 2) := by decide +kernel
theorem dX12_keep_6 : decode cX12_keep 6 = .ok (.if_icmp .ne 46, 3) := by decide +kernel
theorem dX12_keep_9 : decode cX12_keep 9 = .ok (.bipush 26, 2) := by decide +kernel
theorem dX12_keep_11 : decode cX12_keep 11 = .ok (.istore_n 1, 1) := by decide +kernel
theorem dX12_keep_12 : decode cX12_keep 12 = .ok (.iload_n 1, 1) := by decide +kernel
theorem dX12_keep_13 : decode cX12_keep 13 = .ok (.aload_n 0, 1) := by decide +kernel
theorem dX12_keep_14 : decode cX12_keep 14 = .ok (.getfield 98, 3) := by decide +kernel
theorem dX12_keep_17 : decode cX12_keep 17 = .ok (.arraylength, 1) := by decide +kernel
theorem dX12_keep_18 : decode cX12_keep 18 = .ok (.if_icmp .ge 24, 3) := by decide +kernel
theorem dX12_keep_21 : decode cX12_keep 21 = .ok (.aload_n 0, 1) := by decide +kernel
theorem dX12_keep_22 : decode cX12_keep 22 = .ok (.getfield 98, 3) := by decide +kernel
theorem dX12_keep_25 : decode cX12_keep 25 = .ok (.iload_n 1, 1) := by decide +kernel
theorem dX12_keep_26 : decode cX12_keep 26 = .ok (.bipush 26, 2) := by decide +kernel
theorem dX12_keep_28 : decode cX12_keep 28 = .ok (.isub, 1) := by decide +kernel
theorem dX12_keep_29 : decode cX12_keep 29 = .ok (.aload_n 0, 1) := by decide +kernel
theorem dX12_keep_30 : decode cX12_keep 30 = .ok (.getfield 98, 3) := by decide +kernel
theorem dX12_keep_33 : decode cX12_keep 33 = .ok (.iload_n 1, 1) := by decide +kernel
theorem dX12_keep_34 : decode cX12_keep 34 = .ok (.iaload, 1) := by decide +kernel
theorem dX12_keep_35 : decode cX12_keep 35 = .ok (.iastore, 1) := by decide +kernel
theorem dX12_keep_36 : decode cX12_keep 36 = .ok (.iinc 1 1, 3) := by decide +kernel
theorem dX12_keep_39 : decode cX12_keep 39 = .ok (.goto (-27), 3) := by decide +kernel
theorem dX12_keep_42 : decode cX12_keep 42 = .ok (.aload_n 0, 1) := by decide +kernel
theorem dX12_keep_43 : decode cX12_keep 43 = .ok (.dup, 1) := by decide +kernel
theorem dX12_keep_44 : decode cX12_keep 44 = .ok (.getfield 327, 3) := by decide +kernel
theorem dX12_keep_47 : decode cX12_keep 47 = .ok (.iconst 1, 1) := by decide +kernel
theorem dX12_keep_48 : decode cX12_keep 48 = .ok (.isub, 1) := by decide +kernel
theorem dX12_keep_49 : decode cX12_keep 49 = .ok (.putfield 327, 3) := by decide +kernel
theorem dX12_keep_52 : decode cX12_keep 52 = .ok (.aload_n 0, 1) := by decide +kernel
theorem dX12_keep_53 : decode cX12_keep 53 = .ok (.aload_n 0, 1) := by decide +kernel
theorem dX12_keep_54 : decode cX12_keep 54 = .ok (.getfield 98, 3) := by decide +kernel
theorem dX12_keep_57 : decode cX12_keep 57 = .ok (.bipush 26, 2) := by decide +kernel
theorem dX12_keep_59 : decode cX12_keep 59 = .ok (.aload_n 0, 1) := by decide +kernel
theorem dX12_keep_60 : decode cX12_keep 60 = .ok (.getfield 327, 3) := by decide +kernel
theorem dX12_keep_63 : decode cX12_keep 63 = .ok (.imul, 1) := by decide +kernel
theorem dX12_keep_64 : decode cX12_keep 64 = .ok (.invokevirtual 388, 3) := by decide +kernel
theorem dX12_keep_67 : decode cX12_keep 67 = .ok (.aload_n 0, 1) := by decide +kernel
theorem dX12_keep_68 : decode cX12_keep 68 = .ok (.dup, 1) := by decide +kernel
theorem dX12_keep_69 : decode cX12_keep 69 = .ok (.getfield 327, 3) := by decide +kernel
theorem dX12_keep_72 : decode cX12_keep 72 = .ok (.iconst 1, 1) := by decide +kernel
theorem dX12_keep_73 : decode cX12_keep 73 = .ok (.iadd, 1) := by decide +kernel
theorem dX12_keep_74 : decode cX12_keep 74 = .ok (.putfield 327, 3) := by decide +kernel
theorem dX12_keep_77 : decode cX12_keep 77 = .ok (.return_, 1) := by decide +kernel
theorem dX12_hours_0 : decode cX12_hours 0 = .ok (.aload_n 0, 1) := by decide +kernel
theorem dX12_hours_1 : decode cX12_hours 1 = .ok (.iconst 0, 1) := by decide +kernel
theorem dX12_hours_2 : decode cX12_hours 2 = .ok (.putfield 155, 3) := by decide +kernel
theorem dX12_hours_5 : decode cX12_hours 5 = .ok (.iload_n 1, 1) := by decide +kernel
theorem dX12_hours_6 : decode cX12_hours 6 = .ok (.i2l, 1) := by decide +kernel
theorem dX12_hours_7 : decode cX12_hours 7 = .ok (.lconst 1, 1) := by decide +kernel
theorem dX12_hours_8 : decode cX12_hours 8 = .ok (.ldc2_w 404, 3) := by decide +kernel
theorem dX12_hours_11 : decode cX12_hours 11 = .ok (.invokestatic 158, 3) := by decide +kernel
theorem dX12_hours_14 : decode cX12_hours 14 = .ok (.ifCond .eq 15, 3) := by decide +kernel
theorem dX12_hours_17 : decode cX12_hours 17 = .ok (.aload_n 0, 1) := by decide +kernel
theorem dX12_hours_18 : decode cX12_hours 18 = .ok (.getfield 321, 3) := by decide +kernel
theorem dX12_hours_21 : decode cX12_hours 21 = .ok (.iload_n 1, 1) := by decide +kernel
theorem dX12_hours_22 : decode cX12_hours 22 = .ok (.iadd, 1) := by decide +kernel
theorem dX12_hours_23 : decode cX12_hours 23 = .ok (.sipush 999, 3) := by decide +kernel
theorem dX12_hours_26 : decode cX12_hours 26 = .ok (.if_icmp .le 9, 3) := by decide +kernel
theorem dX12_hours_29 : decode cX12_hours 29 = .ok (.aload_n 0, 1) := by decide +kernel
theorem dX12_hours_30 : decode cX12_hours 30 = .ok (.iconst 1, 1) := by decide +kernel
theorem dX12_hours_31 : decode cX12_hours 31 = .ok (.invokevirtual 406, 3) := by decide +kernel
theorem dX12_hours_34 : decode cX12_hours 34 = .ok (.ireturn, 1) := by decide +kernel
theorem dX12_hours_35 : decode cX12_hours 35 = .ok (.aload_n 0, 1) := by decide +kernel
theorem dX12_hours_36 : decode cX12_hours 36 = .ok (.invokevirtual 409, 3) := by decide +kernel
theorem dX12_hours_39 : decode cX12_hours 39 = .ok (.aload_n 0, 1) := by decide +kernel
theorem dX12_hours_40 : decode cX12_hours 40 = .ok (.iload_n 1, 1) := by decide +kernel
theorem dX12_hours_41 : decode cX12_hours 41 = .ok (.invokevirtual 412, 3) := by decide +kernel
theorem dX12_hours_44 : decode cX12_hours 44 = .ok (.aload_n 0, 1) := by decide +kernel
theorem dX12_hours_45 : decode cX12_hours 45 = .ok (.getfield 321, 3) := by decide +kernel
theorem dX12_hours_48 : decode cX12_hours 48 = .ok (.ireturn, 1) := by decide +kernel
theorem dX12_hire_0 : decode cX12_hire 0 = .ok (.aload_n 0, 1) := by decide +kernel
theorem dX12_hire_1 : decode cX12_hire 1 = .ok (.iconst 0, 1) := by decide +kernel
theorem dX12_hire_2 : decode cX12_hire 2 = .ok (.putfield 155, 3) := by decide +kernel
theorem dX12_hire_5 : decode cX12_hire 5 = .ok (.aload_n 0, 1) := by decide +kernel
theorem dX12_hire_6 : decode cX12_hire 6 = .ok (.iload_n 1, 1) := by decide +kernel
theorem dX12_hire_7 : decode cX12_hire 7 = .ok (.invokevirtual 401, 3) := by decide +kernel
theorem dX12_hire_10 : decode cX12_hire 10 = .ok (.ifCond .eq 11, 3) := by decide +kernel
theorem dX12_hire_13 : decode cX12_hire 13 = .ok (.aload_n 0, 1) := by decide +kernel
theorem dX12_hire_14 : decode cX12_hire 14 = .ok (.iload_n 2, 1) := by decide +kernel
theorem dX12_hire_15 : decode cX12_hire 15 = .ok (.invokevirtual 395, 3) := by decide +kernel
theorem dX12_hire_18 : decode cX12_hire 18 = .ok (.ifCond .ne 9, 3) := by decide +kernel
theorem dX12_hire_21 : decode cX12_hire 21 = .ok (.aload_n 0, 1) := by decide +kernel
theorem dX12_hire_22 : decode cX12_hire 22 = .ok (.iconst 1, 1) := by decide +kernel
theorem dX12_hire_23 : decode cX12_hire 23 = .ok (.invokevirtual 415, 3) := by decide +kernel
theorem dX12_hire_26 : decode cX12_hire 26 = .ok (.ireturn, 1) := by decide +kernel
theorem dX12_hire_27 : decode cX12_hire 27 = .ok (.aload_n 0, 1) := by decide +kernel
theorem dX12_hire_28 : decode cX12_hire 28 = .ok (.iload_n 2, 1) := by decide +kernel
theorem dX12_hire_29 : decode cX12_hire 29 = .ok (.invokevirtual 369, 3) := by decide +kernel
theorem dX12_hire_32 : decode cX12_hire 32 = .ok (.iconst (-1), 1) := by decide +kernel
theorem dX12_hire_33 : decode cX12_hire 33 = .ok (.if_icmp .eq 8, 3) := by decide +kernel
theorem dX12_hire_36 : decode cX12_hire 36 = .ok (.aload_n 0, 1) := by decide +kernel
theorem dX12_hire_37 : decode cX12_hire 37 = .ok (.invokevirtual 418, 3) := by decide +kernel
theorem dX12_hire_40 : decode cX12_hire 40 = .ok (.ireturn, 1) := by decide +kernel
theorem dX12_hire_41 : decode cX12_hire 41 = .ok (.aload_n 0, 1) := by decide +kernel
theorem dX12_hire_42 : decode cX12_hire 42 = .ok (.invokevirtual 409, 3) := by decide +kernel
theorem dX12_hire_45 : decode cX12_hire 45 = .ok (.aload_n 0, 1) := by decide +kernel
theorem dX12_hire_46 : decode cX12_hire 46 = .ok (.getfield 95, 3) := by decide +kernel
theorem dX12_hire_49 : decode cX12_hire 49 = .ok (.iload_n 1, 1) := by decide +kernel
theorem dX12_hire_50 : decode cX12_hire 50 = .ok (.iload_n 2, 1) := by decide +kernel
theorem dX12_hire_51 : decode cX12_hire 51 = .ok (.iastore, 1) := by decide +kernel
theorem dX12_hire_52 : decode cX12_hire 52 = .ok (.iconst 1, 1) := by decide +kernel
theorem dX12_hire_53 : decode cX12_hire 53 = .ok (.ireturn, 1) := by decide +kernel
theorem dX12_dismiss_0 : decode cX12_dismiss 0 = .ok (.aload_n 0, 1) := by decide +kernel
theorem dX12_dismiss_1 : decode cX12_dismiss 1 = .ok (.iconst 0, 1) := by decide +kernel
theorem dX12_dismiss_2 : decode cX12_dismiss 2 = .ok (.putfield 155, 3) := by decide +kernel
theorem dX12_dismiss_5 : decode cX12_dismiss 5 = .ok (.aload_n 0, 1) := by decide +kernel
theorem dX12_dismiss_6 : decode cX12_dismiss 6 = .ok (.iload_n 1, 1) := by decide +kernel
theorem dX12_dismiss_7 : decode cX12_dismiss 7 = .ok (.invokevirtual 401, 3) := by decide +kernel
theorem dX12_dismiss_10 : decode cX12_dismiss 10 = .ok (.ifCond .ne 9, 3) := by decide +kernel
theorem dX12_dismiss_13 : decode cX12_dismiss 13 = .ok (.aload_n 0, 1) := by decide +kernel
theorem dX12_dismiss_14 : decode cX12_dismiss 14 = .ok (.iconst 1, 1) := by decide +kernel
theorem dX12_dismiss_15 : decode cX12_dismiss 15 = .ok (.invokevirtual 308, 3) := by decide +kernel
theorem dX12_dismiss_18 : decode cX12_dismiss 18 = .ok (.ireturn, 1) := by decide +kernel
theorem dX12_dismiss_19 : decode cX12_dismiss 19 = .ok (.aload_n 0, 1) := by decide +kernel
theorem dX12_dismiss_20 : decode cX12_dismiss 20 = .ok (.getfield 95, 3) := by decide +kernel
theorem dX12_dismiss_23 : decode cX12_dismiss 23 = .ok (.iload_n 1, 1) := by decide +kernel
theorem dX12_dismiss_24 : decode cX12_dismiss 24 = .ok (.iaload, 1) := by decide +kernel
theorem dX12_dismiss_25 : decode cX12_dismiss 25 = .ok (.istore_n 2, 1) := by decide +kernel
theorem dX12_dismiss_26 : decode cX12_dismiss 26 = .ok (.iload_n 2, 1) := by decide +kernel
theorem dX12_dismiss_27 : decode cX12_dismiss 27 = .ok (.iconst (-1), 1) := by decide +kernel
theorem dX12_dismiss_28 : decode cX12_dismiss 28 = .ok (.if_icmp .ne 9, 3) := by decide +kernel
theorem dX12_dismiss_31 : decode cX12_dismiss 31 = .ok (.aload_n 0, 1) := by decide +kernel
theorem dX12_dismiss_32 : decode cX12_dismiss 32 = .ok (.iconst 1, 1) := by decide +kernel
theorem dX12_dismiss_33 : decode cX12_dismiss 33 = .ok (.invokevirtual 406, 3) := by decide +kernel
theorem dX12_dismiss_36 : decode cX12_dismiss 36 = .ok (.ireturn, 1) := by decide +kernel
theorem dX12_dismiss_37 : decode cX12_dismiss 37 = .ok (.aload_n 0, 1) := by decide +kernel
theorem dX12_dismiss_38 : decode cX12_dismiss 38 = .ok (.invokevirtual 409, 3) := by decide +kernel
theorem dX12_dismiss_41 : decode cX12_dismiss 41 = .ok (.aload_n 0, 1) := by decide +kernel
theorem dX12_dismiss_42 : decode cX12_dismiss 42 = .ok (.getfield 95, 3) := by decide +kernel
theorem dX12_dismiss_45 : decode cX12_dismiss 45 = .ok (.iload_n 1, 1) := by decide +kernel
theorem dX12_dismiss_46 : decode cX12_dismiss 46 = .ok (.iconst (-1), 1) := by decide +kernel
theorem dX12_dismiss_47 : decode cX12_dismiss 47 = .ok (.iastore, 1) := by decide +kernel
theorem dX12_dismiss_48 : decode cX12_dismiss 48 = .ok (.iload_n 2, 1) := by decide +kernel
theorem dX12_dismiss_49 : decode cX12_dismiss 49 = .ok (.ireturn, 1) := by decide +kernel
theorem dX12_canConfess_0 : decode cX12_canConfess 0 = .ok (.aload_n 0, 1) := by decide +kernel
theorem dX12_canConfess_1 : decode cX12_canConfess 1 = .ok (.getfield 90, 3) := by decide +kernel
theorem dX12_canConfess_4 : decode cX12_canConfess 4 = .ok (.iload_n 1, 1) := by decide +kernel
theorem dX12_canConfess_5 : decode cX12_canConfess 5 = .ok (.iaload, 1) := by decide +kernel
theorem dX12_canConfess_6 : decode cX12_canConfess 6 = .ok (.bipush 50, 2) := by decide +kernel
theorem dX12_canConfess_8 : decode cX12_canConfess 8 = .ok (.if_icmp .lt 7, 3) := by decide +kernel
theorem dX12_canConfess_11 : decode cX12_canConfess 11 = .ok (.iconst 1, 1) := by decide +kernel
theorem dX12_canConfess_12 : decode cX12_canConfess 12 = .ok (.goto 4, 3) := by decide +kernel
theorem dX12_canConfess_15 : decode cX12_canConfess 15 = .ok (.iconst 0, 1) := by decide +kernel
theorem dX12_canConfess_16 : decode cX12_canConfess 16 = .ok (.ireturn, 1) := by decide +kernel
theorem dX12_doConfess_0 : decode cX12_doConfess 0 = .ok (.aload_n 0, 1) := by decide +kernel
theorem dX12_doConfess_1 : decode cX12_doConfess 1 = .ok (.getfield 90, 3) := by decide +kernel
theorem dX12_doConfess_4 : decode cX12_doConfess 4 = .ok (.iload_n 1, 1) := by decide +kernel
theorem dX12_doConfess_5 : decode cX12_doConfess 5 = .ok (.dup2, 1) := by decide +kernel
theorem dX12_doConfess_6 : decode cX12_doConfess 6 = .ok (.iaload, 1) := by decide +kernel
theorem dX12_doConfess_7 : decode cX12_doConfess 7 = .ok (.bipush 50, 2) := by decide +kernel
theorem dX12_doConfess_9 : decode cX12_doConfess 9 = .ok (.isub, 1) := by decide +kernel
theorem dX12_doConfess_10 : decode cX12_doConfess 10 = .ok (.iastore, 1) := by decide +kernel
theorem dX12_doConfess_11 : decode cX12_doConfess 11 = .ok (.aload_n 0, 1) := by decide +kernel
theorem dX12_doConfess_12 : decode cX12_doConfess 12 = .ok (.getfield 88, 3) := by decide +kernel
theorem dX12_doConfess_15 : decode cX12_doConfess 15 = .ok (.iload_n 1, 1) := by decide +kernel
theorem dX12_doConfess_16 : decode cX12_doConfess 16 = .ok (.dup2, 1) := by decide +kernel
theorem dX12_doConfess_17 : decode cX12_doConfess 17 = .ok (.iaload, 1) := by decide +kernel
theorem dX12_doConfess_18 : decode cX12_doConfess 18 = .ok (.iconst 2, 1) := by decide +kernel
theorem dX12_doConfess_19 : decode cX12_doConfess 19 = .ok (.idiv, 1) := by decide +kernel
theorem dX12_doConfess_20 : decode cX12_doConfess 20 = .ok (.iastore, 1) := by decide +kernel
theorem dX12_doConfess_21 : decode cX12_doConfess 21 = .ok (.return_, 1) := by decide +kernel
theorem dX12_confess_0 : decode cX12_confess 0 = .ok (.aload_n 0, 1) := by decide +kernel
theorem dX12_confess_1 : decode cX12_confess 1 = .ok (.iconst 0, 1) := by decide +kernel
theorem dX12_confess_2 : decode cX12_confess 2 = .ok (.putfield 155, 3) := by decide +kernel
theorem dX12_confess_5 : decode cX12_confess 5 = .ok (.aload_n 0, 1) := by decide +kernel
theorem dX12_confess_6 : decode cX12_confess 6 = .ok (.iload_n 1, 1) := by decide +kernel
theorem dX12_confess_7 : decode cX12_confess 7 = .ok (.invokevirtual 401, 3) := by decide +kernel
theorem dX12_confess_10 : decode cX12_confess 10 = .ok (.ifCond .ne 9, 3) := by decide +kernel
theorem dX12_confess_13 : decode cX12_confess 13 = .ok (.aload_n 0, 1) := by decide +kernel
theorem dX12_confess_14 : decode cX12_confess 14 = .ok (.iconst 1, 1) := by decide +kernel
theorem dX12_confess_15 : decode cX12_confess 15 = .ok (.invokevirtual 308, 3) := by decide +kernel
theorem dX12_confess_18 : decode cX12_confess 18 = .ok (.ireturn, 1) := by decide +kernel
theorem dX12_confess_19 : decode cX12_confess 19 = .ok (.aload_n 0, 1) := by decide +kernel
theorem dX12_confess_20 : decode cX12_confess 20 = .ok (.iload_n 1, 1) := by decide +kernel
theorem dX12_confess_21 : decode cX12_confess 21 = .ok (.invokevirtual 422, 3) := by decide +kernel
theorem dX12_confess_24 : decode cX12_confess 24 = .ok (.ifCond .ne 9, 3) := by decide +kernel
theorem dX12_confess_27 : decode cX12_confess 27 = .ok (.aload_n 0, 1) := by decide +kernel
theorem dX12_confess_28 : decode cX12_confess 28 = .ok (.iconst 1, 1) := by decide +kernel
theorem dX12_confess_29 : decode cX12_confess 29 = .ok (.invokevirtual 406, 3) := by decide +kernel
theorem dX12_confess_32 : decode cX12_confess 32 = .ok (.ireturn, 1) := by decide +kernel
theorem dX12_confess_33 : decode cX12_confess 33 = .ok (.aload_n 0, 1) := by decide +kernel
theorem dX12_confess_34 : decode cX12_confess 34 = .ok (.invokevirtual 409, 3) := by decide +kernel
theorem dX12_confess_37 : decode cX12_confess 37 = .ok (.aload_n 0, 1) := by decide +kernel
theorem dX12_confess_38 : decode cX12_confess 38 = .ok (.iload_n 1, 1) := by decide +kernel
theorem dX12_confess_39 : decode cX12_confess 39 = .ok (.invokevirtual 425, 3) := by decide +kernel
theorem dX12_confess_42 : decode cX12_confess 42 = .ok (.aload_n 0, 1) := by decide +kernel
theorem dX12_confess_43 : decode cX12_confess 43 = .ok (.getfield 88, 3) := by decide +kernel
theorem dX12_confess_46 : decode cX12_confess 46 = .ok (.iload_n 1, 1) := by decide +kernel
theorem dX12_confess_47 : decode cX12_confess 47 = .ok (.iaload, 1) := by decide +kernel
theorem dX12_confess_48 : decode cX12_confess 48 = .ok (.ireturn, 1) := by decide +kernel
theorem dX12_drain_0 : decode cX12_drain 0 = .ok (.aload_n 0, 1) := by decide +kernel
theorem dX12_drain_1 : decode cX12_drain 1 = .ok (.iconst 0, 1) := by decide +kernel
theorem dX12_drain_2 : decode cX12_drain 2 = .ok (.putfield 155, 3) := by decide +kernel
theorem dX12_drain_5 : decode cX12_drain 5 = .ok (.aload_n 0, 1) := by decide +kernel
theorem dX12_drain_6 : decode cX12_drain 6 = .ok (.iload_n 1, 1) := by decide +kernel
theorem dX12_drain_7 : decode cX12_drain 7 = .ok (.invokevirtual 395, 3) := by decide +kernel
theorem dX12_drain_10 : decode cX12_drain 10 = .ok (.ifCond .ne 9, 3) := by decide +kernel
theorem dX12_drain_13 : decode cX12_drain 13 = .ok (.aload_n 0, 1) := by decide +kernel
theorem dX12_drain_14 : decode cX12_drain 14 = .ok (.iconst 1, 1) := by decide +kernel
theorem dX12_drain_15 : decode cX12_drain 15 = .ok (.invokevirtual 415, 3) := by decide +kernel
theorem dX12_drain_18 : decode cX12_drain 18 = .ok (.ireturn, 1) := by decide +kernel
theorem dX12_drain_19 : decode cX12_drain 19 = .ok (.aload_n 0, 1) := by decide +kernel
theorem dX12_drain_20 : decode cX12_drain 20 = .ok (.getfield 324, 3) := by decide +kernel
theorem dX12_drain_23 : decode cX12_drain 23 = .ok (.iload_n 1, 1) := by decide +kernel
theorem dX12_drain_24 : decode cX12_drain 24 = .ok (.invokestatic 285, 3) := by decide +kernel
theorem dX12_drain_27 : decode cX12_drain 27 = .ok (.iload_n 2, 1) := by decide +kernel
theorem dX12_drain_28 : decode cX12_drain 28 = .ok (.if_icmp .ne 8, 3) := by decide +kernel
theorem dX12_drain_31 : decode cX12_drain 31 = .ok (.aload_n 0, 1) := by decide +kernel
theorem dX12_drain_32 : decode cX12_drain 32 = .ok (.invokevirtual 418, 3) := by decide +kernel
theorem dX12_drain_35 : decode cX12_drain 35 = .ok (.ireturn, 1) := by decide +kernel
theorem dX12_drain_36 : decode cX12_drain 36 = .ok (.aload_n 0, 1) := by decide +kernel
theorem dX12_drain_37 : decode cX12_drain 37 = .ok (.invokevirtual 409, 3) := by decide +kernel
theorem dX12_drain_40 : decode cX12_drain 40 = .ok (.aload_n 0, 1) := by decide +kernel
theorem dX12_drain_41 : decode cX12_drain 41 = .ok (.dup, 1) := by decide +kernel
theorem dX12_drain_42 : decode cX12_drain 42 = .ok (.getfield 324, 3) := by decide +kernel
theorem dX12_drain_45 : decode cX12_drain 45 = .ok (.iconst 1, 1) := by decide +kernel
theorem dX12_drain_46 : decode cX12_drain 46 = .ok (.iload_n 1, 1) := by decide +kernel
theorem dX12_drain_47 : decode cX12_drain 47 = .ok (.ishl, 1) := by decide +kernel
theorem dX12_drain_48 : decode cX12_drain 48 = .ok (.ixor, 1) := by decide +kernel
theorem dX12_drain_49 : decode cX12_drain 49 = .ok (.putfield 324, 3) := by decide +kernel
theorem dX12_drain_52 : decode cX12_drain 52 = .ok (.iconst 1, 1) := by decide +kernel
theorem dX12_drain_53 : decode cX12_drain 53 = .ok (.ireturn, 1) := by decide +kernel
theorem dX12_give_0 : decode cX12_give 0 = .ok (.aload_n 0, 1) := by decide +kernel
theorem dX12_give_1 : decode cX12_give 1 = .ok (.iconst 0, 1) := by decide +kernel
theorem dX12_give_2 : decode cX12_give 2 = .ok (.putfield 155, 3) := by decide +kernel
theorem dX12_give_5 : decode cX12_give 5 = .ok (.aload_n 0, 1) := by decide +kernel
theorem dX12_give_6 : decode cX12_give 6 = .ok (.iload_n 1, 1) := by decide +kernel
theorem dX12_give_7 : decode cX12_give 7 = .ok (.invokevirtual 401, 3) := by decide +kernel
theorem dX12_give_10 : decode cX12_give 10 = .ok (.ifCond .ne 9, 3) := by decide +kernel
theorem dX12_give_13 : decode cX12_give 13 = .ok (.aload_n 0, 1) := by decide +kernel
theorem dX12_give_14 : decode cX12_give 14 = .ok (.iconst 1, 1) := by decide +kernel
theorem dX12_give_15 : decode cX12_give 15 = .ok (.invokevirtual 308, 3) := by decide +kernel
theorem dX12_give_18 : decode cX12_give 18 = .ok (.ireturn, 1) := by decide +kernel
theorem dX12_give_19 : decode cX12_give 19 = .ok (.iload_n 2, 1) := by decide +kernel
theorem dX12_give_20 : decode cX12_give 20 = .ok (.i2l, 1) := by decide +kernel
theorem dX12_give_21 : decode cX12_give 21 = .ok (.lconst 1, 1) := by decide +kernel
theorem dX12_give_22 : decode cX12_give 22 = .ok (.ldc2_w 428, 3) := by decide +kernel
theorem dX12_give_25 : decode cX12_give 25 = .ok (.invokestatic 158, 3) := by decide +kernel
theorem dX12_give_28 : decode cX12_give 28 = .ok (.ifCond .ne 9, 3) := by decide +kernel
theorem dX12_give_31 : decode cX12_give 31 = .ok (.aload_n 0, 1) := by decide +kernel
theorem dX12_give_32 : decode cX12_give 32 = .ok (.iconst 1, 1) := by decide +kernel
theorem dX12_give_33 : decode cX12_give 33 = .ok (.invokevirtual 406, 3) := by decide +kernel
theorem dX12_give_36 : decode cX12_give 36 = .ok (.ireturn, 1) := by decide +kernel
theorem dX12_give_37 : decode cX12_give 37 = .ok (.aload_n 0, 1) := by decide +kernel
theorem dX12_give_38 : decode cX12_give 38 = .ok (.invokevirtual 409, 3) := by decide +kernel
theorem dX12_give_41 : decode cX12_give 41 = .ok (.aload_n 0, 1) := by decide +kernel
theorem dX12_give_42 : decode cX12_give 42 = .ok (.getfield 90, 3) := by decide +kernel
theorem dX12_give_45 : decode cX12_give 45 = .ok (.iload_n 1, 1) := by decide +kernel
theorem dX12_give_46 : decode cX12_give 46 = .ok (.sipush 999, 3) := by decide +kernel
theorem dX12_give_49 : decode cX12_give 49 = .ok (.aload_n 0, 1) := by decide +kernel
theorem dX12_give_50 : decode cX12_give 50 = .ok (.getfield 90, 3) := by decide +kernel
theorem dX12_give_53 : decode cX12_give 53 = .ok (.iload_n 1, 1) := by decide +kernel
theorem dX12_give_54 : decode cX12_give 54 = .ok (.iaload, 1) := by decide +kernel
theorem dX12_give_55 : decode cX12_give 55 = .ok (.iload_n 2, 1) := by decide +kernel
theorem dX12_give_56 : decode cX12_give 56 = .ok (.iadd, 1) := by decide +kernel
theorem dX12_give_57 : decode cX12_give 57 = .ok (.invokestatic 192, 3) := by decide +kernel
theorem dX12_give_60 : decode cX12_give 60 = .ok (.iastore, 1) := by decide +kernel
theorem dX12_give_61 : decode cX12_give 61 = .ok (.aload_n 0, 1) := by decide +kernel
theorem dX12_give_62 : decode cX12_give 62 = .ok (.getfield 90, 3) := by decide +kernel
theorem dX12_give_65 : decode cX12_give 65 = .ok (.iload_n 1, 1) := by decide +kernel
theorem dX12_give_66 : decode cX12_give 66 = .ok (.iaload, 1) := by decide +kernel
theorem dX12_give_67 : decode cX12_give 67 = .ok (.ireturn, 1) := by decide +kernel
theorem dX12_undo_0 : decode cX12_undo 0 = .ok (.aload_n 0, 1) := by decide +kernel
theorem dX12_undo_1 : decode cX12_undo 1 = .ok (.iconst 0, 1) := by decide +kernel
theorem dX12_undo_2 : decode cX12_undo 2 = .ok (.putfield 155, 3) := by decide +kernel
theorem dX12_undo_5 : decode cX12_undo 5 = .ok (.aload_n 0, 1) := by decide +kernel
theorem dX12_undo_6 : decode cX12_undo 6 = .ok (.getfield 327, 3) := by decide +kernel
theorem dX12_undo_9 : decode cX12_undo 9 = .ok (.ifCond .ne 5, 3) := by decide +kernel
theorem dX12_undo_12 : decode cX12_undo 12 = .ok (.iconst (-1), 1) := by decide +kernel
theorem dX12_undo_13 : decode cX12_undo 13 = .ok (.ireturn, 1) := by decide +kernel
theorem dX12_undo_14 : decode cX12_undo 14 = .ok (.aload_n 0, 1) := by decide +kernel
theorem dX12_undo_15 : decode cX12_undo 15 = .ok (.dup, 1) := by decide +kernel
theorem dX12_undo_16 : decode cX12_undo 16 = .ok (.getfield 327, 3) := by decide +kernel
theorem dX12_undo_19 : decode cX12_undo 19 = .ok (.iconst 1, 1) := by decide +kernel
theorem dX12_undo_20 : decode cX12_undo 20 = .ok (.isub, 1) := by decide +kernel
theorem dX12_undo_21 : decode cX12_undo 21 = .ok (.putfield 327, 3) := by decide +kernel
theorem dX12_undo_24 : decode cX12_undo 24 = .ok (.aload_n 0, 1) := by decide +kernel
theorem dX12_undo_25 : decode cX12_undo 25 = .ok (.aload_n 0, 1) := by decide +kernel
theorem dX12_undo_26 : decode cX12_undo 26 = .ok (.getfield 98, 3) := by decide +kernel
theorem dX12_undo_29 : decode cX12_undo 29 = .ok (.bipush 26, 2) := by decide +kernel
theorem dX12_undo_31 : decode cX12_undo 31 = .ok (.aload_n 0, 1) := by decide +kernel
theorem dX12_undo_32 : decode cX12_undo 32 = .ok (.getfield 327, 3) := by decide +kernel
theorem dX12_undo_35 : decode cX12_undo 35 = .ok (.imul, 1) := by decide +kernel
theorem dX12_undo_36 : decode cX12_undo 36 = .ok (.invokevirtual 392, 3) := by decide +kernel
theorem dX12_undo_39 : decode cX12_undo 39 = .ok (.aload_n 0, 1) := by decide +kernel
theorem dX12_undo_40 : decode cX12_undo 40 = .ok (.getfield 327, 3) := by decide +kernel
theorem dX12_undo_43 : decode cX12_undo 43 = .ok (.ireturn, 1) := by decide +kernel
theorem dX12_then_0 : decode cX12_then 0 = .ok (.aload_n 0, 1) := by decide +kernel
theorem dX12_then_1 : decode cX12_then 1 = .ok (.iconst 0, 1) := by decide +kernel
theorem dX12_then_2 : decode cX12_then 2 = .ok (.putfield 155, 3) := by decide +kernel
theorem dX12_then_5 : decode cX12_then 5 = .ok (.aload_n 0, 1) := by decide +kernel
theorem dX12_then_6 : decode cX12_then 6 = .ok (.iload_n 1, 1) := by decide +kernel
theorem dX12_then_7 : decode cX12_then 7 = .ok (.invokevirtual 401, 3) := by decide +kernel
theorem dX12_then_10 : decode cX12_then 10 = .ok (.ifCond .eq 15, 3) := by decide +kernel
theorem dX12_then_13 : decode cX12_then 13 = .ok (.iload_n 3, 1) := by decide +kernel
theorem dX12_then_14 : decode cX12_then 14 = .ok (.i2l, 1) := by decide +kernel
theorem dX12_then_15 : decode cX12_then 15 = .ok (.lconst 0, 1) := by decide +kernel
theorem dX12_then_16 : decode cX12_then 16 = .ok (.ldc2_w 430, 3) := by decide +kernel
theorem dX12_then_19 : decode cX12_then 19 = .ok (.invokestatic 158, 3) := by decide +kernel
theorem dX12_then_22 : decode cX12_then 22 = .ok (.ifCond .ne 9, 3) := by decide +kernel
theorem dX12_then_25 : decode cX12_then 25 = .ok (.aload_n 0, 1) := by decide +kernel
theorem dX12_then_26 : decode cX12_then 26 = .ok (.iconst 1, 1) := by decide +kernel
theorem dX12_then_27 : decode cX12_then 27 = .ok (.invokevirtual 308, 3) := by decide +kernel
theorem dX12_then_30 : decode cX12_then 30 = .ok (.ireturn, 1) := by decide +kernel
theorem dX12_then_31 : decode cX12_then 31 = .ok (.iload_n 2, 1) := by decide +kernel
theorem dX12_then_32 : decode cX12_then 32 = .ok (.i2l, 1) := by decide +kernel
theorem dX12_then_33 : decode cX12_then 33 = .ok (.lconst 0, 1) := by decide +kernel
theorem dX12_then_34 : decode cX12_then 34 = .ok (.ldc2_w 432, 3) := by decide +kernel
theorem dX12_then_37 : decode cX12_then 37 = .ok (.invokestatic 158, 3) := by decide +kernel
theorem dX12_then_40 : decode cX12_then 40 = .ok (.ifCond .ne 9, 3) := by decide +kernel
theorem dX12_then_43 : decode cX12_then 43 = .ok (.aload_n 0, 1) := by decide +kernel
theorem dX12_then_44 : decode cX12_then 44 = .ok (.iconst 2, 1) := by decide +kernel
theorem dX12_then_45 : decode cX12_then 45 = .ok (.invokevirtual 308, 3) := by decide +kernel
theorem dX12_then_48 : decode cX12_then 48 = .ok (.ireturn, 1) := by decide +kernel
theorem dX12_then_49 : decode cX12_then 49 = .ok (.aload_n 0, 1) := by decide +kernel
theorem dX12_then_50 : decode cX12_then 50 = .ok (.aload_n 0, 1) := by decide +kernel
theorem dX12_then_51 : decode cX12_then 51 = .ok (.getfield 110, 3) := by decide +kernel
theorem dX12_then_54 : decode cX12_then 54 = .ok (.iconst 0, 1) := by decide +kernel
theorem dX12_then_55 : decode cX12_then 55 = .ok (.invokevirtual 388, 3) := by decide +kernel
theorem dX12_then_58 : decode cX12_then 58 = .ok (.aload_n 0, 1) := by decide +kernel
theorem dX12_then_59 : decode cX12_then 59 = .ok (.iload_n 2, 1) := by decide +kernel
theorem dX12_then_60 : decode cX12_then 60 = .ok (.invokevirtual 412, 3) := by decide +kernel
theorem dX12_then_63 : decode cX12_then 63 = .ok (.iload_n 3, 1) := by decide +kernel
theorem dX12_then_64 : decode cX12_then 64 = .ok (.ifCond .ne 12, 3) := by decide +kernel
theorem dX12_then_67 : decode cX12_then 67 = .ok (.aload_n 0, 1) := by decide +kernel
theorem dX12_then_68 : decode cX12_then 68 = .ok (.getfield 88, 3) := by decide +kernel
theorem dX12_then_71 : decode cX12_then 71 = .ok (.iload_n 1, 1) := by decide +kernel
theorem dX12_then_72 : decode cX12_then 72 = .ok (.iaload, 1) := by decide +kernel
theorem dX12_then_73 : decode cX12_then 73 = .ok (.goto 37, 3) := by decide +kernel
theorem dX12_then_76 : decode cX12_then 76 = .ok (.iload_n 3, 1) := by decide +kernel
theorem dX12_then_77 : decode cX12_then 77 = .ok (.iconst 1, 1) := by decide +kernel
theorem dX12_then_78 : decode cX12_then 78 = .ok (.if_icmp .ne 12, 3) := by decide +kernel
theorem dX12_then_81 : decode cX12_then 81 = .ok (.aload_n 0, 1) := by decide +kernel
theorem dX12_then_82 : decode cX12_then 82 = .ok (.getfield 90, 3) := by decide +kernel
theorem dX12_then_85 : decode cX12_then 85 = .ok (.iload_n 1, 1) := by decide +kernel
theorem dX12_then_86 : decode cX12_then 86 = .ok (.iaload, 1) := by decide +kernel
theorem dX12_then_87 : decode cX12_then 87 = .ok (.goto 23, 3) := by decide +kernel
theorem dX12_then_90 : decode cX12_then 90 = .ok (.iload_n 3, 1) := by decide +kernel
theorem dX12_then_91 : decode cX12_then 91 = .ok (.iconst 2, 1) := by decide +kernel
theorem dX12_then_92 : decode cX12_then 92 = .ok (.if_icmp .ne 12, 3) := by decide +kernel
theorem dX12_then_95 : decode cX12_then 95 = .ok (.aload_n 0, 1) := by decide +kernel
theorem dX12_then_96 : decode cX12_then 96 = .ok (.getfield 92, 3) := by decide +kernel
theorem dX12_then_99 : decode cX12_then 99 = .ok (.iload_n 1, 1) := by decide +kernel
theorem dX12_then_100 : decode cX12_then 100 = .ok (.iaload, 1) := by decide +kernel
theorem dX12_then_101 : decode cX12_then 101 = .ok (.goto 9, 3) := by decide +kernel
theorem dX12_then_104 : decode cX12_then 104 = .ok (.aload_n 0, 1) := by decide +kernel
theorem dX12_then_105 : decode cX12_then 105 = .ok (.getfield 95, 3) := by decide +kernel
theorem dX12_then_108 : decode cX12_then 108 = .ok (.iload_n 1, 1) := by decide +kernel
theorem dX12_then_109 : decode cX12_then 109 = .ok (.iaload, 1) := by decide +kernel
theorem dX12_then_110 : decode cX12_then 110 = .ok (.istore 4, 2) := by decide +kernel
theorem dX12_then_112 : decode cX12_then 112 = .ok (.aload_n 0, 1) := by decide +kernel
theorem dX12_then_113 : decode cX12_then 113 = .ok (.aload_n 0, 1) := by decide +kernel
theorem dX12_then_114 : decode cX12_then 114 = .ok (.getfield 110, 3) := by decide +kernel
theorem dX12_then_117 : decode cX12_then 117 = .ok (.iconst 0, 1) := by decide +kernel
theorem dX12_then_118 : decode cX12_then 118 = .ok (.invokevirtual 392, 3) := by decide +kernel
theorem dX12_then_121 : decode cX12_then 121 = .ok (.iload 4, 2) := by decide +kernel
theorem dX12_then_123 : decode cX12_then 123 = .ok (.ireturn, 1) := by decide +kernel
theorem dX12_dripping_0 : decode cX12_dripping 0 = .ok (.aload_n 0, 1) := by decide +kernel
theorem dX12_dripping_1 : decode cX12_dripping 1 = .ok (.iconst 0, 1) := by decide +kernel
theorem dX12_dripping_2 : decode cX12_dripping 2 = .ok (.putfield 155, 3) := by decide +kernel
theorem dX12_dripping_5 : decode cX12_dripping 5 = .ok (.iload_n 1, 1) := by decide +kernel
theorem dX12_dripping_6 : decode cX12_dripping 6 = .ok (.i2l, 1) := by decide +kernel
theorem dX12_dripping_7 : decode cX12_dripping 7 = .ok (.lconst 1, 1) := by decide +kernel
theorem dX12_dripping_8 : decode cX12_dripping 8 = .ok (.ldc2_w 432, 3) := by decide +kernel
theorem dX12_dripping_11 : decode cX12_dripping 11 = .ok (.invokestatic 158, 3) := by decide +kernel
theorem dX12_dripping_14 : decode cX12_dripping 14 = .ok (.ifCond .ne 9, 3) := by decide +kernel
theorem dX12_dripping_17 : decode cX12_dripping 17 = .ok (.aload_n 0, 1) := by decide +kernel
theorem dX12_dripping_18 : decode cX12_dripping 18 = .ok (.iconst 1, 1) := by decide +kernel
theorem dX12_dripping_19 : decode cX12_dripping 19 = .ok (.invokevirtual 308, 3) := by decide +kernel
theorem dX12_dripping_22 : decode cX12_dripping 22 = .ok (.ireturn, 1) := by decide +kernel
theorem dX12_dripping_23 : decode cX12_dripping 23 = .ok (.aload_n 0, 1) := by decide +kernel
theorem dX12_dripping_24 : decode cX12_dripping 24 = .ok (.aload_n 0, 1) := by decide +kernel
theorem dX12_dripping_25 : decode cX12_dripping 25 = .ok (.getfield 110, 3) := by decide +kernel
theorem dX12_dripping_28 : decode cX12_dripping 28 = .ok (.iconst 0, 1) := by decide +kernel
theorem dX12_dripping_29 : decode cX12_dripping 29 = .ok (.invokevirtual 388, 3) := by decide +kernel
theorem dX12_dripping_32 : decode cX12_dripping 32 = .ok (.aload_n 0, 1) := by decide +kernel
theorem dX12_dripping_33 : decode cX12_dripping 33 = .ok (.dup, 1) := by decide +kernel
theorem dX12_dripping_34 : decode cX12_dripping 34 = .ok (.getfield 321, 3) := by decide +kernel
theorem dX12_dripping_37 : decode cX12_dripping 37 = .ok (.iload_n 1, 1) := by decide +kernel
theorem dX12_dripping_38 : decode cX12_dripping 38 = .ok (.iconst 1, 1) := by decide +kernel
theorem dX12_dripping_39 : decode cX12_dripping 39 = .ok (.isub, 1) := by decide +kernel
theorem dX12_dripping_40 : decode cX12_dripping 40 = .ok (.iadd, 1) := by decide +kernel
theorem dX12_dripping_41 : decode cX12_dripping 41 = .ok (.putfield 321, 3) := by decide +kernel
theorem dX12_dripping_44 : decode cX12_dripping 44 = .ok (.aload_n 0, 1) := by decide +kernel
theorem dX12_dripping_45 : decode cX12_dripping 45 = .ok (.invokevirtual 360, 3) := by decide +kernel
theorem dX12_dripping_48 : decode cX12_dripping 48 = .ok (.istore_n 2, 1) := by decide +kernel
theorem dX12_dripping_49 : decode cX12_dripping 49 = .ok (.aload_n 0, 1) := by decide +kernel
theorem dX12_dripping_50 : decode cX12_dripping 50 = .ok (.aload_n 0, 1) := by decide +kernel
theorem dX12_dripping_51 : decode cX12_dripping 51 = .ok (.getfield 110, 3) := by decide +kernel
theorem dX12_dripping_54 : decode cX12_dripping 54 = .ok (.iconst 0, 1) := by decide +kernel
theorem dX12_dripping_55 : decode cX12_dripping 55 = .ok (.invokevirtual 392, 3) := by decide +kernel
theorem dX12_dripping_58 : decode cX12_dripping 58 = .ok (.iload_n 2, 1) := by decide +kernel
theorem dX12_dripping_59 : decode cX12_dripping 59 = .ok (.ireturn, 1) := by decide +kernel
theorem dX12_first_0 : decode cX12_first 0 = .ok (.aload_n 0, 1) := by decide +kernel
theorem dX12_first_1 : decode cX12_first 1 = .ok (.iconst 0, 1) := by decide +kernel
theorem dX12_first_2 : decode cX12_first 2 = .ok (.putfield 155, 3) := by decide +kernel
theorem dX12_first_5 : decode cX12_first 5 = .ok (.aload_n 0, 1) := by decide +kernel
theorem dX12_first_6 : decode cX12_first 6 = .ok (.iload_n 1, 1) := by decide +kernel
theorem dX12_first_7 : decode cX12_first 7 = .ok (.invokevirtual 401, 3) := by decide +kernel
theorem dX12_first_10 : decode cX12_first 10 = .ok (.ifCond .ne 9, 3) := by decide +kernel
theorem dX12_first_13 : decode cX12_first 13 = .ok (.aload_n 0, 1) := by decide +kernel
theorem dX12_first_14 : decode cX12_first 14 = .ok (.iconst 1, 1) := by decide +kernel
theorem dX12_first_15 : decode cX12_first 15 = .ok (.invokevirtual 308, 3) := by decide +kernel
theorem dX12_first_18 : decode cX12_first 18 = .ok (.ireturn, 1) := by decide +kernel
theorem dX12_first_19 : decode cX12_first 19 = .ok (.aload_n 0, 1) := by decide +kernel
theorem dX12_first_20 : decode cX12_first 20 = .ok (.aload_n 0, 1) := by decide +kernel
theorem dX12_first_21 : decode cX12_first 21 = .ok (.getfield 110, 3) := by decide +kernel
theorem dX12_first_24 : decode cX12_first 24 = .ok (.iconst 0, 1) := by decide +kernel
theorem dX12_first_25 : decode cX12_first 25 = .ok (.invokevirtual 388, 3) := by decide +kernel
theorem dX12_first_28 : decode cX12_first 28 = .ok (.iconst (-1), 1) := by decide +kernel
theorem dX12_first_29 : decode cX12_first 29 = .ok (.istore_n 2, 1) := by decide +kernel
theorem dX12_first_30 : decode cX12_first 30 = .ok (.iconst 1, 1) := by decide +kernel
theorem dX12_first_31 : decode cX12_first 31 = .ok (.istore_n 3, 1) := by decide +kernel
theorem dX12_first_32 : decode cX12_first 32 = .ok (.iload_n 3, 1) := by decide +kernel
theorem dX12_first_33 : decode cX12_first 33 = .ok (.bipush 60, 2) := by decide +kernel
theorem dX12_first_35 : decode cX12_first 35 = .ok (.if_icmp .gt 31, 3) := by decide +kernel
theorem dX12_first_38 : decode cX12_first 38 = .ok (.iload_n 2, 1) := by decide +kernel
theorem dX12_first_39 : decode cX12_first 39 = .ok (.iconst (-1), 1) := by decide +kernel
theorem dX12_first_40 : decode cX12_first 40 = .ok (.if_icmp .ne 26, 3) := by decide +kernel
theorem dX12_first_43 : decode cX12_first 43 = .ok (.aload_n 0, 1) := by decide +kernel
theorem dX12_first_44 : decode cX12_first 44 = .ok (.invokevirtual 378, 3) := by decide +kernel
theorem dX12_first_47 : decode cX12_first 47 = .ok (.aload_n 0, 1) := by decide +kernel
theorem dX12_first_48 : decode cX12_first 48 = .ok (.getfield 366, 3) := by decide +kernel
theorem dX12_first_51 : decode cX12_first 51 = .ok (.iload_n 1, 1) := by decide +kernel
theorem dX12_first_52 : decode cX12_first 52 = .ok (.invokestatic 285, 3) := by decide +kernel
theorem dX12_first_55 : decode cX12_first 55 = .ok (.ifCond .eq 5, 3) := by decide +kernel
theorem dX12_first_58 : decode cX12_first 58 = .ok (.iload_n 3, 1) := by decide +kernel
theorem dX12_first_59 : decode cX12_first 59 = .ok (.istore_n 2, 1) := by decide +kernel
theorem dX12_first_60 : decode cX12_first 60 = .ok (.iinc 3 1, 3) := by decide +kernel
theorem dX12_first_63 : decode cX12_first 63 = .ok (.goto (-31), 3) := by decide +kernel
theorem dX12_first_66 : decode cX12_first 66 = .ok (.aload_n 0, 1) := by decide +kernel
theorem dX12_first_67 : decode cX12_first 67 = .ok (.aload_n 0, 1) := by decide +kernel
theorem dX12_first_68 : decode cX12_first 68 = .ok (.getfield 110, 3) := by decide +kernel
theorem dX12_first_71 : decode cX12_first 71 = .ok (.iconst 0, 1) := by decide +kernel
theorem dX12_first_72 : decode cX12_first 72 = .ok (.invokevirtual 392, 3) := by decide +kernel
theorem dX12_first_75 : decode cX12_first 75 = .ok (.iload_n 2, 1) := by decide +kernel
theorem dX12_first_76 : decode cX12_first 76 = .ok (.ireturn, 1) := by decide +kernel
theorem dX12_dismissed_0 : decode cX12_dismissed 0 = .ok (.aload_n 0, 1) := by decide +kernel
theorem dX12_dismissed_1 : decode cX12_dismissed 1 = .ok (.iconst 0, 1) := by decide +kernel
theorem dX12_dismissed_2 : decode cX12_dismissed 2 = .ok (.putfield 155, 3) := by decide +kernel
theorem dX12_dismissed_5 : decode cX12_dismissed 5 = .ok (.aload_n 0, 1) := by decide +kernel
theorem dX12_dismissed_6 : decode cX12_dismissed 6 = .ok (.iload_n 1, 1) := by decide +kernel
theorem dX12_dismissed_7 : decode cX12_dismissed 7 = .ok (.invokevirtual 401, 3) := by decide +kernel
theorem dX12_dismissed_10 : decode cX12_dismissed 10 = .ok (.ifCond .ne 9, 3) := by decide +kernel
theorem dX12_dismissed_13 : decode cX12_dismissed 13 = .ok (.aload_n 0, 1) := by decide +kernel
theorem dX12_dismissed_14 : decode cX12_dismissed 14 = .ok (.iconst 1, 1) := by decide +kernel
theorem dX12_dismissed_15 : decode cX12_dismissed 15 = .ok (.invokevirtual 308, 3) := by decide +kernel
theorem dX12_dismissed_18 : decode cX12_dismissed 18 = .ok (.ireturn, 1) := by decide +kernel
theorem dX12_dismissed_19 : decode cX12_dismissed 19 = .ok (.aload_n 0, 1) := by decide +kernel
theorem dX12_dismissed_20 : decode cX12_dismissed 20 = .ok (.aload_n 0, 1) := by decide +kernel
theorem dX12_dismissed_21 : decode cX12_dismissed 21 = .ok (.getfield 110, 3) := by decide +kernel
theorem dX12_dismissed_24 : decode cX12_dismissed 24 = .ok (.iconst 0, 1) := by decide +kernel
theorem dX12_dismissed_25 : decode cX12_dismissed 25 = .ok (.invokevirtual 388, 3) := by decide +kernel
theorem dX12_dismissed_28 : decode cX12_dismissed 28 = .ok (.iconst (-1), 1) := by decide +kernel
theorem dX12_dismissed_29 : decode cX12_dismissed 29 = .ok (.istore_n 2, 1) := by decide +kernel
theorem dX12_dismissed_30 : decode cX12_dismissed 30 = .ok (.iconst 1, 1) := by decide +kernel
theorem dX12_dismissed_31 : decode cX12_dismissed 31 = .ok (.istore_n 3, 1) := by decide +kernel
theorem dX12_dismissed_32 : decode cX12_dismissed 32 = .ok (.iload_n 3, 1) := by decide +kernel
theorem dX12_dismissed_33 : decode cX12_dismissed 33 = .ok (.bipush 60, 2) := by decide +kernel
theorem dX12_dismissed_35 : decode cX12_dismissed 35 = .ok (.if_icmp .gt 40, 3) := by decide +kernel
theorem dX12_dismissed_38 : decode cX12_dismissed 38 = .ok (.iload_n 2, 1) := by decide +kernel
theorem dX12_dismissed_39 : decode cX12_dismissed 39 = .ok (.iconst (-1), 1) := by decide +kernel
theorem dX12_dismissed_40 : decode cX12_dismissed 40 = .ok (.if_icmp .ne 35, 3) := by decide +kernel
theorem dX12_dismissed_43 : decode cX12_dismissed 43 = .ok (.aload_n 0, 1) := by decide +kernel
theorem dX12_dismissed_44 : decode cX12_dismissed 44 = .ok (.getfield 95, 3) := by decide +kernel
theorem dX12_dismissed_47 : decode cX12_dismissed 47 = .ok (.iload_n 1, 1) := by decide +kernel
theorem dX12_dismissed_48 : decode cX12_dismissed 48 = .ok (.iaload, 1) := by decide +kernel
theorem dX12_dismissed_49 : decode cX12_dismissed 49 = .ok (.iconst (-1), 1) := by decide +kernel
theorem dX12_dismissed_50 : decode cX12_dismissed 50 = .ok (.if_icmp .eq 25, 3) := by decide +kernel
theorem dX12_dismissed_53 : decode cX12_dismissed 53 = .ok (.aload_n 0, 1) := by decide +kernel
theorem dX12_dismissed_54 : decode cX12_dismissed 54 = .ok (.invokevirtual 378, 3) := by decide +kernel
theorem dX12_dismissed_57 : decode cX12_dismissed 57 = .ok (.aload_n 0, 1) := by decide +kernel
theorem dX12_dismissed_58 : decode cX12_dismissed 58 = .ok (.getfield 95, 3) := by decide +kernel
theorem dX12_dismissed_61 : decode cX12_dismissed 61 = .ok (.iload_n 1, 1) := by decide +kernel
theorem dX12_dismissed_62 : decode cX12_dismissed 62 = .ok (.iaload, 1) := by decide +kernel
theorem dX12_dismissed_63 : decode cX12_dismissed 63 = .ok (.iconst (-1), 1) := by decide +kernel
theorem dX12_dismissed_64 : decode cX12_dismissed 64 = .ok (.if_icmp .ne 5, 3) := by decide +kernel
theorem dX12_dismissed_67 : decode cX12_dismissed 67 = .ok (.iload_n 3, 1) := by decide +kernel
theorem dX12_dismissed_68 : decode cX12_dismissed 68 = .ok (.istore_n 2, 1) := by decide +kernel
theorem dX12_dismissed_69 : decode cX12_dismissed 69 = .ok (.iinc 3 1, 3) := by decide +kernel
theorem dX12_dismissed_72 : decode cX12_dismissed 72 = .ok (.goto (-40), 3) := by decide +kernel
theorem dX12_dismissed_75 : decode cX12_dismissed 75 = .ok (.aload_n 0, 1) := by decide +kernel
theorem dX12_dismissed_76 : decode cX12_dismissed 76 = .ok (.aload_n 0, 1) := by decide +kernel
theorem dX12_dismissed_77 : decode cX12_dismissed 77 = .ok (.getfield 110, 3) := by decide +kernel
theorem dX12_dismissed_80 : decode cX12_dismissed 80 = .ok (.iconst 0, 1) := by decide +kernel
theorem dX12_dismissed_81 : decode cX12_dismissed 81 = .ok (.invokevirtual 392, 3) := by decide +kernel
theorem dX12_dismissed_84 : decode cX12_dismissed 84 = .ok (.iload_n 2, 1) := by decide +kernel
theorem dX12_dismissed_85 : decode cX12_dismissed 85 = .ok (.ireturn, 1) := by decide +kernel
theorem dX12_greatest_0 : decode cX12_greatest 0 = .ok (.iconst (-1), 1) := by decide +kernel
theorem dX12_greatest_1 : decode cX12_greatest 1 = .ok (.istore_n 2, 1) := by decide +kernel
theorem dX12_greatest_2 : decode cX12_greatest 2 = .ok (.iconst 0, 1) := by decide +kernel
theorem dX12_greatest_3 : decode cX12_greatest 3 = .ok (.istore_n 3, 1) := by decide +kernel
theorem dX12_greatest_4 : decode cX12_greatest 4 = .ok (.iload_n 3, 1) := by decide +kernel
theorem dX12_greatest_5 : decode cX12_greatest 5 = .ok (.aload_n 0, 1) := by decide +kernel
theorem dX12_greatest_6 : decode cX12_greatest 6 = .ok (.getfield 42, 3) := by decide +kernel
theorem dX12_greatest_9 : decode cX12_greatest 9 = .ok (.iconst 1, 1) := by decide +kernel
theorem dX12_greatest_10 : decode cX12_greatest 10 = .ok (.iaload, 1) := by decide +kernel
theorem dX12_greatest_11 : decode cX12_greatest 11 = .ok (.if_icmp .ge 25, 3) := by decide +kernel
theorem dX12_greatest_14 : decode cX12_greatest 14 = .ok (.iload_n 2, 1) := by decide +kernel
theorem dX12_greatest_15 : decode cX12_greatest 15 = .ok (.iconst (-1), 1) := by decide +kernel
theorem dX12_greatest_16 : decode cX12_greatest 16 = .ok (.if_icmp .eq 12, 3) := by decide +kernel
theorem dX12_greatest_19 : decode cX12_greatest 19 = .ok (.aload_n 1, 1) := by decide +kernel
theorem dX12_greatest_20 : decode cX12_greatest 20 = .ok (.iload_n 3, 1) := by decide +kernel
theorem dX12_greatest_21 : decode cX12_greatest 21 = .ok (.iaload, 1) := by decide +kernel
theorem dX12_greatest_22 : decode cX12_greatest 22 = .ok (.aload_n 1, 1) := by decide +kernel
theorem dX12_greatest_23 : decode cX12_greatest 23 = .ok (.iload_n 2, 1) := by decide +kernel
theorem dX12_greatest_24 : decode cX12_greatest 24 = .ok (.iaload, 1) := by decide +kernel
theorem dX12_greatest_25 : decode cX12_greatest 25 = .ok (.if_icmp .le 5, 3) := by decide +kernel
theorem dX12_greatest_28 : decode cX12_greatest 28 = .ok (.iload_n 3, 1) := by decide +kernel
theorem dX12_greatest_29 : decode cX12_greatest 29 = .ok (.istore_n 2, 1) := by decide +kernel
theorem dX12_greatest_30 : decode cX12_greatest 30 = .ok (.iinc 3 1, 3) := by decide +kernel
theorem dX12_greatest_33 : decode cX12_greatest 33 = .ok (.goto (-29), 3) := by decide +kernel
theorem dX12_greatest_36 : decode cX12_greatest 36 = .ok (.iload_n 2, 1) := by decide +kernel
theorem dX12_greatest_37 : decode cX12_greatest 37 = .ok (.ireturn, 1) := by decide +kernel
theorem dX12_most_0 : decode cX12_most 0 = .ok (.aload_n 0, 1) := by decide +kernel
theorem dX12_most_1 : decode cX12_most 1 = .ok (.iconst 0, 1) := by decide +kernel
theorem dX12_most_2 : decode cX12_most 2 = .ok (.putfield 155, 3) := by decide +kernel
theorem dX12_most_5 : decode cX12_most 5 = .ok (.iload_n 2, 1) := by decide +kernel
theorem dX12_most_6 : decode cX12_most 6 = .ok (.ifCond .lt 8, 3) := by decide +kernel
theorem dX12_most_9 : decode cX12_most 9 = .ok (.iload_n 2, 1) := by decide +kernel
theorem dX12_most_10 : decode cX12_most 10 = .ok (.iconst 1, 1) := by decide +kernel
theorem dX12_most_11 : decode cX12_most 11 = .ok (.if_icmp .le 9, 3) := by decide +kernel
theorem dX12_most_14 : decode cX12_most 14 = .ok (.aload_n 0, 1) := by decide +kernel
theorem dX12_most_15 : decode cX12_most 15 = .ok (.iconst 1, 1) := by decide +kernel
theorem dX12_most_16 : decode cX12_most 16 = .ok (.invokevirtual 308, 3) := by decide +kernel
theorem dX12_most_19 : decode cX12_most 19 = .ok (.ireturn, 1) := by decide +kernel
theorem dX12_most_20 : decode cX12_most 20 = .ok (.iload_n 1, 1) := by decide +kernel
theorem dX12_most_21 : decode cX12_most 21 = .ok (.i2l, 1) := by decide +kernel
theorem dX12_most_22 : decode cX12_most 22 = .ok (.lconst 0, 1) := by decide +kernel
theorem dX12_most_23 : decode cX12_most 23 = .ok (.ldc2_w 432, 3) := by decide +kernel
theorem dX12_most_26 : decode cX12_most 26 = .ok (.invokestatic 158, 3) := by decide +kernel
theorem dX12_most_29 : decode cX12_most 29 = .ok (.ifCond .ne 9, 3) := by decide +kernel
theorem dX12_most_32 : decode cX12_most 32 = .ok (.aload_n 0, 1) := by decide +kernel
theorem dX12_most_33 : decode cX12_most 33 = .ok (.iconst 2, 1) := by decide +kernel
theorem dX12_most_34 : decode cX12_most 34 = .ok (.invokevirtual 308, 3) := by decide +kernel
theorem dX12_most_37 : decode cX12_most 37 = .ok (.ireturn, 1) := by decide +kernel
theorem dX12_most_38 : decode cX12_most 38 = .ok (.aload_n 0, 1) := by decide +kernel
theorem dX12_most_39 : decode cX12_most 39 = .ok (.aload_n 0, 1) := by decide +kernel
theorem dX12_most_40 : decode cX12_most 40 = .ok (.getfield 110, 3) := by decide +kernel
theorem dX12_most_43 : decode cX12_most 43 = .ok (.iconst 0, 1) := by decide +kernel
theorem dX12_most_44 : decode cX12_most 44 = .ok (.invokevirtual 388, 3) := by decide +kernel
theorem dX12_most_47 : decode cX12_most 47 = .ok (.aload_n 0, 1) := by decide +kernel
theorem dX12_most_48 : decode cX12_most 48 = .ok (.iload_n 1, 1) := by decide +kernel
theorem dX12_most_49 : decode cX12_most 49 = .ok (.invokevirtual 412, 3) := by decide +kernel
theorem dX12_most_52 : decode cX12_most 52 = .ok (.aload_n 0, 1) := by decide +kernel
theorem dX12_most_53 : decode cX12_most 53 = .ok (.iload_n 2, 1) := by decide +kernel
theorem dX12_most_54 : decode cX12_most 54 = .ok (.ifCond .ne 10, 3) := by decide +kernel
theorem dX12_most_57 : decode cX12_most 57 = .ok (.aload_n 0, 1) := by decide +kernel
theorem dX12_most_58 : decode cX12_most 58 = .ok (.getfield 90, 3) := by decide +kernel
theorem dX12_most_61 : decode cX12_most 61 = .ok (.goto 7, 3) := by decide +kernel
theorem dX12_most_64 : decode cX12_most 64 = .ok (.aload_n 0, 1) := by decide +kernel
theorem dX12_most_65 : decode cX12_most 65 = .ok (.getfield 88, 3) := by decide +kernel
theorem dX12_most_68 : decode cX12_most 68 = .ok (.invokevirtual 434, 3) := by decide +kernel
theorem dX12_most_71 : decode cX12_most 71 = .ok (.istore_n 3, 1) := by decide +kernel
theorem dX12_most_72 : decode cX12_most 72 = .ok (.aload_n 0, 1) := by decide +kernel
theorem dX12_most_73 : decode cX12_most 73 = .ok (.aload_n 0, 1) := by decide +kernel
theorem dX12_most_74 : decode cX12_most 74 = .ok (.getfield 110, 3) := by decide +kernel
theorem dX12_most_77 : decode cX12_most 77 = .ok (.iconst 0, 1) := by decide +kernel
theorem dX12_most_78 : decode cX12_most 78 = .ok (.invokevirtual 392, 3) := by decide +kernel
theorem dX12_most_81 : decode cX12_most 81 = .ok (.iload_n 3, 1) := by decide +kernel
theorem dX12_most_82 : decode cX12_most 82 = .ok (.ireturn, 1) := by decide +kernel
theorem dX12_hush_0 : decode cX12_hush 0 = .ok (.aload_n 0, 1) := by decide +kernel
theorem dX12_hush_1 : decode cX12_hush 1 = .ok (.iconst 0, 1) := by decide +kernel
theorem dX12_hush_2 : decode cX12_hush 2 = .ok (.putfield 155, 3) := by decide +kernel
theorem dX12_hush_5 : decode cX12_hush 5 = .ok (.iload_n 1, 1) := by decide +kernel
theorem dX12_hush_6 : decode cX12_hush 6 = .ok (.i2l, 1) := by decide +kernel
theorem dX12_hush_7 : decode cX12_hush 7 = .ok (.lconst 1, 1) := by decide +kernel
theorem dX12_hush_8 : decode cX12_hush 8 = .ok (.ldc2_w 432, 3) := by decide +kernel
theorem dX12_hush_11 : decode cX12_hush 11 = .ok (.invokestatic 158, 3) := by decide +kernel
theorem dX12_hush_14 : decode cX12_hush 14 = .ok (.ifCond .ne 9, 3) := by decide +kernel
theorem dX12_hush_17 : decode cX12_hush 17 = .ok (.aload_n 0, 1) := by decide +kernel
theorem dX12_hush_18 : decode cX12_hush 18 = .ok (.iconst 1, 1) := by decide +kernel
theorem dX12_hush_19 : decode cX12_hush 19 = .ok (.invokevirtual 308, 3) := by decide +kernel
theorem dX12_hush_22 : decode cX12_hush 22 = .ok (.ireturn, 1) := by decide +kernel
theorem dX12_hush_23 : decode cX12_hush 23 = .ok (.aload_n 0, 1) := by decide +kernel
theorem dX12_hush_24 : decode cX12_hush 24 = .ok (.aload_n 0, 1) := by decide +kernel
theorem dX12_hush_25 : decode cX12_hush 25 = .ok (.getfield 110, 3) := by decide +kernel
theorem dX12_hush_28 : decode cX12_hush 28 = .ok (.iconst 0, 1) := by decide +kernel
theorem dX12_hush_29 : decode cX12_hush 29 = .ok (.invokevirtual 388, 3) := by decide +kernel
theorem dX12_hush_32 : decode cX12_hush 32 = .ok (.iconst 0, 1) := by decide +kernel
theorem dX12_hush_33 : decode cX12_hush 33 = .ok (.istore_n 2, 1) := by decide +kernel
theorem dX12_hush_34 : decode cX12_hush 34 = .ok (.iconst 0, 1) := by decide +kernel
theorem dX12_hush_35 : decode cX12_hush 35 = .ok (.istore_n 3, 1) := by decide +kernel
theorem dX12_hush_36 : decode cX12_hush 36 = .ok (.iconst 0, 1) := by decide +kernel
theorem dX12_hush_37 : decode cX12_hush 37 = .ok (.istore 4, 2) := by decide +kernel
theorem dX12_hush_39 : decode cX12_hush 39 = .ok (.iload 4, 2) := by decide +kernel
theorem dX12_hush_41 : decode cX12_hush 41 = .ok (.iload_n 1, 1) := by decide +kernel
theorem dX12_hush_42 : decode cX12_hush 42 = .ok (.if_icmp .ge 40, 3) := by decide +kernel
theorem dX12_hush_45 : decode cX12_hush 45 = .ok (.aload_n 0, 1) := by decide +kernel
theorem dX12_hush_46 : decode cX12_hush 46 = .ok (.invokevirtual 360, 3) := by decide +kernel
theorem dX12_hush_49 : decode cX12_hush 49 = .ok (.ifCond .ne 9, 3) := by decide +kernel
theorem dX12_hush_52 : decode cX12_hush 52 = .ok (.iload_n 2, 1) := by decide +kernel
theorem dX12_hush_53 : decode cX12_hush 53 = .ok (.iconst 1, 1) := by decide +kernel
theorem dX12_hush_54 : decode cX12_hush 54 = .ok (.iadd, 1) := by decide +kernel
theorem dX12_hush_55 : decode cX12_hush 55 = .ok (.goto 4, 3) := by decide +kernel
theorem dX12_hush_58 : decode cX12_hush 58 = .ok (.iconst 0, 1) := by decide +kernel
theorem dX12_hush_59 : decode cX12_hush 59 = .ok (.istore_n 2, 1) := by decide +kernel
theorem dX12_hush_60 : decode cX12_hush 60 = .ok (.iload_n 3, 1) := by decide +kernel
theorem dX12_hush_61 : decode cX12_hush 61 = .ok (.iload_n 2, 1) := by decide +kernel
theorem dX12_hush_62 : decode cX12_hush 62 = .ok (.invokestatic 354, 3) := by decide +kernel
theorem dX12_hush_65 : decode cX12_hush 65 = .ok (.istore_n 3, 1) := by decide +kernel
theorem dX12_hush_66 : decode cX12_hush 66 = .ok (.aload_n 0, 1) := by decide +kernel
theorem dX12_hush_67 : decode cX12_hush 67 = .ok (.dup, 1) := by decide +kernel
theorem dX12_hush_68 : decode cX12_hush 68 = .ok (.getfield 321, 3) := by decide +kernel
theorem dX12_hush_71 : decode cX12_hush 71 = .ok (.iconst 1, 1) := by decide +kernel
theorem dX12_hush_72 : decode cX12_hush 72 = .ok (.iadd, 1) := by decide +kernel
theorem dX12_hush_73 : decode cX12_hush 73 = .ok (.putfield 321, 3) := by decide +kernel
theorem dX12_hush_76 : decode cX12_hush 76 = .ok (.iinc 4 1, 3) := by decide +kernel
theorem dX12_hush_79 : decode cX12_hush 79 = .ok (.goto (-40), 3) := by decide +kernel
theorem dX12_hush_82 : decode cX12_hush 82 = .ok (.aload_n 0, 1) := by decide +kernel
theorem dX12_hush_83 : decode cX12_hush 83 = .ok (.aload_n 0, 1) := by decide +kernel
theorem dX12_hush_84 : decode cX12_hush 84 = .ok (.getfield 110, 3) := by decide +kernel
theorem dX12_hush_87 : decode cX12_hush 87 = .ok (.iconst 0, 1) := by decide +kernel
theorem dX12_hush_88 : decode cX12_hush 88 = .ok (.invokevirtual 392, 3) := by decide +kernel
theorem dX12_hush_91 : decode cX12_hush 91 = .ok (.iload_n 3, 1) := by decide +kernel
theorem dX12_hush_92 : decode cX12_hush 92 = .ok (.ireturn, 1) := by decide +kernel
theorem dX12_chorus_0 : decode cX12_chorus 0 = .ok (.aload_n 0, 1) := by decide +kernel
theorem dX12_chorus_1 : decode cX12_chorus 1 = .ok (.iconst 0, 1) := by decide +kernel
theorem dX12_chorus_2 : decode cX12_chorus 2 = .ok (.putfield 155, 3) := by decide +kernel
theorem dX12_chorus_5 : decode cX12_chorus 5 = .ok (.iload_n 1, 1) := by decide +kernel
theorem dX12_chorus_6 : decode cX12_chorus 6 = .ok (.i2l, 1) := by decide +kernel
theorem dX12_chorus_7 : decode cX12_chorus 7 = .ok (.lconst 1, 1) := by decide +kernel
theorem dX12_chorus_8 : decode cX12_chorus 8 = .ok (.ldc2_w 432, 3) := by decide +kernel
theorem dX12_chorus_11 : decode cX12_chorus 11 = .ok (.invokestatic 158, 3) := by decide +kernel
theorem dX12_chorus_14 : decode cX12_chorus 14 = .ok (.ifCond .ne 9, 3) := by decide +kernel
theorem dX12_chorus_17 : decode cX12_chorus 17 = .ok (.aload_n 0, 1) := by decide +kernel
theorem dX12_chorus_18 : decode cX12_chorus 18 = .ok (.iconst 1, 1) := by decide +kernel
theorem dX12_chorus_19 : decode cX12_chorus 19 = .ok (.invokevirtual 308, 3) := by decide +kernel
theorem dX12_chorus_22 : decode cX12_chorus 22 = .ok (.ireturn, 1) := by decide +kernel
theorem dX12_chorus_23 : decode cX12_chorus 23 = .ok (.aload_n 0, 1) := by decide +kernel
theorem dX12_chorus_24 : decode cX12_chorus 24 = .ok (.aload_n 0, 1) := by decide +kernel
theorem dX12_chorus_25 : decode cX12_chorus 25 = .ok (.getfield 110, 3) := by decide +kernel
theorem dX12_chorus_28 : decode cX12_chorus 28 = .ok (.iconst 0, 1) := by decide +kernel
theorem dX12_chorus_29 : decode cX12_chorus 29 = .ok (.invokevirtual 388, 3) := by decide +kernel
theorem dX12_chorus_32 : decode cX12_chorus 32 = .ok (.iconst (-1), 1) := by decide +kernel
theorem dX12_chorus_33 : decode cX12_chorus 33 = .ok (.istore_n 2, 1) := by decide +kernel
theorem dX12_chorus_34 : decode cX12_chorus 34 = .ok (.iconst (-1), 1) := by decide +kernel
theorem dX12_chorus_35 : decode cX12_chorus 35 = .ok (.istore_n 3, 1) := by decide +kernel
theorem dX12_chorus_36 : decode cX12_chorus 36 = .ok (.iconst 1, 1) := by decide +kernel
theorem dX12_chorus_37 : decode cX12_chorus 37 = .ok (.istore 4, 2) := by decide +kernel
theorem dX12_chorus_39 : decode cX12_chorus 39 = .ok (.iload 4, 2) := by decide +kernel
theorem dX12_chorus_41 : decode cX12_chorus 41 = .ok (.iload_n 1, 1) := by decide +kernel
theorem dX12_chorus_42 : decode cX12_chorus 42 = .ok (.if_icmp .gt 44, 3) := by decide +kernel
theorem dX12_chorus_45 : decode cX12_chorus 45 = .ok (.aload_n 0, 1) := by decide +kernel
theorem dX12_chorus_46 : decode cX12_chorus 46 = .ok (.invokevirtual 360, 3) := by decide +kernel
theorem dX12_chorus_49 : decode cX12_chorus 49 = .ok (.invokestatic 437, 3) := by decide +kernel
theorem dX12_chorus_52 : decode cX12_chorus 52 = .ok (.istore 5, 2) := by decide +kernel
theorem dX12_chorus_54 : decode cX12_chorus 54 = .ok (.iload 5, 2) := by decide +kernel
theorem dX12_chorus_56 : decode cX12_chorus 56 = .ok (.iload_n 3, 1) := by decide +kernel
theorem dX12_chorus_57 : decode cX12_chorus 57 = .ok (.if_icmp .le 6, 3) := by decide +kernel
theorem dX12_chorus_60 : decode cX12_chorus 60 = .ok (.iload 4, 2) := by decide +kernel
theorem dX12_chorus_62 : decode cX12_chorus 62 = .ok (.istore_n 2, 1) := by decide +kernel
theorem dX12_chorus_63 : decode cX12_chorus 63 = .ok (.iload_n 3, 1) := by decide +kernel
theorem dX12_chorus_64 : decode cX12_chorus 64 = .ok (.iload 5, 2) := by decide +kernel
theorem dX12_chorus_66 : decode cX12_chorus 66 = .ok (.invokestatic 354, 3) := by decide +kernel
theorem dX12_chorus_69 : decode cX12_chorus 69 = .ok (.istore_n 3, 1) := by decide +kernel
theorem dX12_chorus_70 : decode cX12_chorus 70 = .ok (.aload_n 0, 1) := by decide +kernel
theorem dX12_chorus_71 : decode cX12_chorus 71 = .ok (.dup, 1) := by decide +kernel
theorem dX12_chorus_72 : decode cX12_chorus 72 = .ok (.getfield 321, 3) := by decide +kernel
theorem dX12_chorus_75 : decode cX12_chorus 75 = .ok (.iconst 1, 1) := by decide +kernel
theorem dX12_chorus_76 : decode cX12_chorus 76 = .ok (.iadd, 1) := by decide +kernel
theorem dX12_chorus_77 : decode cX12_chorus 77 = .ok (.putfield 321, 3) := by decide +kernel
theorem dX12_chorus_80 : decode cX12_chorus 80 = .ok (.iinc 4 1, 3) := by decide +kernel
theorem dX12_chorus_83 : decode cX12_chorus 83 = .ok (.goto (-44), 3) := by decide +kernel
theorem dX12_chorus_86 : decode cX12_chorus 86 = .ok (.aload_n 0, 1) := by decide +kernel
theorem dX12_chorus_87 : decode cX12_chorus 87 = .ok (.aload_n 0, 1) := by decide +kernel
theorem dX12_chorus_88 : decode cX12_chorus 88 = .ok (.getfield 110, 3) := by decide +kernel
theorem dX12_chorus_91 : decode cX12_chorus 91 = .ok (.iconst 0, 1) := by decide +kernel
theorem dX12_chorus_92 : decode cX12_chorus 92 = .ok (.invokevirtual 392, 3) := by decide +kernel
theorem dX12_chorus_95 : decode cX12_chorus 95 = .ok (.iload_n 2, 1) := by decide +kernel
theorem dX12_chorus_96 : decode cX12_chorus 96 = .ok (.ireturn, 1) := by decide +kernel
theorem dX12_often_0 : decode cX12_often 0 = .ok (.aload_n 0, 1) := by decide +kernel
theorem dX12_often_1 : decode cX12_often 1 = .ok (.iconst 0, 1) := by decide +kernel
theorem dX12_often_2 : decode cX12_often 2 = .ok (.putfield 155, 3) := by decide +kernel
theorem dX12_often_5 : decode cX12_often 5 = .ok (.aload_n 0, 1) := by decide +kernel
theorem dX12_often_6 : decode cX12_often 6 = .ok (.iload_n 1, 1) := by decide +kernel
theorem dX12_often_7 : decode cX12_often 7 = .ok (.invokevirtual 395, 3) := by decide +kernel
theorem dX12_often_10 : decode cX12_often 10 = .ok (.ifCond .ne 9, 3) := by decide +kernel
theorem dX12_often_13 : decode cX12_often 13 = .ok (.aload_n 0, 1) := by decide +kernel
theorem dX12_often_14 : decode cX12_often 14 = .ok (.iconst 1, 1) := by decide +kernel
theorem dX12_often_15 : decode cX12_often 15 = .ok (.invokevirtual 308, 3) := by decide +kernel
theorem dX12_often_18 : decode cX12_often 18 = .ok (.ireturn, 1) := by decide +kernel
theorem dX12_often_19 : decode cX12_often 19 = .ok (.iload_n 2, 1) := by decide +kernel
theorem dX12_often_20 : decode cX12_often 20 = .ok (.i2l, 1) := by decide +kernel
theorem dX12_often_21 : decode cX12_often 21 = .ok (.lconst 0, 1) := by decide +kernel
theorem dX12_often_22 : decode cX12_often 22 = .ok (.ldc2_w 432, 3) := by decide +kernel
theorem dX12_often_25 : decode cX12_often 25 = .ok (.invokestatic 158, 3) := by decide +kernel
theorem dX12_often_28 : decode cX12_often 28 = .ok (.ifCond .ne 9, 3) := by decide +kernel
theorem dX12_often_31 : decode cX12_often 31 = .ok (.aload_n 0, 1) := by decide +kernel
theorem dX12_often_32 : decode cX12_often 32 = .ok (.iconst 2, 1) := by decide +kernel
theorem dX12_often_33 : decode cX12_often 33 = .ok (.invokevirtual 308, 3) := by decide +kernel
theorem dX12_often_36 : decode cX12_often 36 = .ok (.ireturn, 1) := by decide +kernel
theorem dX12_often_37 : decode cX12_often 37 = .ok (.aload_n 0, 1) := by decide +kernel
theorem dX12_often_38 : decode cX12_often 38 = .ok (.aload_n 0, 1) := by decide +kernel
theorem dX12_often_39 : decode cX12_often 39 = .ok (.getfield 110, 3) := by decide +kernel
theorem dX12_often_42 : decode cX12_often 42 = .ok (.iconst 0, 1) := by decide +kernel
theorem dX12_often_43 : decode cX12_often 43 = .ok (.invokevirtual 388, 3) := by decide +kernel
theorem dX12_often_46 : decode cX12_often 46 = .ok (.iconst 0, 1) := by decide +kernel
theorem dX12_often_47 : decode cX12_often 47 = .ok (.istore_n 3, 1) := by decide +kernel
theorem dX12_often_48 : decode cX12_often 48 = .ok (.iconst 0, 1) := by decide +kernel
theorem dX12_often_49 : decode cX12_often 49 = .ok (.istore 4, 2) := by decide +kernel
theorem dX12_often_51 : decode cX12_often 51 = .ok (.iload 4, 2) := by decide +kernel
theorem dX12_often_53 : decode cX12_often 53 = .ok (.iload_n 2, 1) := by decide +kernel
theorem dX12_often_54 : decode cX12_often 54 = .ok (.if_icmp .ge 30, 3) := by decide +kernel
theorem dX12_often_57 : decode cX12_often 57 = .ok (.iload_n 3, 1) := by decide +kernel
theorem dX12_often_58 : decode cX12_often 58 = .ok (.aload_n 0, 1) := by decide +kernel
theorem dX12_often_59 : decode cX12_often 59 = .ok (.invokevirtual 360, 3) := by decide +kernel
theorem dX12_often_62 : decode cX12_often 62 = .ok (.iload_n 1, 1) := by decide +kernel
theorem dX12_often_63 : decode cX12_often 63 = .ok (.ishr, 1) := by decide +kernel
theorem dX12_often_64 : decode cX12_often 64 = .ok (.iconst 1, 1) := by decide +kernel
theorem dX12_often_65 : decode cX12_often 65 = .ok (.iand, 1) := by decide +kernel
theorem dX12_often_66 : decode cX12_often 66 = .ok (.iadd, 1) := by decide +kernel
theorem dX12_often_67 : decode cX12_often 67 = .ok (.istore_n 3, 1) := by decide +kernel
theorem dX12_often_68 : decode cX12_often 68 = .ok (.aload_n 0, 1) := by decide +kernel
theorem dX12_often_69 : decode cX12_often 69 = .ok (.dup, 1) := by decide +kernel
theorem dX12_often_70 : decode cX12_often 70 = .ok (.getfield 321, 3) := by decide +kernel
theorem dX12_often_73 : decode cX12_often 73 = .ok (.iconst 1, 1) := by decide +kernel
theorem dX12_often_74 : decode cX12_often 74 = .ok (.iadd, 1) := by decide +kernel
theorem dX12_often_75 : decode cX12_often 75 = .ok (.putfield 321, 3) := by decide +kernel
theorem dX12_often_78 : decode cX12_often 78 = .ok (.iinc 4 1, 3) := by decide +kernel
theorem dX12_often_81 : decode cX12_often 81 = .ok (.goto (-30), 3) := by decide +kernel
theorem dX12_often_84 : decode cX12_often 84 = .ok (.aload_n 0, 1) := by decide +kernel
theorem dX12_often_85 : decode cX12_often 85 = .ok (.aload_n 0, 1) := by decide +kernel
theorem dX12_often_86 : decode cX12_often 86 = .ok (.getfield 110, 3) := by decide +kernel
theorem dX12_often_89 : decode cX12_often 89 = .ok (.iconst 0, 1) := by decide +kernel
theorem dX12_often_90 : decode cX12_often 90 = .ok (.invokevirtual 392, 3) := by decide +kernel
theorem dX12_often_93 : decode cX12_often 93 = .ok (.iload_n 3, 1) := by decide +kernel
theorem dX12_often_94 : decode cX12_often 94 = .ok (.ireturn, 1) := by decide +kernel
theorem dX12_isSome_0 : decode cX12_isSome 0 = .ok (.iload_n 1, 1) := by decide +kernel
theorem dX12_isSome_1 : decode cX12_isSome 1 = .ok (.i2l, 1) := by decide +kernel
theorem dX12_isSome_2 : decode cX12_isSome 2 = .ok (.lconst 0, 1) := by decide +kernel
theorem dX12_isSome_3 : decode cX12_isSome 3 = .ok (.iconst 1, 1) := by decide +kernel
theorem dX12_isSome_4 : decode cX12_isSome 4 = .ok (.aload_n 0, 1) := by decide +kernel
theorem dX12_isSome_5 : decode cX12_isSome 5 = .ok (.getfield 42, 3) := by decide +kernel
theorem dX12_isSome_8 : decode cX12_isSome 8 = .ok (.iconst 0, 1) := by decide +kernel
theorem dX12_isSome_9 : decode cX12_isSome 9 = .ok (.iaload, 1) := by decide +kernel
theorem dX12_isSome_10 : decode cX12_isSome 10 = .ok (.ishl, 1) := by decide +kernel
theorem dX12_isSome_11 : decode cX12_isSome 11 = .ok (.iconst 1, 1) := by decide +kernel
theorem dX12_isSome_12 : decode cX12_isSome 12 = .ok (.isub, 1) := by decide +kernel
theorem dX12_isSome_13 : decode cX12_isSome 13 = .ok (.i2l, 1) := by decide +kernel
theorem dX12_isSome_14 : decode cX12_isSome 14 = .ok (.invokestatic 158, 3) := by decide +kernel
theorem dX12_isSome_17 : decode cX12_isSome 17 = .ok (.ireturn, 1) := by decide +kernel
theorem dX12_together_0 : decode cX12_together 0 = .ok (.aload_n 0, 1) := by decide +kernel
theorem dX12_together_1 : decode cX12_together 1 = .ok (.iconst 0, 1) := by decide +kernel
theorem dX12_together_2 : decode cX12_together 2 = .ok (.putfield 155, 3) := by decide +kernel
theorem dX12_together_5 : decode cX12_together 5 = .ok (.aload_n 0, 1) := by decide +kernel
theorem dX12_together_6 : decode cX12_together 6 = .ok (.iload_n 1, 1) := by decide +kernel
theorem dX12_together_7 : decode cX12_together 7 = .ok (.invokevirtual 440, 3) := by decide +kernel
theorem dX12_together_10 : decode cX12_together 10 = .ok (.ifCond .ne 9, 3) := by decide +kernel
theorem dX12_together_13 : decode cX12_together 13 = .ok (.aload_n 0, 1) := by decide +kernel
theorem dX12_together_14 : decode cX12_together 14 = .ok (.iconst 1, 1) := by decide +kernel
theorem dX12_together_15 : decode cX12_together 15 = .ok (.invokevirtual 308, 3) := by decide +kernel
theorem dX12_together_18 : decode cX12_together 18 = .ok (.ireturn, 1) := by decide +kernel
theorem dX12_together_19 : decode cX12_together 19 = .ok (.iconst 1, 1) := by decide +kernel
theorem dX12_together_20 : decode cX12_together 20 = .ok (.istore_n 2, 1) := by decide +kernel
theorem dX12_together_21 : decode cX12_together 21 = .ok (.iload_n 2, 1) := by decide +kernel
theorem dX12_together_22 : decode cX12_together 22 = .ok (.sipush 30000, 3) := by decide +kernel
theorem dX12_together_25 : decode cX12_together 25 = .ok (.if_icmp .gt 73, 3) := by decide +kernel
theorem dX12_together_28 : decode cX12_together 28 = .ok (.iconst 1, 1) := by decide +kernel
theorem dX12_together_29 : decode cX12_together 29 = .ok (.istore_n 3, 1) := by decide +kernel
theorem dX12_together_30 : decode cX12_together 30 = .ok (.iconst 0, 1) := by decide +kernel
theorem dX12_together_31 : decode cX12_together 31 = .ok (.istore 4, 2) := by decide +kernel
theorem dX12_together_33 : decode cX12_together 33 = .ok (.iload 4, 2) := by decide +kernel
theorem dX12_together_35 : decode cX12_together 35 = .ok (.aload_n 0, 1) := by decide +kernel
theorem dX12_together_36 : decode cX12_together 36 = .ok (.getfield 42, 3) := by decide +kernel
theorem dX12_together_39 : decode cX12_together 39 = .ok (.iconst 0, 1) := by decide +kernel
theorem dX12_together_40 : decode cX12_together 40 = .ok (.iaload, 1) := by decide +kernel
theorem dX12_together_41 : decode cX12_together 41 = .ok (.if_icmp .ge 45, 3) := by decide +kernel
theorem dX12_together_44 : decode cX12_together 44 = .ok (.iload_n 3, 1) := by decide +kernel
theorem dX12_together_45 : decode cX12_together 45 = .ok (.ifCond .eq 41, 3) := by decide +kernel
theorem dX12_together_48 : decode cX12_together 48 = .ok (.iload_n 1, 1) := by decide +kernel
theorem dX12_together_49 : decode cX12_together 49 = .ok (.iload 4, 2) := by decide +kernel
theorem dX12_together_51 : decode cX12_together 51 = .ok (.invokestatic 285, 3) := by decide +kernel
theorem dX12_together_54 : decode cX12_together 54 = .ok (.ifCond .eq 20, 3) := by decide +kernel
theorem dX12_together_57 : decode cX12_together 57 = .ok (.aload_n 0, 1) := by decide +kernel
theorem dX12_together_58 : decode cX12_together 58 = .ok (.iload 4, 2) := by decide +kernel
theorem dX12_together_60 : decode cX12_together 60 = .ok (.aload_n 0, 1) := by decide +kernel
theorem dX12_together_61 : decode cX12_together 61 = .ok (.getfield 321, 3) := by decide +kernel
theorem dX12_together_64 : decode cX12_together 64 = .ok (.iload_n 2, 1) := by decide +kernel
theorem dX12_together_65 : decode cX12_together 65 = .ok (.iadd, 1) := by decide +kernel
theorem dX12_together_66 : decode cX12_together 66 = .ok (.iconst 1, 1) := by decide +kernel
theorem dX12_together_67 : decode cX12_together 67 = .ok (.isub, 1) := by decide +kernel
theorem dX12_together_68 : decode cX12_together 68 = .ok (.invokevirtual 339, 3) := by decide +kernel
theorem dX12_together_71 : decode cX12_together 71 = .ok (.ifCond .eq 7, 3) := by decide +kernel
theorem dX12_together_74 : decode cX12_together 74 = .ok (.iconst 1, 1) := by decide +kernel
theorem dX12_together_75 : decode cX12_together 75 = .ok (.goto 4, 3) := by decide +kernel
theorem dX12_together_78 : decode cX12_together 78 = .ok (.iconst 0, 1) := by decide +kernel
theorem dX12_together_79 : decode cX12_together 79 = .ok (.istore_n 3, 1) := by decide +kernel
theorem dX12_together_80 : decode cX12_together 80 = .ok (.iinc 4 1, 3) := by decide +kernel
theorem dX12_together_83 : decode cX12_together 83 = .ok (.goto (-50), 3) := by decide +kernel
theorem dX12_together_86 : decode cX12_together 86 = .ok (.iload_n 3, 1) := by decide +kernel
theorem dX12_together_87 : decode cX12_together 87 = .ok (.ifCond .eq 5, 3) := by decide +kernel
theorem dX12_together_90 : decode cX12_together 90 = .ok (.iload_n 2, 1) := by decide +kernel
theorem dX12_together_91 : decode cX12_together 91 = .ok (.ireturn, 1) := by decide +kernel
theorem dX12_together_92 : decode cX12_together 92 = .ok (.iinc 2 1, 3) := by decide +kernel
theorem dX12_together_95 : decode cX12_together 95 = .ok (.goto (-74), 3) := by decide +kernel
theorem dX12_together_98 : decode cX12_together 98 = .ok (.iconst (-1), 1) := by decide +kernel
theorem dX12_together_99 : decode cX12_together 99 = .ok (.ireturn, 1) := by decide +kernel
theorem dX12_rhythm_0 : decode cX12_rhythm 0 = .ok (.aload_n 0, 1) := by decide +kernel
theorem dX12_rhythm_1 : decode cX12_rhythm 1 = .ok (.iconst 0, 1) := by decide +kernel
theorem dX12_rhythm_2 : decode cX12_rhythm 2 = .ok (.putfield 155, 3) := by decide +kernel
theorem dX12_rhythm_5 : decode cX12_rhythm 5 = .ok (.aload_n 0, 1) := by decide +kernel
theorem dX12_rhythm_6 : decode cX12_rhythm 6 = .ok (.iload_n 1, 1) := by decide +kernel
theorem dX12_rhythm_7 : decode cX12_rhythm 7 = .ok (.invokevirtual 440, 3) := by decide +kernel
theorem dX12_rhythm_10 : decode cX12_rhythm 10 = .ok (.ifCond .ne 9, 3) := by decide +kernel
theorem dX12_rhythm_13 : decode cX12_rhythm 13 = .ok (.aload_n 0, 1) := by decide +kernel
theorem dX12_rhythm_14 : decode cX12_rhythm 14 = .ok (.iconst 1, 1) := by decide +kernel
theorem dX12_rhythm_15 : decode cX12_rhythm 15 = .ok (.invokevirtual 308, 3) := by decide +kernel
theorem dX12_rhythm_18 : decode cX12_rhythm 18 = .ok (.ireturn, 1) := by decide +kernel
theorem dX12_rhythm_19 : decode cX12_rhythm 19 = .ok (.iconst 1, 1) := by decide +kernel
theorem dX12_rhythm_20 : decode cX12_rhythm 20 = .ok (.istore_n 2, 1) := by decide +kernel
theorem dX12_rhythm_21 : decode cX12_rhythm 21 = .ok (.iconst 0, 1) := by decide +kernel
theorem dX12_rhythm_22 : decode cX12_rhythm 22 = .ok (.istore_n 3, 1) := by decide +kernel
theorem dX12_rhythm_23 : decode cX12_rhythm 23 = .ok (.iload_n 3, 1) := by decide +kernel
theorem dX12_rhythm_24 : decode cX12_rhythm 24 = .ok (.aload_n 0, 1) := by decide +kernel
theorem dX12_rhythm_25 : decode cX12_rhythm 25 = .ok (.getfield 42, 3) := by decide +kernel
theorem dX12_rhythm_28 : decode cX12_rhythm 28 = .ok (.iconst 0, 1) := by decide +kernel
theorem dX12_rhythm_29 : decode cX12_rhythm 29 = .ok (.iaload, 1) := by decide +kernel
theorem dX12_rhythm_30 : decode cX12_rhythm 30 = .ok (.if_icmp .ge 39, 3) := by decide +kernel
theorem dX12_rhythm_33 : decode cX12_rhythm 33 = .ok (.iload_n 2, 1) := by decide +kernel
theorem dX12_rhythm_34 : decode cX12_rhythm 34 = .ok (.istore 4, 2) := by decide +kernel
theorem dX12_rhythm_36 : decode cX12_rhythm 36 = .ok (.iload_n 1, 1) := by decide +kernel
theorem dX12_rhythm_37 : decode cX12_rhythm 37 = .ok (.iload_n 3, 1) := by decide +kernel
theorem dX12_rhythm_38 : decode cX12_rhythm 38 = .ok (.invokestatic 285, 3) := by decide +kernel
theorem dX12_rhythm_41 : decode cX12_rhythm 41 = .ok (.ifCond .eq 22, 3) := by decide +kernel
theorem dX12_rhythm_44 : decode cX12_rhythm 44 = .ok (.iload_n 2, 1) := by decide +kernel
theorem dX12_rhythm_45 : decode cX12_rhythm 45 = .ok (.aload_n 0, 1) := by decide +kernel
theorem dX12_rhythm_46 : decode cX12_rhythm 46 = .ok (.getfield 48, 3) := by decide +kernel
theorem dX12_rhythm_49 : decode cX12_rhythm 49 = .ok (.iload_n 3, 1) := by decide +kernel
theorem dX12_rhythm_50 : decode cX12_rhythm 50 = .ok (.iaload, 1) := by decide +kernel
theorem dX12_rhythm_51 : decode cX12_rhythm 51 = .ok (.irem, 1) := by decide +kernel
theorem dX12_rhythm_52 : decode cX12_rhythm 52 = .ok (.ifCond .eq 11, 3) := by decide +kernel
theorem dX12_rhythm_55 : decode cX12_rhythm 55 = .ok (.iload_n 2, 1) := by decide +kernel
theorem dX12_rhythm_56 : decode cX12_rhythm 56 = .ok (.iload 4, 2) := by decide +kernel
theorem dX12_rhythm_58 : decode cX12_rhythm 58 = .ok (.iadd, 1) := by decide +kernel
theorem dX12_rhythm_59 : decode cX12_rhythm 59 = .ok (.istore_n 2, 1) := by decide +kernel
theorem dX12_rhythm_60 : decode cX12_rhythm 60 = .ok (.goto (-24), 3) := by decide +kernel
theorem dX12_rhythm_63 : decode cX12_rhythm 63 = .ok (.iinc 3 1, 3) := by decide +kernel
theorem dX12_rhythm_66 : decode cX12_rhythm 66 = .ok (.goto (-43), 3) := by decide +kernel
theorem dX12_rhythm_69 : decode cX12_rhythm 69 = .ok (.iload_n 2, 1) := by decide +kernel
theorem dX12_rhythm_70 : decode cX12_rhythm 70 = .ok (.ireturn, 1) := by decide +kernel
theorem dX12_toHire_0 : decode cX12_toHire 0 = .ok (.aload_n 0, 1) := by decide +kernel
theorem dX12_toHire_1 : decode cX12_toHire 1 = .ok (.iconst 0, 1) := by decide +kernel
theorem dX12_toHire_2 : decode cX12_toHire 2 = .ok (.putfield 155, 3) := by decide +kernel
theorem dX12_toHire_5 : decode cX12_toHire 5 = .ok (.aload_n 0, 1) := by decide +kernel
theorem dX12_toHire_6 : decode cX12_toHire 6 = .ok (.iload_n 1, 1) := by decide +kernel
theorem dX12_toHire_7 : decode cX12_toHire 7 = .ok (.invokevirtual 401, 3) := by decide +kernel
theorem dX12_toHire_10 : decode cX12_toHire 10 = .ok (.ifCond .eq 12, 3) := by decide +kernel
theorem dX12_toHire_13 : decode cX12_toHire 13 = .ok (.iload_n 3, 1) := by decide +kernel
theorem dX12_toHire_14 : decode cX12_toHire 14 = .ok (.ifCond .lt 8, 3) := by decide +kernel
theorem dX12_toHire_17 : decode cX12_toHire 17 = .ok (.iload_n 3, 1) := by decide +kernel
theorem dX12_toHire_18 : decode cX12_toHire 18 = .ok (.iconst 1, 1) := by decide +kernel
theorem dX12_toHire_19 : decode cX12_toHire 19 = .ok (.if_icmp .le 9, 3) := by decide +kernel
theorem dX12_toHire_22 : decode cX12_toHire 22 = .ok (.aload_n 0, 1) := by decide +kernel
theorem dX12_toHire_23 : decode cX12_toHire 23 = .ok (.iconst 1, 1) := by decide +kernel
theorem dX12_toHire_24 : decode cX12_toHire 24 = .ok (.invokevirtual 308, 3) := by decide +kernel
theorem dX12_toHire_27 : decode cX12_toHire 27 = .ok (.ireturn, 1) := by decide +kernel
theorem dX12_toHire_28 : decode cX12_toHire 28 = .ok (.iload_n 2, 1) := by decide +kernel
theorem dX12_toHire_29 : decode cX12_toHire 29 = .ok (.i2l, 1) := by decide +kernel
theorem dX12_toHire_30 : decode cX12_toHire 30 = .ok (.lconst 1, 1) := by decide +kernel
theorem dX12_toHire_31 : decode cX12_toHire 31 = .ok (.ldc2_w 432, 3) := by decide +kernel
theorem dX12_toHire_34 : decode cX12_toHire 34 = .ok (.invokestatic 158, 3) := by decide +kernel
theorem dX12_toHire_37 : decode cX12_toHire 37 = .ok (.ifCond .ne 9, 3) := by decide +kernel
theorem dX12_toHire_40 : decode cX12_toHire 40 = .ok (.aload_n 0, 1) := by decide +kernel
theorem dX12_toHire_41 : decode cX12_toHire 41 = .ok (.iconst 2, 1) := by decide +kernel
theorem dX12_toHire_42 : decode cX12_toHire 42 = .ok (.invokevirtual 308, 3) := by decide +kernel
theorem dX12_toHire_45 : decode cX12_toHire 45 = .ok (.ireturn, 1) := by decide +kernel
theorem dX12_toHire_46 : decode cX12_toHire 46 = .ok (.aload_n 0, 1) := by decide +kernel
theorem dX12_toHire_47 : decode cX12_toHire 47 = .ok (.aload_n 0, 1) := by decide +kernel
theorem dX12_toHire_48 : decode cX12_toHire 48 = .ok (.getfield 110, 3) := by decide +kernel
theorem dX12_toHire_51 : decode cX12_toHire 51 = .ok (.iconst 0, 1) := by decide +kernel
theorem dX12_toHire_52 : decode cX12_toHire 52 = .ok (.invokevirtual 388, 3) := by decide +kernel
theorem dX12_toHire_55 : decode cX12_toHire 55 = .ok (.iconst (-1), 1) := by decide +kernel
theorem dX12_toHire_56 : decode cX12_toHire 56 = .ok (.istore 4, 2) := by decide +kernel
theorem dX12_toHire_58 : decode cX12_toHire 58 = .ok (.sipush 1000, 3) := by decide +kernel
theorem dX12_toHire_61 : decode cX12_toHire 61 = .ok (.istore 5, 2) := by decide +kernel
theorem dX12_toHire_63 : decode cX12_toHire 63 = .ok (.iconst 0, 1) := by decide +kernel
theorem dX12_toHire_64 : decode cX12_toHire 64 = .ok (.istore 6, 2) := by decide +kernel
theorem dX12_toHire_66 : decode cX12_toHire 66 = .ok (.iload 6, 2) := by decide +kernel
theorem dX12_toHire_68 : decode cX12_toHire 68 = .ok (.aload_n 0, 1) := by decide +kernel
theorem dX12_toHire_69 : decode cX12_toHire 69 = .ok (.getfield 42, 3) := by decide +kernel
theorem dX12_toHire_72 : decode cX12_toHire 72 = .ok (.iconst 0, 1) := by decide +kernel
theorem dX12_toHire_73 : decode cX12_toHire 73 = .ok (.iaload, 1) := by decide +kernel
theorem dX12_toHire_74 : decode cX12_toHire 74 = .ok (.if_icmp .ge 80, 3) := by decide +kernel
theorem dX12_toHire_77 : decode cX12_toHire 77 = .ok (.aload_n 0, 1) := by decide +kernel
theorem dX12_toHire_78 : decode cX12_toHire 78 = .ok (.iload 6, 2) := by decide +kernel
theorem dX12_toHire_80 : decode cX12_toHire 80 = .ok (.invokevirtual 369, 3) := by decide +kernel
theorem dX12_toHire_83 : decode cX12_toHire 83 = .ok (.istore 7, 2) := by decide +kernel
theorem dX12_toHire_85 : decode cX12_toHire 85 = .ok (.iload 7, 2) := by decide +kernel
theorem dX12_toHire_87 : decode cX12_toHire 87 = .ok (.iconst (-1), 1) := by decide +kernel
theorem dX12_toHire_88 : decode cX12_toHire 88 = .ok (.if_icmp .eq 12, 3) := by decide +kernel
theorem dX12_toHire_91 : decode cX12_toHire 91 = .ok (.iload 7, 2) := by decide +kernel
theorem dX12_toHire_93 : decode cX12_toHire 93 = .ok (.iload_n 1, 1) := by decide +kernel
theorem dX12_toHire_94 : decode cX12_toHire 94 = .ok (.if_icmp .eq 6, 3) := by decide +kernel
theorem dX12_toHire_97 : decode cX12_toHire 97 = .ok (.goto 51, 3) := by decide +kernel
theorem dX12_toHire_100 : decode cX12_toHire 100 = .ok (.aload_n 0, 1) := by decide +kernel
theorem dX12_toHire_101 : decode cX12_toHire 101 = .ok (.getfield 95, 3) := by decide +kernel
theorem dX12_toHire_104 : decode cX12_toHire 104 = .ok (.iload_n 1, 1) := by decide +kernel
theorem dX12_toHire_105 : decode cX12_toHire 105 = .ok (.iload 6, 2) := by decide +kernel
theorem dX12_toHire_107 : decode cX12_toHire 107 = .ok (.iastore, 1) := by decide +kernel
theorem dX12_toHire_108 : decode cX12_toHire 108 = .ok (.aload_n 0, 1) := by decide +kernel
theorem dX12_toHire_109 : decode cX12_toHire 109 = .ok (.iload_n 2, 1) := by decide +kernel
theorem dX12_toHire_110 : decode cX12_toHire 110 = .ok (.invokevirtual 412, 3) := by decide +kernel
theorem dX12_toHire_113 : decode cX12_toHire 113 = .ok (.aload_n 0, 1) := by decide +kernel
theorem dX12_toHire_114 : decode cX12_toHire 114 = .ok (.getfield 88, 3) := by decide +kernel
theorem dX12_toHire_117 : decode cX12_toHire 117 = .ok (.iload_n 1, 1) := by decide +kernel
theorem dX12_toHire_118 : decode cX12_toHire 118 = .ok (.iaload, 1) := by decide +kernel
theorem dX12_toHire_119 : decode cX12_toHire 119 = .ok (.istore 8, 2) := by decide +kernel
theorem dX12_toHire_121 : decode cX12_toHire 121 = .ok (.aload_n 0, 1) := by decide +kernel
theorem dX12_toHire_122 : decode cX12_toHire 122 = .ok (.aload_n 0, 1) := by decide +kernel
theorem dX12_toHire_123 : decode cX12_toHire 123 = .ok (.getfield 110, 3) := by decide +kernel
theorem dX12_toHire_126 : decode cX12_toHire 126 = .ok (.iconst 0, 1) := by decide +kernel
theorem dX12_toHire_127 : decode cX12_toHire 127 = .ok (.invokevirtual 392, 3) := by decide +kernel
theorem dX12_toHire_130 : decode cX12_toHire 130 = .ok (.iload 8, 2) := by decide +kernel
theorem dX12_toHire_132 : decode cX12_toHire 132 = .ok (.iload 5, 2) := by decide +kernel
theorem dX12_toHire_134 : decode cX12_toHire 134 = .ok (.if_icmp .lt 6, 3) := by decide +kernel
theorem dX12_toHire_137 : decode cX12_toHire 137 = .ok (.goto 11, 3) := by decide +kernel
theorem dX12_toHire_140 : decode cX12_toHire 140 = .ok (.iload 6, 2) := by decide +kernel
theorem dX12_toHire_142 : decode cX12_toHire 142 = .ok (.istore 4, 2) := by decide +kernel
theorem dX12_toHire_144 : decode cX12_toHire 144 = .ok (.iload 8, 2) := by decide +kernel
theorem dX12_toHire_146 : decode cX12_toHire 146 = .ok (.istore 5, 2) := by decide +kernel
theorem dX12_toHire_148 : decode cX12_toHire 148 = .ok (.iinc 6 1, 3) := by decide +kernel
theorem dX12_toHire_151 : decode cX12_toHire 151 = .ok (.goto (-85), 3) := by decide +kernel
theorem dX12_toHire_154 : decode cX12_toHire 154 = .ok (.iload_n 3, 1) := by decide +kernel
theorem dX12_toHire_155 : decode cX12_toHire 155 = .ok (.ifCond .eq 9, 3) := by decide +kernel
theorem dX12_toHire_158 : decode cX12_toHire 158 = .ok (.iload 4, 2) := by decide +kernel
theorem dX12_toHire_160 : decode cX12_toHire 160 = .ok (.iconst (-1), 1) := by decide +kernel
theorem dX12_toHire_161 : decode cX12_toHire 161 = .ok (.if_icmp .ne 8, 3) := by decide +kernel
theorem dX12_toHire_164 : decode cX12_toHire 164 = .ok (.iload 4, 2) := by decide +kernel
theorem dX12_toHire_166 : decode cX12_toHire 166 = .ok (.goto 5, 3) := by decide +kernel
theorem dX12_toHire_169 : decode cX12_toHire 169 = .ok (.iload 5, 2) := by decide +kernel
theorem dX12_toHire_171 : decode cX12_toHire 171 = .ok (.ireturn, 1) := by decide +kernel
theorem dX12_mayHave_0 : decode cX12_mayHave 0 = .ok (.iload_n 2, 1) := by decide +kernel
theorem dX12_mayHave_1 : decode cX12_mayHave 1 = .ok (.iload_n 3, 1) := by decide +kernel
theorem dX12_mayHave_2 : decode cX12_mayHave 2 = .ok (.invokestatic 285, 3) := by decide +kernel
theorem dX12_mayHave_5 : decode cX12_mayHave 5 = .ok (.ifCond .ne 25, 3) := by decide +kernel
theorem dX12_mayHave_8 : decode cX12_mayHave 8 = .ok (.aload_n 0, 1) := by decide +kernel
theorem dX12_mayHave_9 : decode cX12_mayHave 9 = .ok (.getfield 90, 3) := by decide +kernel
theorem dX12_mayHave_12 : decode cX12_mayHave 12 = .ok (.iload_n 1, 1) := by decide +kernel
theorem dX12_mayHave_13 : decode cX12_mayHave 13 = .ok (.iaload, 1) := by decide +kernel
theorem dX12_mayHave_14 : decode cX12_mayHave 14 = .ok (.bipush 10, 2) := by decide +kernel
theorem dX12_mayHave_16 : decode cX12_mayHave 16 = .ok (.aload_n 0, 1) := by decide +kernel
theorem dX12_mayHave_17 : decode cX12_mayHave 17 = .ok (.getfield 53, 3) := by decide +kernel
theorem dX12_mayHave_20 : decode cX12_mayHave 20 = .ok (.iload_n 3, 1) := by decide +kernel
theorem dX12_mayHave_21 : decode cX12_mayHave 21 = .ok (.iaload, 1) := by decide +kernel
theorem dX12_mayHave_22 : decode cX12_mayHave 22 = .ok (.imul, 1) := by decide +kernel
theorem dX12_mayHave_23 : decode cX12_mayHave 23 = .ok (.if_icmp .lt 7, 3) := by decide +kernel
theorem dX12_mayHave_26 : decode cX12_mayHave 26 = .ok (.iconst 1, 1) := by decide +kernel
theorem dX12_mayHave_27 : decode cX12_mayHave 27 = .ok (.goto 4, 3) := by decide +kernel
theorem dX12_mayHave_30 : decode cX12_mayHave 30 = .ok (.iconst 0, 1) := by decide +kernel
theorem dX12_mayHave_31 : decode cX12_mayHave 31 = .ok (.ireturn, 1) := by decide +kernel
theorem dX12_with_0 : decode cX12_with 0 = .ok (.aload_n 0, 1) := by decide +kernel
theorem dX12_with_1 : decode cX12_with 1 = .ok (.getfield 53, 3) := by decide +kernel
theorem dX12_with_4 : decode cX12_with 4 = .ok (.iload_n 3, 1) := by decide +kernel
theorem dX12_with_5 : decode cX12_with 5 = .ok (.iaload, 1) := by decide +kernel
theorem dX12_with_6 : decode cX12_with 6 = .ok (.aload_n 0, 1) := by decide +kernel
theorem dX12_with_7 : decode cX12_with 7 = .ok (.getfield 113, 3) := by decide +kernel
theorem dX12_with_10 : decode cX12_with 10 = .ok (.iload_n 1, 1) := by decide +kernel
theorem dX12_with_11 : decode cX12_with 11 = .ok (.iconst 1, 1) := by decide +kernel
theorem dX12_with_12 : decode cX12_with 12 = .ok (.iadd, 1) := by decide +kernel
theorem dX12_with_13 : decode cX12_with 13 = .ok (.bipush 8, 2) := by decide +kernel
theorem dX12_with_15 : decode cX12_with 15 = .ok (.ishl, 1) := by decide +kernel
theorem dX12_with_16 : decode cX12_with 16 = .ok (.iload_n 2, 1) := by decide +kernel
theorem dX12_with_17 : decode cX12_with 17 = .ok (.iconst 1, 1) := by decide +kernel
theorem dX12_with_18 : decode cX12_with 18 = .ok (.iload_n 3, 1) := by decide +kernel
theorem dX12_with_19 : decode cX12_with 19 = .ok (.ishl, 1) := by decide +kernel
theorem dX12_with_20 : decode cX12_with 20 = .ok (.ior, 1) := by decide +kernel
theorem dX12_with_21 : decode cX12_with 21 = .ok (.iadd, 1) := by decide +kernel
theorem dX12_with_22 : decode cX12_with 22 = .ok (.iaload, 1) := by decide +kernel
theorem dX12_with_23 : decode cX12_with 23 = .ok (.iadd, 1) := by decide +kernel
theorem dX12_with_24 : decode cX12_with 24 = .ok (.ireturn, 1) := by decide +kernel
theorem dX12_tellLeast_0 : decode cX12_tellLeast 0 = .ok (.iconst 1, 1) := by decide +kernel
theorem dX12_tellLeast_1 : decode cX12_tellLeast 1 = .ok (.aload_n 0, 1) := by decide +kernel
theorem dX12_tellLeast_2 : decode cX12_tellLeast 2 = .ok (.getfield 42, 3) := by decide +kernel
theorem dX12_tellLeast_5 : decode cX12_tellLeast 5 = .ok (.iconst 0, 1) := by decide +kernel
theorem dX12_tellLeast_6 : decode cX12_tellLeast 6 = .ok (.iaload, 1) := by decide +kernel
theorem dX12_tellLeast_7 : decode cX12_tellLeast 7 = .ok (.ishl, 1) := by decide +kernel
theorem dX12_tellLeast_8 : decode cX12_tellLeast 8 = .ok (.istore_n 1, 1) := by decide +kernel
theorem dX12_tellLeast_9 : decode cX12_tellLeast 9 = .ok (.iconst 0, 1) := by decide +kernel
theorem dX12_tellLeast_10 : decode cX12_tellLeast 10 = .ok (.istore_n 2, 1) := by decide +kernel
theorem dX12_tellLeast_11 : decode cX12_tellLeast 11 = .ok (.iload_n 2, 1) := by decide +kernel
theorem dX12_tellLeast_12 : decode cX12_tellLeast 12 = .ok (.iload_n 1, 1) := by decide +kernel
theorem dX12_tellLeast_13 : decode cX12_tellLeast 13 = .ok (.if_icmp .ge 26, 3) := by decide +kernel
theorem dX12_tellLeast_16 : decode cX12_tellLeast 16 = .ok (.aload_n 0, 1) := by decide +kernel
theorem dX12_tellLeast_17 : decode cX12_tellLeast 17 = .ok (.getfield 113, 3) := by decide +kernel
theorem dX12_tellLeast_20 : decode cX12_tellLeast 20 = .ok (.aload_n 0, 1) := by decide +kernel
theorem dX12_tellLeast_21 : decode cX12_tellLeast 21 = .ok (.getfield 42, 3) := by decide +kernel
theorem dX12_tellLeast_24 : decode cX12_tellLeast 24 = .ok (.iconst 1, 1) := by decide +kernel
theorem dX12_tellLeast_25 : decode cX12_tellLeast 25 = .ok (.iaload, 1) := by decide +kernel
theorem dX12_tellLeast_26 : decode cX12_tellLeast 26 = .ok (.bipush 8, 2) := by decide +kernel
theorem dX12_tellLeast_28 : decode cX12_tellLeast 28 = .ok (.ishl, 1) := by decide +kernel
theorem dX12_tellLeast_29 : decode cX12_tellLeast 29 = .ok (.iload_n 2, 1) := by decide +kernel
theorem dX12_tellLeast_30 : decode cX12_tellLeast 30 = .ok (.iadd, 1) := by decide +kernel
theorem dX12_tellLeast_31 : decode cX12_tellLeast 31 = .ok (.iconst 0, 1) := by decide +kernel
theorem dX12_tellLeast_32 : decode cX12_tellLeast 32 = .ok (.iastore, 1) := by decide +kernel
theorem dX12_tellLeast_33 : decode cX12_tellLeast 33 = .ok (.iinc 2 1, 3) := by decide +kernel
theorem dX12_tellLeast_36 : decode cX12_tellLeast 36 = .ok (.goto (-25), 3) := by decide +kernel
theorem dX12_tellLeast_39 : decode cX12_tellLeast 39 = .ok (.aload_n 0, 1) := by decide +kernel
theorem dX12_tellLeast_40 : decode cX12_tellLeast 40 = .ok (.getfield 42, 3) := by decide +kernel
theorem dX12_tellLeast_43 : decode cX12_tellLeast 43 = .ok (.iconst 1, 1) := by decide +kernel
theorem dX12_tellLeast_44 : decode cX12_tellLeast 44 = .ok (.iaload, 1) := by decide +kernel
theorem dX12_tellLeast_45 : decode cX12_tellLeast 45 = .ok (.iconst 1, 1) := by decide +kernel
theorem dX12_tellLeast_46 : decode cX12_tellLeast 46 = .ok (.isub, 1) := by decide +kernel
theorem dX12_tellLeast_47 : decode cX12_tellLeast 47 = .ok (.istore_n 2, 1) := by decide +kernel
theorem dX12_tellLeast_48 : decode cX12_tellLeast 48 = .ok (.iload_n 2, 1) := by decide +kernel
theorem dX12_tellLeast_49 : decode cX12_tellLeast 49 = .ok (.ifCond .lt 100, 3) := by decide +kernel
theorem dX12_tellLeast_52 : decode cX12_tellLeast 52 = .ok (.iconst 0, 1) := by decide +kernel
theorem dX12_tellLeast_53 : decode cX12_tellLeast 53 = .ok (.istore_n 3, 1) := by decide +kernel
theorem dX12_tellLeast_54 : decode cX12_tellLeast 54 = .ok (.iload_n 3, 1) := by decide +kernel
theorem dX12_tellLeast_55 : decode cX12_tellLeast 55 = .ok (.iload_n 1, 1) := by decide +kernel
theorem dX12_tellLeast_56 : decode cX12_tellLeast 56 = .ok (.if_icmp .ge 87, 3) := by decide +kernel
theorem dX12_tellLeast_59 : decode cX12_tellLeast 59 = .ok (.sipush 1000, 3) := by decide +kernel
theorem dX12_tellLeast_62 : decode cX12_tellLeast 62 = .ok (.aload_n 0, 1) := by decide +kernel
theorem dX12_tellLeast_63 : decode cX12_tellLeast 63 = .ok (.getfield 113, 3) := by decide +kernel
theorem dX12_tellLeast_66 : decode cX12_tellLeast 66 = .ok (.iload_n 2, 1) := by decide +kernel
theorem dX12_tellLeast_67 : decode cX12_tellLeast 67 = .ok (.iconst 1, 1) := by decide +kernel
theorem dX12_tellLeast_68 : decode cX12_tellLeast 68 = .ok (.iadd, 1) := by decide +kernel
theorem dX12_tellLeast_69 : decode cX12_tellLeast 69 = .ok (.bipush 8, 2) := by decide +kernel
theorem dX12_tellLeast_71 : decode cX12_tellLeast 71 = .ok (.ishl, 1) := by decide +kernel
theorem dX12_tellLeast_72 : decode cX12_tellLeast 72 = .ok (.iload_n 3, 1) := by decide +kernel
theorem dX12_tellLeast_73 : decode cX12_tellLeast 73 = .ok (.iadd, 1) := by decide +kernel
theorem dX12_tellLeast_74 : decode cX12_tellLeast 74 = .ok (.iaload, 1) := by decide +kernel
theorem dX12_tellLeast_75 : decode cX12_tellLeast 75 = .ok (.iadd, 1) := by decide +kernel
theorem dX12_tellLeast_76 : decode cX12_tellLeast 76 = .ok (.istore 4, 2) := by decide +kernel
theorem dX12_tellLeast_78 : decode cX12_tellLeast 78 = .ok (.iconst 0, 1) := by decide +kernel
theorem dX12_tellLeast_79 : decode cX12_tellLeast 79 = .ok (.istore 5, 2) := by decide +kernel
theorem dX12_tellLeast_81 : decode cX12_tellLeast 81 = .ok (.iload 5, 2) := by decide +kernel
theorem dX12_tellLeast_83 : decode cX12_tellLeast 83 = .ok (.aload_n 0, 1) := by decide +kernel
theorem dX12_tellLeast_84 : decode cX12_tellLeast 84 = .ok (.getfield 42, 3) := by decide +kernel
theorem dX12_tellLeast_87 : decode cX12_tellLeast 87 = .ok (.iconst 0, 1) := by decide +kernel
theorem dX12_tellLeast_88 : decode cX12_tellLeast 88 = .ok (.iaload, 1) := by decide +kernel
theorem dX12_tellLeast_89 : decode cX12_tellLeast 89 = .ok (.if_icmp .ge 35, 3) := by decide +kernel
theorem dX12_tellLeast_92 : decode cX12_tellLeast 92 = .ok (.aload_n 0, 1) := by decide +kernel
theorem dX12_tellLeast_93 : decode cX12_tellLeast 93 = .ok (.iload_n 2, 1) := by decide +kernel
theorem dX12_tellLeast_94 : decode cX12_tellLeast 94 = .ok (.iload_n 3, 1) := by decide +kernel
theorem dX12_tellLeast_95 : decode cX12_tellLeast 95 = .ok (.iload 5, 2) := by decide +kernel
theorem dX12_tellLeast_97 : decode cX12_tellLeast 97 = .ok (.invokevirtual 443, 3) := by decide +kernel
theorem dX12_tellLeast_100 : decode cX12_tellLeast 100 = .ok (.ifCond .eq 18, 3) := by decide +kernel
theorem dX12_tellLeast_103 : decode cX12_tellLeast 103 = .ok (.iload 4, 2) := by decide +kernel
theorem dX12_tellLeast_105 : decode cX12_tellLeast 105 = .ok (.aload_n 0, 1) := by decide +kernel
theorem dX12_tellLeast_106 : decode cX12_tellLeast 106 = .ok (.iload_n 2, 1) := by decide +kernel
theorem dX12_tellLeast_107 : decode cX12_tellLeast 107 = .ok (.iload_n 3, 1) := by decide +kernel
theorem dX12_tellLeast_108 : decode cX12_tellLeast 108 = .ok (.iload 5, 2) := by decide +kernel
theorem dX12_tellLeast_110 : decode cX12_tellLeast 110 = .ok (.invokevirtual 447, 3) := by decide +kernel
theorem dX12_tellLeast_113 : decode cX12_tellLeast 113 = .ok (.invokestatic 192, 3) := by decide +kernel
theorem dX12_tellLeast_116 : decode cX12_tellLeast 116 = .ok (.istore 4, 2) := by decide +kernel
theorem dX12_tellLeast_118 : decode cX12_tellLeast 118 = .ok (.iinc 5 1, 3) := by decide +kernel
theorem dX12_tellLeast_121 : decode cX12_tellLeast 121 = .ok (.goto (-40), 3) := by decide +kernel
theorem dX12_tellLeast_124 : decode cX12_tellLeast 124 = .ok (.aload_n 0, 1) := by decide +kernel
theorem dX12_tellLeast_125 : decode cX12_tellLeast 125 = .ok (.getfield 113, 3) := by decide +kernel
theorem dX12_tellLeast_128 : decode cX12_tellLeast 128 = .ok (.iload_n 2, 1) := by decide +kernel
theorem dX12_tellLeast_129 : decode cX12_tellLeast 129 = .ok (.bipush 8, 2) := by decide +kernel
theorem dX12_tellLeast_131 : decode cX12_tellLeast 131 = .ok (.ishl, 1) := by decide +kernel
theorem dX12_tellLeast_132 : decode cX12_tellLeast 132 = .ok (.iload_n 3, 1) := by decide +kernel
theorem dX12_tellLeast_133 : decode cX12_tellLeast 133 = .ok (.iadd, 1) := by decide +kernel
theorem dX12_tellLeast_134 : decode cX12_tellLeast 134 = .ok (.iload 4, 2) := by decide +kernel
theorem dX12_tellLeast_136 : decode cX12_tellLeast 136 = .ok (.iastore, 1) := by decide +kernel
theorem dX12_tellLeast_137 : decode cX12_tellLeast 137 = .ok (.iinc 3 1, 3) := by decide +kernel
theorem dX12_tellLeast_140 : decode cX12_tellLeast 140 = .ok (.goto (-86), 3) := by decide +kernel
theorem dX12_tellLeast_143 : decode cX12_tellLeast 143 = .ok (.iinc 2 (-1), 3) := by decide +kernel
theorem dX12_tellLeast_146 : decode cX12_tellLeast 146 = .ok (.goto (-98), 3) := by decide +kernel
theorem dX12_tellLeast_149 : decode cX12_tellLeast 149 = .ok (.return_, 1) := by decide +kernel
theorem dX12_shared_0 : decode cX12_shared 0 = .ok (.aload_n 0, 1) := by decide +kernel
theorem dX12_shared_1 : decode cX12_shared 1 = .ok (.iconst 0, 1) := by decide +kernel
theorem dX12_shared_2 : decode cX12_shared 2 = .ok (.putfield 155, 3) := by decide +kernel
theorem dX12_shared_5 : decode cX12_shared 5 = .ok (.iload_n 1, 1) := by decide +kernel
theorem dX12_shared_6 : decode cX12_shared 6 = .ok (.ifCond .lt 8, 3) := by decide +kernel
theorem dX12_shared_9 : decode cX12_shared 9 = .ok (.iload_n 1, 1) := by decide +kernel
theorem dX12_shared_10 : decode cX12_shared 10 = .ok (.iconst 1, 1) := by decide +kernel
theorem dX12_shared_11 : decode cX12_shared 11 = .ok (.if_icmp .le 9, 3) := by decide +kernel
theorem dX12_shared_14 : decode cX12_shared 14 = .ok (.aload_n 0, 1) := by decide +kernel
theorem dX12_shared_15 : decode cX12_shared 15 = .ok (.iconst 1, 1) := by decide +kernel
theorem dX12_shared_16 : decode cX12_shared 16 = .ok (.invokevirtual 308, 3) := by decide +kernel
theorem dX12_shared_19 : decode cX12_shared 19 = .ok (.ireturn, 1) := by decide +kernel
theorem dX12_shared_20 : decode cX12_shared 20 = .ok (.aload_n 0, 1) := by decide +kernel
theorem dX12_shared_21 : decode cX12_shared 21 = .ok (.invokevirtual 450, 3) := by decide +kernel
theorem dX12_shared_24 : decode cX12_shared 24 = .ok (.iload_n 1, 1) := by decide +kernel
theorem dX12_shared_25 : decode cX12_shared 25 = .ok (.ifCond .ne 23, 3) := by decide +kernel
theorem dX12_shared_28 : decode cX12_shared 28 = .ok (.aload_n 0, 1) := by decide +kernel
theorem dX12_shared_29 : decode cX12_shared 29 = .ok (.getfield 42, 3) := by decide +kernel
theorem dX12_shared_32 : decode cX12_shared 32 = .ok (.iconst 1, 1) := by decide +kernel
theorem dX12_shared_33 : decode cX12_shared 33 = .ok (.iaload, 1) := by decide +kernel
theorem dX12_shared_34 : decode cX12_shared 34 = .ok (.aload_n 0, 1) := by decide +kernel
theorem dX12_shared_35 : decode cX12_shared 35 = .ok (.getfield 113, 3) := by decide +kernel
theorem dX12_shared_38 : decode cX12_shared 38 = .ok (.iconst 0, 1) := by decide +kernel
theorem dX12_shared_39 : decode cX12_shared 39 = .ok (.iaload, 1) := by decide +kernel
theorem dX12_shared_40 : decode cX12_shared 40 = .ok (.sipush 1000, 3) := by decide +kernel
theorem dX12_shared_43 : decode cX12_shared 43 = .ok (.idiv, 1) := by decide +kernel
