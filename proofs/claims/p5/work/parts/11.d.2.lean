theorem dX10_begin_8 : decode cX10_begin 8 = .ok (.return_, 1) := by decide +kernel
theorem dX10_begin_9 : decode cX10_begin 9 = .ok (.aload_n 0, 1) := by decide +kernel
theorem dX10_begin_10 : decode cX10_begin 10 = .ok (.aload_n 1, 1) := by decide +kernel
theorem dX10_begin_11 : decode cX10_begin 11 = .ok (.getfield 42, 3) := by decide +kernel
theorem dX10_begin_14 : decode cX10_begin 14 = .ok (.iload_n 3, 1) := by decide +kernel
theorem dX10_begin_15 : decode cX10_begin 15 = .ok (.iaload, 1) := by decide +kernel
theorem dX10_begin_16 : decode cX10_begin 16 = .ok (.putfield 9, 3) := by decide +kernel
theorem dX10_begin_19 : decode cX10_begin 19 = .ok (.aload_n 0, 1) := by decide +kernel
theorem dX10_begin_20 : decode cX10_begin 20 = .ok (.aload_n 2, 1) := by decide +kernel
theorem dX10_begin_21 : decode cX10_begin 21 = .ok (.getfield 45, 3) := by decide +kernel
theorem dX10_begin_24 : decode cX10_begin 24 = .ok (.iload_n 3, 1) := by decide +kernel
theorem dX10_begin_25 : decode cX10_begin 25 = .ok (.iaload, 1) := by decide +kernel
theorem dX10_begin_26 : decode cX10_begin 26 = .ok (.putfield 15, 3) := by decide +kernel
theorem dX10_begin_29 : decode cX10_begin 29 = .ok (.aload_n 0, 1) := by decide +kernel
theorem dX10_begin_30 : decode cX10_begin 30 = .ok (.aload_n 2, 1) := by decide +kernel
theorem dX10_begin_31 : decode cX10_begin 31 = .ok (.getfield 49, 3) := by decide +kernel
theorem dX10_begin_34 : decode cX10_begin 34 = .ok (.iload_n 3, 1) := by decide +kernel
theorem dX10_begin_35 : decode cX10_begin 35 = .ok (.iaload, 1) := by decide +kernel
theorem dX10_begin_36 : decode cX10_begin 36 = .ok (.putfield 18, 3) := by decide +kernel
theorem dX10_begin_39 : decode cX10_begin 39 = .ok (.aload_n 0, 1) := by decide +kernel
theorem dX10_begin_40 : decode cX10_begin 40 = .ok (.aload_n 2, 1) := by decide +kernel
theorem dX10_begin_41 : decode cX10_begin 41 = .ok (.getfield 51, 3) := by decide +kernel
theorem dX10_begin_44 : decode cX10_begin 44 = .ok (.iload_n 3, 1) := by decide +kernel
theorem dX10_begin_45 : decode cX10_begin 45 = .ok (.iaload, 1) := by decide +kernel
theorem dX10_begin_46 : decode cX10_begin 46 = .ok (.putfield 21, 3) := by decide +kernel
theorem dX10_begin_49 : decode cX10_begin 49 = .ok (.aload_n 0, 1) := by decide +kernel
theorem dX10_begin_50 : decode cX10_begin 50 = .ok (.aload_n 2, 1) := by decide +kernel
theorem dX10_begin_51 : decode cX10_begin 51 = .ok (.getfield 53, 3) := by decide +kernel
theorem dX10_begin_54 : decode cX10_begin 54 = .ok (.iload_n 3, 1) := by decide +kernel
theorem dX10_begin_55 : decode cX10_begin 55 = .ok (.iaload, 1) := by decide +kernel
theorem dX10_begin_56 : decode cX10_begin 56 = .ok (.putfield 24, 3) := by decide +kernel
theorem dX10_begin_59 : decode cX10_begin 59 = .ok (.aload_n 0, 1) := by decide +kernel
theorem dX10_begin_60 : decode cX10_begin 60 = .ok (.aload_n 2, 1) := by decide +kernel
theorem dX10_begin_61 : decode cX10_begin 61 = .ok (.getfield 55, 3) := by decide +kernel
theorem dX10_begin_64 : decode cX10_begin 64 = .ok (.putfield 27, 3) := by decide +kernel
theorem dX10_begin_67 : decode cX10_begin 67 = .ok (.aload_n 0, 1) := by decide +kernel
theorem dX10_begin_68 : decode cX10_begin 68 = .ok (.aload_n 1, 1) := by decide +kernel
theorem dX10_begin_69 : decode cX10_begin 69 = .ok (.aload_n 0, 1) := by decide +kernel
theorem dX10_begin_70 : decode cX10_begin 70 = .ok (.getfield 27, 3) := by decide +kernel
theorem dX10_begin_73 : decode cX10_begin 73 = .ok (.invokevirtual 56, 3) := by decide +kernel
theorem dX10_begin_76 : decode cX10_begin 76 = .ok (.putfield 30, 3) := by decide +kernel
theorem dX10_begin_79 : decode cX10_begin 79 = .ok (.aload_n 0, 1) := by decide +kernel
theorem dX10_begin_80 : decode cX10_begin 80 = .ok (.aload_n 2, 1) := by decide +kernel
theorem dX10_begin_81 : decode cX10_begin 81 = .ok (.getfield 60, 3) := by decide +kernel
theorem dX10_begin_84 : decode cX10_begin 84 = .ok (.putfield 33, 3) := by decide +kernel
theorem dX10_begin_87 : decode cX10_begin 87 = .ok (.return_, 1) := by decide +kernel
theorem dX10_end_0 : decode cX10_end 0 = .ok (.iload_n 2, 1) := by decide +kernel
theorem dX10_end_1 : decode cX10_end 1 = .ok (.ifCond .lt 9, 3) := by decide +kernel
theorem dX10_end_4 : decode cX10_end 4 = .ok (.iload_n 2, 1) := by decide +kernel
theorem dX10_end_5 : decode cX10_end 5 = .ok (.bipush 6, 2) := by decide +kernel
theorem dX10_end_7 : decode cX10_end 7 = .ok (.if_icmp .lt 4, 3) := by decide +kernel
theorem dX10_end_10 : decode cX10_end 10 = .ok (.return_, 1) := by decide +kernel
theorem dX10_end_11 : decode cX10_end 11 = .ok (.aload_n 1, 1) := by decide +kernel
theorem dX10_end_12 : decode cX10_end 12 = .ok (.getfield 45, 3) := by decide +kernel
theorem dX10_end_15 : decode cX10_end 15 = .ok (.iload_n 2, 1) := by decide +kernel
theorem dX10_end_16 : decode cX10_end 16 = .ok (.aload_n 0, 1) := by decide +kernel
theorem dX10_end_17 : decode cX10_end 17 = .ok (.getfield 15, 3) := by decide +kernel
theorem dX10_end_20 : decode cX10_end 20 = .ok (.iastore, 1) := by decide +kernel
theorem dX10_end_21 : decode cX10_end 21 = .ok (.aload_n 1, 1) := by decide +kernel
theorem dX10_end_22 : decode cX10_end 22 = .ok (.getfield 49, 3) := by decide +kernel
theorem dX10_end_25 : decode cX10_end 25 = .ok (.iload_n 2, 1) := by decide +kernel
theorem dX10_end_26 : decode cX10_end 26 = .ok (.aload_n 0, 1) := by decide +kernel
theorem dX10_end_27 : decode cX10_end 27 = .ok (.getfield 18, 3) := by decide +kernel
theorem dX10_end_30 : decode cX10_end 30 = .ok (.iastore, 1) := by decide +kernel
theorem dX10_end_31 : decode cX10_end 31 = .ok (.aload_n 1, 1) := by decide +kernel
theorem dX10_end_32 : decode cX10_end 32 = .ok (.getfield 51, 3) := by decide +kernel
theorem dX10_end_35 : decode cX10_end 35 = .ok (.iload_n 2, 1) := by decide +kernel
theorem dX10_end_36 : decode cX10_end 36 = .ok (.aload_n 0, 1) := by decide +kernel
theorem dX10_end_37 : decode cX10_end 37 = .ok (.getfield 21, 3) := by decide +kernel
theorem dX10_end_40 : decode cX10_end 40 = .ok (.iastore, 1) := by decide +kernel
theorem dX10_end_41 : decode cX10_end 41 = .ok (.aload_n 1, 1) := by decide +kernel
theorem dX10_end_42 : decode cX10_end 42 = .ok (.getfield 53, 3) := by decide +kernel
theorem dX10_end_45 : decode cX10_end 45 = .ok (.iload_n 2, 1) := by decide +kernel
theorem dX10_end_46 : decode cX10_end 46 = .ok (.aload_n 0, 1) := by decide +kernel
theorem dX10_end_47 : decode cX10_end 47 = .ok (.getfield 24, 3) := by decide +kernel
theorem dX10_end_50 : decode cX10_end 50 = .ok (.iastore, 1) := by decide +kernel
theorem dX10_end_51 : decode cX10_end 51 = .ok (.return_, 1) := by decide +kernel
theorem dX10_repent_0 : decode cX10_repent 0 = .ok (.aload_n 0, 1) := by decide +kernel
theorem dX10_repent_1 : decode cX10_repent 1 = .ok (.dup, 1) := by decide +kernel
theorem dX10_repent_2 : decode cX10_repent 2 = .ok (.getfield 18, 3) := by decide +kernel
theorem dX10_repent_5 : decode cX10_repent 5 = .ok (.bipush 50, 2) := by decide +kernel
theorem dX10_repent_7 : decode cX10_repent 7 = .ok (.isub, 1) := by decide +kernel
theorem dX10_repent_8 : decode cX10_repent 8 = .ok (.putfield 18, 3) := by decide +kernel
theorem dX10_repent_11 : decode cX10_repent 11 = .ok (.aload_n 0, 1) := by decide +kernel
theorem dX10_repent_12 : decode cX10_repent 12 = .ok (.dup, 1) := by decide +kernel
theorem dX10_repent_13 : decode cX10_repent 13 = .ok (.getfield 15, 3) := by decide +kernel
theorem dX10_repent_16 : decode cX10_repent 16 = .ok (.iconst 2, 1) := by decide +kernel
theorem dX10_repent_17 : decode cX10_repent 17 = .ok (.idiv, 1) := by decide +kernel
theorem dX10_repent_18 : decode cX10_repent 18 = .ok (.putfield 15, 3) := by decide +kernel
theorem dX10_repent_21 : decode cX10_repent 21 = .ok (.return_, 1) := by decide +kernel
theorem dX10_passHours_0 : decode cX10_passHours 0 = .ok (.iconst 0, 1) := by decide +kernel
theorem dX10_passHours_1 : decode cX10_passHours 1 = .ok (.istore_n 3, 1) := by decide +kernel
theorem dX10_passHours_2 : decode cX10_passHours 2 = .ok (.iload_n 3, 1) := by decide +kernel
theorem dX10_passHours_3 : decode cX10_passHours 3 = .ok (.iload_n 2, 1) := by decide +kernel
theorem dX10_passHours_4 : decode cX10_passHours 4 = .ok (.if_icmp .ge 23, 3) := by decide +kernel
theorem dX10_passHours_7 : decode cX10_passHours 7 = .ok (.aload_n 0, 1) := by decide +kernel
theorem dX10_passHours_8 : decode cX10_passHours 8 = .ok (.aload_n 1, 1) := by decide +kernel
theorem dX10_passHours_9 : decode cX10_passHours 9 = .ok (.aload_n 1, 1) := by decide +kernel
theorem dX10_passHours_10 : decode cX10_passHours 10 = .ok (.aload_n 0, 1) := by decide +kernel
theorem dX10_passHours_11 : decode cX10_passHours 11 = .ok (.getfield 27, 3) := by decide +kernel
theorem dX10_passHours_14 : decode cX10_passHours 14 = .ok (.invokevirtual 56, 3) := by decide +kernel
theorem dX10_passHours_17 : decode cX10_passHours 17 = .ok (.invokevirtual 61, 3) := by decide +kernel
theorem dX10_passHours_20 : decode cX10_passHours 20 = .ok (.pop, 1) := by decide +kernel
theorem dX10_passHours_21 : decode cX10_passHours 21 = .ok (.iinc 3 1, 3) := by decide +kernel
theorem dX10_passHours_24 : decode cX10_passHours 24 = .ok (.goto (-22), 3) := by decide +kernel
theorem dX10_passHours_27 : decode cX10_passHours 27 = .ok (.return_, 1) := by decide +kernel
theorem dX10_passHour_0 : decode cX10_passHour 0 = .ok (.aload_n 0, 1) := by decide +kernel
theorem dX10_passHour_1 : decode cX10_passHour 1 = .ok (.iload_n 2, 1) := by decide +kernel
theorem dX10_passHour_2 : decode cX10_passHour 2 = .ok (.putfield 30, 3) := by decide +kernel
theorem dX10_passHour_5 : decode cX10_passHour 5 = .ok (.aload_n 1, 1) := by decide +kernel
theorem dX10_passHour_6 : decode cX10_passHour 6 = .ok (.aload_n 0, 1) := by decide +kernel
theorem dX10_passHour_7 : decode cX10_passHour 7 = .ok (.getfield 24, 3) := by decide +kernel
theorem dX10_passHour_10 : decode cX10_passHour 10 = .ok (.invokevirtual 65, 3) := by decide +kernel
theorem dX10_passHour_13 : decode cX10_passHour 13 = .ok (.ifCond .eq 48, 3) := by decide +kernel
theorem dX10_passHour_16 : decode cX10_passHour 16 = .ok (.aload_n 1, 1) := by decide +kernel
theorem dX10_passHour_17 : decode cX10_passHour 17 = .ok (.aload_n 0, 1) := by decide +kernel
theorem dX10_passHour_18 : decode cX10_passHour 18 = .ok (.getfield 24, 3) := by decide +kernel
theorem dX10_passHour_21 : decode cX10_passHour 21 = .ok (.aload_n 0, 1) := by decide +kernel
theorem dX10_passHour_22 : decode cX10_passHour 22 = .ok (.getfield 27, 3) := by decide +kernel
theorem dX10_passHour_25 : decode cX10_passHour 25 = .ok (.aload_n 0, 1) := by decide +kernel
theorem dX10_passHour_26 : decode cX10_passHour 26 = .ok (.getfield 30, 3) := by decide +kernel
theorem dX10_passHour_29 : decode cX10_passHour 29 = .ok (.aload_n 0, 1) := by decide +kernel
theorem dX10_passHour_30 : decode cX10_passHour 30 = .ok (.getfield 33, 3) := by decide +kernel
theorem dX10_passHour_33 : decode cX10_passHour 33 = .ok (.invokevirtual 68, 3) := by decide +kernel
theorem dX10_passHour_36 : decode cX10_passHour 36 = .ok (.ifCond .eq 25, 3) := by decide +kernel
theorem dX10_passHour_39 : decode cX10_passHour 39 = .ok (.aload_n 0, 1) := by decide +kernel
theorem dX10_passHour_40 : decode cX10_passHour 40 = .ok (.aload_n 1, 1) := by decide +kernel
theorem dX10_passHour_41 : decode cX10_passHour 41 = .ok (.invokevirtual 72, 3) := by decide +kernel
theorem dX10_passHour_44 : decode cX10_passHour 44 = .ok (.aload_n 1, 1) := by decide +kernel
theorem dX10_passHour_45 : decode cX10_passHour 45 = .ok (.getfield 76, 3) := by decide +kernel
theorem dX10_passHour_48 : decode cX10_passHour 48 = .ok (.aload_n 0, 1) := by decide +kernel
theorem dX10_passHour_49 : decode cX10_passHour 49 = .ok (.getfield 24, 3) := by decide +kernel
theorem dX10_passHour_52 : decode cX10_passHour 52 = .ok (.baload, 1) := by decide +kernel
theorem dX10_passHour_53 : decode cX10_passHour 53 = .ok (.ifCond .eq 8, 3) := by decide +kernel
theorem dX10_passHour_56 : decode cX10_passHour 56 = .ok (.aload_n 0, 1) := by decide +kernel
theorem dX10_passHour_57 : decode cX10_passHour 57 = .ok (.aload_n 1, 1) := by decide +kernel
theorem dX10_passHour_58 : decode cX10_passHour 58 = .ok (.invokevirtual 72, 3) := by decide +kernel
theorem dX10_passHour_61 : decode cX10_passHour 61 = .ok (.aload_n 0, 1) := by decide +kernel
theorem dX10_passHour_62 : decode cX10_passHour 62 = .ok (.sipush 999, 3) := by decide +kernel
theorem dX10_passHour_65 : decode cX10_passHour 65 = .ok (.aload_n 0, 1) := by decide +kernel
theorem dX10_passHour_66 : decode cX10_passHour 66 = .ok (.getfield 18, 3) := by decide +kernel
theorem dX10_passHour_69 : decode cX10_passHour 69 = .ok (.iconst 3, 1) := by decide +kernel
theorem dX10_passHour_70 : decode cX10_passHour 70 = .ok (.aload_n 0, 1) := by decide +kernel
theorem dX10_passHour_71 : decode cX10_passHour 71 = .ok (.getfield 9, 3) := by decide +kernel
theorem dX10_passHour_74 : decode cX10_passHour 74 = .ok (.imul, 1) := by decide +kernel
theorem dX10_passHour_75 : decode cX10_passHour 75 = .ok (.iadd, 1) := by decide +kernel
theorem dX10_passHour_76 : decode cX10_passHour 76 = .ok (.invokestatic 80, 3) := by decide +kernel
theorem dX10_passHour_79 : decode cX10_passHour 79 = .ok (.putfield 18, 3) := by decide +kernel
theorem dX10_passHour_82 : decode cX10_passHour 82 = .ok (.aload_n 0, 1) := by decide +kernel
theorem dX10_passHour_83 : decode cX10_passHour 83 = .ok (.bipush 99, 2) := by decide +kernel
theorem dX10_passHour_85 : decode cX10_passHour 85 = .ok (.aload_n 0, 1) := by decide +kernel
theorem dX10_passHour_86 : decode cX10_passHour 86 = .ok (.getfield 15, 3) := by decide +kernel
theorem dX10_passHour_89 : decode cX10_passHour 89 = .ok (.aload_n 0, 1) := by decide +kernel
theorem dX10_passHour_90 : decode cX10_passHour 90 = .ok (.getfield 9, 3) := by decide +kernel
theorem dX10_passHour_93 : decode cX10_passHour 93 = .ok (.iadd, 1) := by decide +kernel
theorem dX10_passHour_94 : decode cX10_passHour 94 = .ok (.invokestatic 80, 3) := by decide +kernel
theorem dX10_passHour_97 : decode cX10_passHour 97 = .ok (.putfield 15, 3) := by decide +kernel
theorem dX10_passHour_100 : decode cX10_passHour 100 = .ok (.aload_n 0, 1) := by decide +kernel
theorem dX10_passHour_101 : decode cX10_passHour 101 = .ok (.aload_n 1, 1) := by decide +kernel
theorem dX10_passHour_102 : decode cX10_passHour 102 = .ok (.invokevirtual 86, 3) := by decide +kernel
theorem dX10_passHour_105 : decode cX10_passHour 105 = .ok (.istore_n 3, 1) := by decide +kernel
theorem dX10_passHour_106 : decode cX10_passHour 106 = .ok (.aload_n 0, 1) := by decide +kernel
theorem dX10_passHour_107 : decode cX10_passHour 107 = .ok (.getfield 18, 3) := by decide +kernel
theorem dX10_passHour_110 : decode cX10_passHour 110 = .ok (.iload_n 3, 1) := by decide +kernel
theorem dX10_passHour_111 : decode cX10_passHour 111 = .ok (.if_icmp .lt 16, 3) := by decide +kernel
theorem dX10_passHour_114 : decode cX10_passHour 114 = .ok (.aload_n 0, 1) := by decide +kernel
theorem dX10_passHour_115 : decode cX10_passHour 115 = .ok (.dup, 1) := by decide +kernel
theorem dX10_passHour_116 : decode cX10_passHour 116 = .ok (.getfield 18, 3) := by decide +kernel
theorem dX10_passHour_119 : decode cX10_passHour 119 = .ok (.iload_n 3, 1) := by decide +kernel
theorem dX10_passHour_120 : decode cX10_passHour 120 = .ok (.isub, 1) := by decide +kernel
theorem dX10_passHour_121 : decode cX10_passHour 121 = .ok (.putfield 18, 3) := by decide +kernel
theorem dX10_passHour_124 : decode cX10_passHour 124 = .ok (.goto 8, 3) := by decide +kernel
theorem dX10_passHour_127 : decode cX10_passHour 127 = .ok (.aload_n 0, 1) := by decide +kernel
theorem dX10_passHour_128 : decode cX10_passHour 128 = .ok (.iconst (-1), 1) := by decide +kernel
theorem dX10_passHour_129 : decode cX10_passHour 129 = .ok (.putfield 24, 3) := by decide +kernel
theorem dX10_passHour_132 : decode cX10_passHour 132 = .ok (.aload_n 0, 1) := by decide +kernel
theorem dX10_passHour_133 : decode cX10_passHour 133 = .ok (.getfield 15, 3) := by decide +kernel
theorem dX10_passHour_136 : decode cX10_passHour 136 = .ok (.aload_n 1, 1) := by decide +kernel
theorem dX10_passHour_137 : decode cX10_passHour 137 = .ok (.invokevirtual 90, 3) := by decide +kernel
theorem dX10_passHour_140 : decode cX10_passHour 140 = .ok (.if_icmp .le 7, 3) := by decide +kernel
theorem dX10_passHour_143 : decode cX10_passHour 143 = .ok (.iconst 1, 1) := by decide +kernel
theorem dX10_passHour_144 : decode cX10_passHour 144 = .ok (.goto 4, 3) := by decide +kernel
theorem dX10_passHour_147 : decode cX10_passHour 147 = .ok (.iconst 0, 1) := by decide +kernel
theorem dX10_passHour_148 : decode cX10_passHour 148 = .ok (.istore 4, 2) := by decide +kernel
theorem dX10_passHour_150 : decode cX10_passHour 150 = .ok (.iload 4, 2) := by decide +kernel
theorem dX10_passHour_152 : decode cX10_passHour 152 = .ok (.ifCond .eq 29, 3) := by decide +kernel
theorem dX10_passHour_155 : decode cX10_passHour 155 = .ok (.aload_n 0, 1) := by decide +kernel
theorem dX10_passHour_156 : decode cX10_passHour 156 = .ok (.dup, 1) := by decide +kernel
theorem dX10_passHour_157 : decode cX10_passHour 157 = .ok (.getfield 18, 3) := by decide +kernel
theorem dX10_passHour_160 : decode cX10_passHour 160 = .ok (.iconst 2, 1) := by decide +kernel
theorem dX10_passHour_161 : decode cX10_passHour 161 = .ok (.idiv, 1) := by decide +kernel
theorem dX10_passHour_162 : decode cX10_passHour 162 = .ok (.putfield 18, 3) := by decide +kernel
theorem dX10_passHour_165 : decode cX10_passHour 165 = .ok (.aload_n 0, 1) := by decide +kernel
theorem dX10_passHour_166 : decode cX10_passHour 166 = .ok (.sipush 999, 3) := by decide +kernel
theorem dX10_passHour_169 : decode cX10_passHour 169 = .ok (.aload_n 0, 1) := by decide +kernel
theorem dX10_passHour_170 : decode cX10_passHour 170 = .ok (.getfield 21, 3) := by decide +kernel
theorem dX10_passHour_173 : decode cX10_passHour 173 = .ok (.iconst 1, 1) := by decide +kernel
theorem dX10_passHour_174 : decode cX10_passHour 174 = .ok (.iadd, 1) := by decide +kernel
theorem dX10_passHour_175 : decode cX10_passHour 175 = .ok (.invokestatic 80, 3) := by decide +kernel
theorem dX10_passHour_178 : decode cX10_passHour 178 = .ok (.putfield 21, 3) := by decide +kernel
theorem dX10_passHour_181 : decode cX10_passHour 181 = .ok (.aload_n 0, 1) := by decide +kernel
theorem dX10_passHour_182 : decode cX10_passHour 182 = .ok (.dup, 1) := by decide +kernel
theorem dX10_passHour_183 : decode cX10_passHour 183 = .ok (.getfield 27, 3) := by decide +kernel
theorem dX10_passHour_186 : decode cX10_passHour 186 = .ok (.iconst 1, 1) := by decide +kernel
theorem dX10_passHour_187 : decode cX10_passHour 187 = .ok (.iadd, 1) := by decide +kernel
theorem dX10_passHour_188 : decode cX10_passHour 188 = .ok (.putfield 27, 3) := by decide +kernel
theorem dX10_passHour_191 : decode cX10_passHour 191 = .ok (.iload 4, 2) := by decide +kernel
theorem dX10_passHour_193 : decode cX10_passHour 193 = .ok (.ireturn, 1) := by decide +kernel
theorem dX10_cost_0 : decode cX10_cost 0 = .ok (.aload_n 1, 1) := by decide +kernel
theorem dX10_cost_1 : decode cX10_cost 1 = .ok (.aload_n 0, 1) := by decide +kernel
theorem dX10_cost_2 : decode cX10_cost 2 = .ok (.getfield 24, 3) := by decide +kernel
theorem dX10_cost_5 : decode cX10_cost 5 = .ok (.invokevirtual 65, 3) := by decide +kernel
theorem dX10_cost_8 : decode cX10_cost 8 = .ok (.ifCond .ne 5, 3) := by decide +kernel
theorem dX10_cost_11 : decode cX10_cost 11 = .ok (.iconst 0, 1) := by decide +kernel
theorem dX10_cost_12 : decode cX10_cost 12 = .ok (.ireturn, 1) := by decide +kernel
theorem dX10_cost_13 : decode cX10_cost 13 = .ok (.aload_n 1, 1) := by decide +kernel
theorem dX10_cost_14 : decode cX10_cost 14 = .ok (.getfield 94, 3) := by decide +kernel
theorem dX10_cost_17 : decode cX10_cost 17 = .ok (.invokevirtual 98, 3) := by decide +kernel
theorem dX10_cost_20 : decode cX10_cost 20 = .ok (.ifCond .eq 15, 3) := by decide +kernel
theorem dX10_cost_23 : decode cX10_cost 23 = .ok (.aload_n 1, 1) := by decide +kernel
theorem dX10_cost_24 : decode cX10_cost 24 = .ok (.getfield 94, 3) := by decide +kernel
theorem dX10_cost_27 : decode cX10_cost 27 = .ok (.aload_n 1, 1) := by decide +kernel
theorem dX10_cost_28 : decode cX10_cost 28 = .ok (.aload_n 0, 1) := by decide +kernel
theorem dX10_cost_29 : decode cX10_cost 29 = .ok (.invokevirtual 104, 3) := by decide +kernel
theorem dX10_cost_32 : decode cX10_cost 32 = .ok (.goto 12, 3) := by decide +kernel
theorem dX10_cost_35 : decode cX10_cost 35 = .ok (.aload_n 1, 1) := by decide +kernel
theorem dX10_cost_36 : decode cX10_cost 36 = .ok (.getfield 108, 3) := by decide +kernel
theorem dX10_cost_39 : decode cX10_cost 39 = .ok (.aload_n 0, 1) := by decide +kernel
theorem dX10_cost_40 : decode cX10_cost 40 = .ok (.getfield 24, 3) := by decide +kernel
theorem dX10_cost_43 : decode cX10_cost 43 = .ok (.iaload, 1) := by decide +kernel
theorem dX10_cost_44 : decode cX10_cost 44 = .ok (.istore_n 2, 1) := by decide +kernel
theorem dX10_cost_45 : decode cX10_cost 45 = .ok (.iconst 0, 1) := by decide +kernel
theorem dX10_cost_46 : decode cX10_cost 46 = .ok (.bipush 50, 2) := by decide +kernel
theorem dX10_cost_48 : decode cX10_cost 48 = .ok (.iload_n 2, 1) := by decide +kernel
theorem dX10_cost_49 : decode cX10_cost 49 = .ok (.invokestatic 80, 3) := by decide +kernel
theorem dX10_cost_52 : decode cX10_cost 52 = .ok (.invokestatic 111, 3) := by decide +kernel
theorem dX10_cost_55 : decode cX10_cost 55 = .ok (.ireturn, 1) := by decide +kernel
theorem dX10_valueOf_0 : decode cX10_valueOf 0 = .ok (.aload_n 0, 1) := by decide +kernel
theorem dX10_valueOf_1 : decode cX10_valueOf 1 = .ok (.getfield 24, 3) := by decide +kernel
theorem dX10_valueOf_4 : decode cX10_valueOf 4 = .ok (.ifCond .lt 16, 3) := by decide +kernel
theorem dX10_valueOf_7 : decode cX10_valueOf 7 = .ok (.aload_n 0, 1) := by decide +kernel
theorem dX10_valueOf_8 : decode cX10_valueOf 8 = .ok (.getfield 24, 3) := by decide +kernel
theorem dX10_valueOf_11 : decode cX10_valueOf 11 = .ok (.bipush 8, 2) := by decide +kernel
theorem dX10_valueOf_13 : decode cX10_valueOf 13 = .ok (.if_icmp .ge 7, 3) := by decide +kernel
theorem dX10_valueOf_16 : decode cX10_valueOf 16 = .ok (.iconst 1, 1) := by decide +kernel
theorem dX10_valueOf_17 : decode cX10_valueOf 17 = .ok (.goto 4, 3) := by decide +kernel
theorem dX10_valueOf_20 : decode cX10_valueOf 20 = .ok (.iconst 0, 1) := by decide +kernel
theorem dX10_valueOf_21 : decode cX10_valueOf 21 = .ok (.istore_n 3, 1) := by decide +kernel
theorem dX10_valueOf_22 : decode cX10_valueOf 22 = .ok (.iload_n 2, 1) := by decide +kernel
theorem dX10_valueOf_23 : decode cX10_valueOf 23 = .ok (.tableswitch 93 10000 10005 #[37, 42, 47, 65, 83, 88], 37) := by decide +kernel
theorem dX10_valueOf_60 : decode cX10_valueOf 60 = .ok (.aload_n 0, 1) := by decide +kernel
theorem dX10_valueOf_61 : decode cX10_valueOf 61 = .ok (.getfield 15, 3) := by decide +kernel
theorem dX10_valueOf_64 : decode cX10_valueOf 64 = .ok (.ireturn, 1) := by decide +kernel
theorem dX10_valueOf_65 : decode cX10_valueOf 65 = .ok (.aload_n 0, 1) := by decide +kernel
theorem dX10_valueOf_66 : decode cX10_valueOf 66 = .ok (.getfield 18, 3) := by decide +kernel
theorem dX10_valueOf_69 : decode cX10_valueOf 69 = .ok (.ireturn, 1) := by decide +kernel
theorem dX10_valueOf_70 : decode cX10_valueOf 70 = .ok (.iload_n 3, 1) := by decide +kernel
theorem dX10_valueOf_71 : decode cX10_valueOf 71 = .ok (.ifCond .eq 15, 3) := by decide +kernel
theorem dX10_valueOf_74 : decode cX10_valueOf 74 = .ok (.aload_n 1, 1) := by decide +kernel
theorem dX10_valueOf_75 : decode cX10_valueOf 75 = .ok (.getfield 114, 3) := by decide +kernel
theorem dX10_valueOf_78 : decode cX10_valueOf 78 = .ok (.aload_n 0, 1) := by decide +kernel
theorem dX10_valueOf_79 : decode cX10_valueOf 79 = .ok (.getfield 24, 3) := by decide +kernel
theorem dX10_valueOf_82 : decode cX10_valueOf 82 = .ok (.iaload, 1) := by decide +kernel
theorem dX10_valueOf_83 : decode cX10_valueOf 83 = .ok (.goto 4, 3) := by decide +kernel
theorem dX10_valueOf_86 : decode cX10_valueOf 86 = .ok (.iconst 0, 1) := by decide +kernel
theorem dX10_valueOf_87 : decode cX10_valueOf 87 = .ok (.ireturn, 1) := by decide +kernel
theorem dX10_valueOf_88 : decode cX10_valueOf 88 = .ok (.iload_n 3, 1) := by decide +kernel
theorem dX10_valueOf_89 : decode cX10_valueOf 89 = .ok (.ifCond .eq 15, 3) := by decide +kernel
theorem dX10_valueOf_92 : decode cX10_valueOf 92 = .ok (.aload_n 1, 1) := by decide +kernel
theorem dX10_valueOf_93 : decode cX10_valueOf 93 = .ok (.getfield 108, 3) := by decide +kernel
theorem dX10_valueOf_96 : decode cX10_valueOf 96 = .ok (.aload_n 0, 1) := by decide +kernel
theorem dX10_valueOf_97 : decode cX10_valueOf 97 = .ok (.getfield 24, 3) := by decide +kernel
theorem dX10_valueOf_100 : decode cX10_valueOf 100 = .ok (.iaload, 1) := by decide +kernel
theorem dX10_valueOf_101 : decode cX10_valueOf 101 = .ok (.goto 4, 3) := by decide +kernel
theorem dX10_valueOf_104 : decode cX10_valueOf 104 = .ok (.iconst 0, 1) := by decide +kernel
theorem dX10_valueOf_105 : decode cX10_valueOf 105 = .ok (.ireturn, 1) := by decide +kernel
theorem dX10_valueOf_106 : decode cX10_valueOf 106 = .ok (.aload_n 0, 1) := by decide +kernel
theorem dX10_valueOf_107 : decode cX10_valueOf 107 = .ok (.getfield 30, 3) := by decide +kernel
theorem dX10_valueOf_110 : decode cX10_valueOf 110 = .ok (.ireturn, 1) := by decide +kernel
theorem dX10_valueOf_111 : decode cX10_valueOf 111 = .ok (.aload_n 0, 1) := by decide +kernel
theorem dX10_valueOf_112 : decode cX10_valueOf 112 = .ok (.getfield 27, 3) := by decide +kernel
theorem dX10_valueOf_115 : decode cX10_valueOf 115 = .ok (.ireturn, 1) := by decide +kernel
theorem dX10_valueOf_116 : decode cX10_valueOf 116 = .ok (.aload_n 0, 1) := by decide +kernel
theorem dX10_valueOf_117 : decode cX10_valueOf 117 = .ok (.getfield 9, 3) := by decide +kernel
theorem dX10_valueOf_120 : decode cX10_valueOf 120 = .ok (.ireturn, 1) := by decide +kernel
theorem dX10_pray_0 : decode cX10_pray 0 = .ok (.aload_n 1, 1) := by decide +kernel
theorem dX10_pray_1 : decode cX10_pray 1 = .ok (.getfield 117, 3) := by decide +kernel
theorem dX10_pray_4 : decode cX10_pray 4 = .ok (.invokevirtual 98, 3) := by decide +kernel
theorem dX10_pray_7 : decode cX10_pray 7 = .ok (.ifCond .eq 15, 3) := by decide +kernel
theorem dX10_pray_10 : decode cX10_pray 10 = .ok (.aload_n 1, 1) := by decide +kernel
theorem dX10_pray_11 : decode cX10_pray 11 = .ok (.getfield 117, 3) := by decide +kernel
theorem dX10_pray_14 : decode cX10_pray 14 = .ok (.aload_n 1, 1) := by decide +kernel
theorem dX10_pray_15 : decode cX10_pray 15 = .ok (.aload_n 0, 1) := by decide +kernel
theorem dX10_pray_16 : decode cX10_pray 16 = .ok (.invokevirtual 104, 3) := by decide +kernel
theorem dX10_pray_19 : decode cX10_pray 19 = .ok (.goto 4, 3) := by decide +kernel
theorem dX10_pray_22 : decode cX10_pray 22 = .ok (.iconst 5, 1) := by decide +kernel
theorem dX10_pray_23 : decode cX10_pray 23 = .ok (.istore_n 2, 1) := by decide +kernel
theorem dX10_pray_24 : decode cX10_pray 24 = .ok (.aload_n 0, 1) := by decide +kernel
theorem dX10_pray_25 : decode cX10_pray 25 = .ok (.dup, 1) := by decide +kernel
theorem dX10_pray_26 : decode cX10_pray 26 = .ok (.getfield 15, 3) := by decide +kernel
theorem dX10_pray_29 : decode cX10_pray 29 = .ok (.iconst 0, 1) := by decide +kernel
theorem dX10_pray_30 : decode cX10_pray 30 = .ok (.aload_n 0, 1) := by decide +kernel
theorem dX10_pray_31 : decode cX10_pray 31 = .ok (.getfield 15, 3) := by decide +kernel
theorem dX10_pray_34 : decode cX10_pray 34 = .ok (.iload_n 2, 1) := by decide +kernel
theorem dX10_pray_35 : decode cX10_pray 35 = .ok (.invokestatic 80, 3) := by decide +kernel
theorem dX10_pray_38 : decode cX10_pray 38 = .ok (.invokestatic 111, 3) := by decide +kernel
theorem dX10_pray_41 : decode cX10_pray 41 = .ok (.isub, 1) := by decide +kernel
theorem dX10_pray_42 : decode cX10_pray 42 = .ok (.putfield 15, 3) := by decide +kernel
theorem dX10_pray_45 : decode cX10_pray 45 = .ok (.return_, 1) := by decide +kernel
theorem dX11_init_0 : decode cX11_init 0 = .ok (.aload_n 0, 1) := by decide +kernel
theorem dX11_init_1 : decode cX11_init 1 = .ok (.invokespecial 3, 3) := by decide +kernel
theorem dX11_init_4 : decode cX11_init 4 = .ok (.aload_n 0, 1) := by decide +kernel
theorem dX11_init_5 : decode cX11_init 5 = .ok (.new 9, 3) := by decide +kernel
theorem dX11_init_8 : decode cX11_init 8 = .ok (.dup, 1) := by decide +kernel
theorem dX11_init_9 : decode cX11_init 9 = .ok (.invokespecial 11, 3) := by decide +kernel
theorem dX11_init_12 : decode cX11_init 12 = .ok (.putfield 12, 3) := by decide +kernel
theorem dX11_init_15 : decode cX11_init 15 = .ok (.aload_n 0, 1) := by decide +kernel
theorem dX11_init_16 : decode cX11_init 16 = .ok (.new 16, 3) := by decide +kernel
theorem dX11_init_19 : decode cX11_init 19 = .ok (.dup, 1) := by decide +kernel
theorem dX11_init_20 : decode cX11_init 20 = .ok (.invokespecial 18, 3) := by decide +kernel
theorem dX11_init_23 : decode cX11_init 23 = .ok (.putfield 19, 3) := by decide +kernel
theorem dX11_init_26 : decode cX11_init 26 = .ok (.aload_n 0, 1) := by decide +kernel
theorem dX11_init_27 : decode cX11_init 27 = .ok (.new 16, 3) := by decide +kernel
theorem dX11_init_30 : decode cX11_init 30 = .ok (.dup, 1) := by decide +kernel
theorem dX11_init_31 : decode cX11_init 31 = .ok (.invokespecial 18, 3) := by decide +kernel
theorem dX11_init_34 : decode cX11_init 34 = .ok (.putfield 23, 3) := by decide +kernel
theorem dX11_init_37 : decode cX11_init 37 = .ok (.aload_n 0, 1) := by decide +kernel
theorem dX11_init_38 : decode cX11_init 38 = .ok (.new 26, 3) := by decide +kernel
theorem dX11_init_41 : decode cX11_init 41 = .ok (.dup, 1) := by decide +kernel
theorem dX11_init_42 : decode cX11_init 42 = .ok (.invokespecial 28, 3) := by decide +kernel
theorem dX11_init_45 : decode cX11_init 45 = .ok (.putfield 29, 3) := by decide +kernel
theorem dX11_init_48 : decode cX11_init 48 = .ok (.aload_n 0, 1) := by decide +kernel
theorem dX11_init_49 : decode cX11_init 49 = .ok (.new 33, 3) := by decide +kernel
theorem dX11_init_52 : decode cX11_init 52 = .ok (.dup, 1) := by decide +kernel
theorem dX11_init_53 : decode cX11_init 53 = .ok (.invokespecial 35, 3) := by decide +kernel
theorem dX11_init_56 : decode cX11_init 56 = .ok (.putfield 36, 3) := by decide +kernel
theorem dX11_init_59 : decode cX11_init 59 = .ok (.aload_n 0, 1) := by decide +kernel
theorem dX11_init_60 : decode cX11_init 60 = .ok (.new 40, 3) := by decide +kernel
theorem dX11_init_63 : decode cX11_init 63 = .ok (.dup, 1) := by decide +kernel
theorem dX11_init_64 : decode cX11_init 64 = .ok (.invokespecial 42, 3) := by decide +kernel
theorem dX11_init_67 : decode cX11_init 67 = .ok (.putfield 43, 3) := by decide +kernel
theorem dX11_init_70 : decode cX11_init 70 = .ok (.aload_n 0, 1) := by decide +kernel
theorem dX11_init_71 : decode cX11_init 71 = .ok (.new 47, 3) := by decide +kernel
theorem dX11_init_74 : decode cX11_init 74 = .ok (.dup, 1) := by decide +kernel
theorem dX11_init_75 : decode cX11_init 75 = .ok (.invokespecial 49, 3) := by decide +kernel
theorem dX11_init_78 : decode cX11_init 78 = .ok (.putfield 50, 3) := by decide +kernel
theorem dX11_init_81 : decode cX11_init 81 = .ok (.aload_n 0, 1) := by decide +kernel
theorem dX11_init_82 : decode cX11_init 82 = .ok (.new 54, 3) := by decide +kernel
theorem dX11_init_85 : decode cX11_init 85 = .ok (.dup, 1) := by decide +kernel
theorem dX11_init_86 : decode cX11_init 86 = .ok (.invokespecial 56, 3) := by decide +kernel
theorem dX11_init_89 : decode cX11_init 89 = .ok (.putfield 57, 3) := by decide +kernel
theorem dX11_init_92 : decode cX11_init 92 = .ok (.aload_n 0, 1) := by decide +kernel
theorem dX11_init_93 : decode cX11_init 93 = .ok (.iconst 0, 1) := by decide +kernel
theorem dX11_init_94 : decode cX11_init 94 = .ok (.putfield 61, 3) := by decide +kernel
theorem dX11_init_97 : decode cX11_init 97 = .ok (.aload_n 0, 1) := by decide +kernel
theorem dX11_init_98 : decode cX11_init 98 = .ok (.iconst 0, 1) := by decide +kernel
theorem dX11_init_99 : decode cX11_init 99 = .ok (.putfield 65, 3) := by decide +kernel
theorem dX11_init_102 : decode cX11_init 102 = .ok (.return_, 1) := by decide +kernel
theorem dX11_feed_0 : decode cX11_feed 0 = .ok (.aload_n 0, 1) := by decide +kernel
theorem dX11_feed_1 : decode cX11_feed 1 = .ok (.getfield 12, 3) := by decide +kernel
theorem dX11_feed_4 : decode cX11_feed 4 = .ok (.getfield 69, 3) := by decide +kernel
theorem dX11_feed_7 : decode cX11_feed 7 = .ok (.astore 6, 2) := by decide +kernel
theorem dX11_feed_9 : decode cX11_feed 9 = .ok (.aload 6, 2) := by decide +kernel
theorem dX11_feed_11 : decode cX11_feed 11 = .ok (.getfield 73, 3) := by decide +kernel
theorem dX11_feed_14 : decode cX11_feed 14 = .ok (.bipush 20, 2) := by decide +kernel
theorem dX11_feed_16 : decode cX11_feed 16 = .ok (.iadd, 1) := by decide +kernel
theorem dX11_feed_17 : decode cX11_feed 17 = .ok (.sipush 700, 3) := by decide +kernel
theorem dX11_feed_20 : decode cX11_feed 20 = .ok (.if_icmp .le 5, 3) := by decide +kernel
theorem dX11_feed_23 : decode cX11_feed 23 = .ok (.iconst (-1), 1) := by decide +kernel
theorem dX11_feed_24 : decode cX11_feed 24 = .ok (.ireturn, 1) := by decide +kernel
theorem dX11_feed_25 : decode cX11_feed 25 = .ok (.aload 6, 2) := by decide +kernel
theorem dX11_feed_27 : decode cX11_feed 27 = .ok (.iload_n 1, 1) := by decide +kernel
theorem dX11_feed_28 : decode cX11_feed 28 = .ok (.invokevirtual 78, 3) := by decide +kernel
theorem dX11_feed_31 : decode cX11_feed 31 = .ok (.aload 6, 2) := by decide +kernel
theorem dX11_feed_33 : decode cX11_feed 33 = .ok (.iload_n 2, 1) := by decide +kernel
theorem dX11_feed_34 : decode cX11_feed 34 = .ok (.invokevirtual 78, 3) := by decide +kernel
theorem dX11_feed_37 : decode cX11_feed 37 = .ok (.aload 6, 2) := by decide +kernel
theorem dX11_feed_39 : decode cX11_feed 39 = .ok (.iload_n 3, 1) := by decide +kernel
theorem dX11_feed_40 : decode cX11_feed 40 = .ok (.invokevirtual 78, 3) := by decide +kernel
theorem dX11_feed_43 : decode cX11_feed 43 = .ok (.aload 6, 2) := by decide +kernel
theorem dX11_feed_45 : decode cX11_feed 45 = .ok (.iload 4, 2) := by decide +kernel
theorem dX11_feed_47 : decode cX11_feed 47 = .ok (.invokevirtual 78, 3) := by decide +kernel
theorem dX11_feed_50 : decode cX11_feed 50 = .ok (.aload 6, 2) := by decide +kernel
theorem dX11_feed_52 : decode cX11_feed 52 = .ok (.iload 5, 2) := by decide +kernel
theorem dX11_feed_54 : decode cX11_feed 54 = .ok (.invokevirtual 78, 3) := by decide +kernel
theorem dX11_feed_57 : decode cX11_feed 57 = .ok (.aload 6, 2) := by decide +kernel
theorem dX11_feed_59 : decode cX11_feed 59 = .ok (.getfield 73, 3) := by decide +kernel
theorem dX11_feed_62 : decode cX11_feed 62 = .ok (.ireturn, 1) := by decide +kernel
theorem dX11_port_0 : decode cX11_port 0 = .ok (.iload_n 1, 1) := by decide +kernel
theorem dX11_port_1 : decode cX11_port 1 = .ok (.ifCond .lt 17, 3) := by decide +kernel
theorem dX11_port_4 : decode cX11_port 4 = .ok (.iload_n 1, 1) := by decide +kernel
theorem dX11_port_5 : decode cX11_port 5 = .ok (.aload_n 0, 1) := by decide +kernel
theorem dX11_port_6 : decode cX11_port 6 = .ok (.getfield 12, 3) := by decide +kernel
theorem dX11_port_9 : decode cX11_port 9 = .ok (.getfield 69, 3) := by decide +kernel
theorem dX11_port_12 : decode cX11_port 12 = .ok (.getfield 73, 3) := by decide +kernel
theorem dX11_port_15 : decode cX11_port 15 = .ok (.if_icmp .le 13, 3) := by decide +kernel
theorem dX11_port_18 : decode cX11_port 18 = .ok (.new 82, 3) := by decide +kernel
theorem dX11_port_21 : decode cX11_port 21 = .ok (.dup, 1) := by decide +kernel
theorem dX11_port_22 : decode cX11_port 22 = .ok (.ldc 84, 2) := by decide +kernel
theorem dX11_port_24 : decode cX11_port 24 = .ok (.invokespecial 86, 3) := by decide +kernel
theorem dX11_port_27 : decode cX11_port 27 = .ok (.athrow, 1) := by decide +kernel
theorem dX11_port_28 : decode cX11_port 28 = .ok (.aload_n 0, 1) := by decide +kernel
theorem dX11_port_29 : decode cX11_port 29 = .ok (.getfield 12, 3) := by decide +kernel
theorem dX11_port_32 : decode cX11_port 32 = .ok (.iload_n 1, 1) := by decide +kernel
theorem dX11_port_33 : decode cX11_port 33 = .ok (.invokevirtual 89, 3) := by decide +kernel
theorem dX11_port_36 : decode cX11_port 36 = .ok (.istore_n 2, 1) := by decide +kernel
theorem dX11_port_37 : decode cX11_port 37 = .ok (.aload_n 0, 1) := by decide +kernel
theorem dX11_port_38 : decode cX11_port 38 = .ok (.getfield 12, 3) := by decide +kernel
theorem dX11_port_41 : decode cX11_port 41 = .ok (.getfield 69, 3) := by decide +kernel
theorem dX11_port_44 : decode cX11_port 44 = .ok (.iconst 0, 1) := by decide +kernel
theorem dX11_port_45 : decode cX11_port 45 = .ok (.putfield 73, 3) := by decide +kernel
theorem dX11_port_48 : decode cX11_port 48 = .ok (.iload_n 2, 1) := by decide +kernel
theorem dX11_port_49 : decode cX11_port 49 = .ok (.ifCond .eq 14, 3) := by decide +kernel
theorem dX11_port_52 : decode cX11_port 52 = .ok (.aload_n 0, 1) := by decide +kernel
theorem dX11_port_53 : decode cX11_port 53 = .ok (.getfield 19, 3) := by decide +kernel
theorem dX11_port_56 : decode cX11_port 56 = .ok (.iconst 0, 1) := by decide +kernel
theorem dX11_port_57 : decode cX11_port 57 = .ok (.invokevirtual 93, 3) := by decide +kernel
theorem dX11_port_60 : decode cX11_port 60 = .ok (.pop, 1) := by decide +kernel
theorem dX11_port_61 : decode cX11_port 61 = .ok (.iload_n 2, 1) := by decide +kernel
theorem dX11_port_62 : decode cX11_port 62 = .ok (.ireturn, 1) := by decide +kernel
theorem dX11_port_63 : decode cX11_port 63 = .ok (.aload_n 0, 1) := by decide +kernel
theorem dX11_port_64 : decode cX11_port 64 = .ok (.getfield 57, 3) := by decide +kernel
theorem dX11_port_67 : decode cX11_port 67 = .ok (.astore_n 3, 1) := by decide +kernel
theorem dX11_port_68 : decode cX11_port 68 = .ok (.aload_n 0, 1) := by decide +kernel
theorem dX11_port_69 : decode cX11_port 69 = .ok (.aload_n 0, 1) := by decide +kernel
theorem dX11_port_70 : decode cX11_port 70 = .ok (.getfield 12, 3) := by decide +kernel
theorem dX11_port_73 : decode cX11_port 73 = .ok (.getfield 96, 3) := by decide +kernel
theorem dX11_port_76 : decode cX11_port 76 = .ok (.putfield 57, 3) := by decide +kernel
theorem dX11_port_79 : decode cX11_port 79 = .ok (.aload_n 0, 1) := by decide +kernel
theorem dX11_port_80 : decode cX11_port 80 = .ok (.getfield 12, 3) := by decide +kernel
theorem dX11_port_83 : decode cX11_port 83 = .ok (.aload_n 3, 1) := by decide +kernel
theorem dX11_port_84 : decode cX11_port 84 = .ok (.putfield 96, 3) := by decide +kernel
theorem dX11_port_87 : decode cX11_port 87 = .ok (.aload_n 0, 1) := by decide +kernel
theorem dX11_port_88 : decode cX11_port 88 = .ok (.getfield 19, 3) := by decide +kernel
theorem dX11_port_91 : decode cX11_port 91 = .ok (.aload_n 0, 1) := by decide +kernel
theorem dX11_port_92 : decode cX11_port 92 = .ok (.getfield 57, 3) := by decide +kernel
theorem dX11_port_95 : decode cX11_port 95 = .ok (.invokevirtual 98, 3) := by decide +kernel
theorem dX11_port_98 : decode cX11_port 98 = .ok (.aload_n 0, 1) := by decide +kernel
theorem dX11_port_99 : decode cX11_port 99 = .ok (.iconst 0, 1) := by decide +kernel
theorem dX11_port_100 : decode cX11_port 100 = .ok (.putfield 61, 3) := by decide +kernel
theorem dX11_port_103 : decode cX11_port 103 = .ok (.iconst 0, 1) := by decide +kernel
theorem dX11_port_104 : decode cX11_port 104 = .ok (.ireturn, 1) := by decide +kernel
theorem dX11_fault_0 : decode cX11_fault 0 = .ok (.aload_n 0, 1) := by decide +kernel
theorem dX11_fault_1 : decode cX11_fault 1 = .ok (.getfield 12, 3) := by decide +kernel
theorem dX11_fault_4 : decode cX11_fault 4 = .ok (.getfield 102, 3) := by decide +kernel
theorem dX11_fault_7 : decode cX11_fault 7 = .ok (.ireturn, 1) := by decide +kernel
theorem dX11_count_0 : decode cX11_count 0 = .ok (.aload_n 0, 1) := by decide +kernel
theorem dX11_count_1 : decode cX11_count 1 = .ok (.getfield 19, 3) := by decide +kernel
theorem dX11_count_4 : decode cX11_count 4 = .ok (.getfield 105, 3) := by decide +kernel
theorem dX11_count_7 : decode cX11_count 7 = .ok (.astore_n 2, 1) := by decide +kernel
theorem dX11_count_8 : decode cX11_count 8 = .ok (.iload_n 1, 1) := by decide +kernel
theorem dX11_count_9 : decode cX11_count 9 = .ok (.tableswitch 211 0 14 #[75, 83, 91, 96, 108, 116, 125, 130, 139, 148, 159, 170, 181, 191, 201], 75) := by decide +kernel
theorem dX11_count_84 : decode cX11_count 84 = .ok (.aload_n 0, 1) := by decide +kernel
theorem dX11_count_85 : decode cX11_count 85 = .ok (.getfield 57, 3) := by decide +kernel
theorem dX11_count_88 : decode cX11_count 88 = .ok (.getfield 108, 3) := by decide +kernel
theorem dX11_count_91 : decode cX11_count 91 = .ok (.ireturn, 1) := by decide +kernel
theorem dX11_count_92 : decode cX11_count 92 = .ok (.aload_n 0, 1) := by decide +kernel
theorem dX11_count_93 : decode cX11_count 93 = .ok (.getfield 57, 3) := by decide +kernel
theorem dX11_count_96 : decode cX11_count 96 = .ok (.getfield 111, 3) := by decide +kernel
theorem dX11_count_99 : decode cX11_count 99 = .ok (.ireturn, 1) := by decide +kernel
theorem dX11_count_100 : decode cX11_count 100 = .ok (.aload_n 2, 1) := by decide +kernel
theorem dX11_count_101 : decode cX11_count 101 = .ok (.getfield 114, 3) := by decide +kernel
theorem dX11_count_104 : decode cX11_count 104 = .ok (.ireturn, 1) := by decide +kernel
theorem dX11_count_105 : decode cX11_count 105 = .ok (.aload_n 0, 1) := by decide +kernel
theorem dX11_count_106 : decode cX11_count 106 = .ok (.getfield 57, 3) := by decide +kernel
theorem dX11_count_109 : decode cX11_count 109 = .ok (.aload_n 2, 1) := by decide +kernel
theorem dX11_count_110 : decode cX11_count 110 = .ok (.getfield 114, 3) := by decide +kernel
theorem dX11_count_113 : decode cX11_count 113 = .ok (.invokevirtual 117, 3) := by decide +kernel
theorem dX11_count_116 : decode cX11_count 116 = .ok (.ireturn, 1) := by decide +kernel
theorem dX11_count_117 : decode cX11_count 117 = .ok (.aload_n 0, 1) := by decide +kernel
theorem dX11_count_118 : decode cX11_count 118 = .ok (.getfield 57, 3) := by decide +kernel
theorem dX11_count_121 : decode cX11_count 121 = .ok (.invokevirtual 120, 3) := by decide +kernel
theorem dX11_count_124 : decode cX11_count 124 = .ok (.ireturn, 1) := by decide +kernel
theorem dX11_count_125 : decode cX11_count 125 = .ok (.aload_n 2, 1) := by decide +kernel
theorem dX11_count_126 : decode cX11_count 126 = .ok (.aload_n 0, 1) := by decide +kernel
theorem dX11_count_127 : decode cX11_count 127 = .ok (.getfield 57, 3) := by decide +kernel
theorem dX11_count_130 : decode cX11_count 130 = .ok (.invokevirtual 124, 3) := by decide +kernel
theorem dX11_count_133 : decode cX11_count 133 = .ok (.ireturn, 1) := by decide +kernel
theorem dX11_count_134 : decode cX11_count 134 = .ok (.aload_n 2, 1) := by decide +kernel
theorem dX11_count_135 : decode cX11_count 135 = .ok (.getfield 128, 3) := by decide +kernel
theorem dX11_count_138 : decode cX11_count 138 = .ok (.ireturn, 1) := by decide +kernel
theorem dX11_count_139 : decode cX11_count 139 = .ok (.aload_n 2, 1) := by decide +kernel
theorem dX11_count_140 : decode cX11_count 140 = .ok (.aload_n 0, 1) := by decide +kernel
theorem dX11_count_141 : decode cX11_count 141 = .ok (.getfield 57, 3) := by decide +kernel
theorem dX11_count_144 : decode cX11_count 144 = .ok (.invokevirtual 131, 3) := by decide +kernel
theorem dX11_count_147 : decode cX11_count 147 = .ok (.ireturn, 1) := by decide +kernel
theorem dX11_count_148 : decode cX11_count 148 = .ok (.aload_n 2, 1) := by decide +kernel
theorem dX11_count_149 : decode cX11_count 149 = .ok (.aload_n 0, 1) := by decide +kernel
theorem dX11_count_150 : decode cX11_count 150 = .ok (.getfield 57, 3) := by decide +kernel
theorem dX11_count_153 : decode cX11_count 153 = .ok (.invokevirtual 134, 3) := by decide +kernel
theorem dX11_count_156 : decode cX11_count 156 = .ok (.ireturn, 1) := by decide +kernel
theorem dX11_count_157 : decode cX11_count 157 = .ok (.aload_n 0, 1) := by decide +kernel
theorem dX11_count_158 : decode cX11_count 158 = .ok (.getfield 19, 3) := by decide +kernel
theorem dX11_count_161 : decode cX11_count 161 = .ok (.getfield 137, 3) := by decide +kernel
theorem dX11_count_164 : decode cX11_count 164 = .ok (.getfield 141, 3) := by decide +kernel
theorem dX11_count_167 : decode cX11_count 167 = .ok (.ireturn, 1) := by decide +kernel
theorem dX11_count_168 : decode cX11_count 168 = .ok (.aload_n 0, 1) := by decide +kernel
theorem dX11_count_169 : decode cX11_count 169 = .ok (.getfield 19, 3) := by decide +kernel
theorem dX11_count_172 : decode cX11_count 172 = .ok (.getfield 146, 3) := by decide +kernel
theorem dX11_count_175 : decode cX11_count 175 = .ok (.getfield 150, 3) := by decide +kernel
theorem dX11_count_178 : decode cX11_count 178 = .ok (.ireturn, 1) := by decide +kernel
theorem dX11_count_179 : decode cX11_count 179 = .ok (.aload_n 0, 1) := by decide +kernel
theorem dX11_count_180 : decode cX11_count 180 = .ok (.getfield 12, 3) := by decide +kernel
theorem dX11_count_183 : decode cX11_count 183 = .ok (.getfield 69, 3) := by decide +kernel
theorem dX11_count_186 : decode cX11_count 186 = .ok (.getfield 73, 3) := by decide +kernel
theorem dX11_count_189 : decode cX11_count 189 = .ok (.ireturn, 1) := by decide +kernel
theorem dX11_count_190 : decode cX11_count 190 = .ok (.aload_n 0, 1) := by decide +kernel
theorem dX11_count_191 : decode cX11_count 191 = .ok (.getfield 19, 3) := by decide +kernel
theorem dX11_count_194 : decode cX11_count 194 = .ok (.getfield 153, 3) := by decide +kernel
theorem dX11_count_197 : decode cX11_count 197 = .ok (.iconst 0, 1) := by decide +kernel
theorem dX11_count_198 : decode cX11_count 198 = .ok (.iaload, 1) := by decide +kernel
theorem dX11_count_199 : decode cX11_count 199 = .ok (.ireturn, 1) := by decide +kernel
theorem dX11_count_200 : decode cX11_count 200 = .ok (.aload_n 0, 1) := by decide +kernel
theorem dX11_count_201 : decode cX11_count 201 = .ok (.getfield 19, 3) := by decide +kernel
theorem dX11_count_204 : decode cX11_count 204 = .ok (.getfield 153, 3) := by decide +kernel
theorem dX11_count_207 : decode cX11_count 207 = .ok (.iconst 1, 1) := by decide +kernel
theorem dX11_count_208 : decode cX11_count 208 = .ok (.iaload, 1) := by decide +kernel
theorem dX11_count_209 : decode cX11_count 209 = .ok (.ireturn, 1) := by decide +kernel
theorem dX11_count_210 : decode cX11_count 210 = .ok (.aload_n 0, 1) := by decide +kernel
theorem dX11_count_211 : decode cX11_count 211 = .ok (.getfield 19, 3) := by decide +kernel
theorem dX11_count_214 : decode cX11_count 214 = .ok (.getfield 153, 3) := by decide +kernel
theorem dX11_count_217 : decode cX11_count 217 = .ok (.iconst 2, 1) := by decide +kernel
theorem dX11_count_218 : decode cX11_count 218 = .ok (.iaload, 1) := by decide +kernel
theorem dX11_count_219 : decode cX11_count 219 = .ok (.ireturn, 1) := by decide +kernel
theorem dX11_count_220 : decode cX11_count 220 = .ok (.new 157, 3) := by decide +kernel
theorem dX11_count_223 : decode cX11_count 223 = .ok (.dup, 1) := by decide +kernel
theorem dX11_count_224 : decode cX11_count 224 = .ok (.ldc 159, 2) := by decide +kernel
theorem dX11_count_226 : decode cX11_count 226 = .ok (.invokespecial 161, 3) := by decide +kernel
theorem dX11_count_229 : decode cX11_count 229 = .ok (.athrow, 1) := by decide +kernel
theorem dX11_grotto_0 : decode cX11_grotto 0 = .ok (.aload_n 0, 1) := by decide +kernel
theorem dX11_grotto_1 : decode cX11_grotto 1 = .ok (.iload_n 1, 1) := by decide +kernel
theorem dX11_grotto_2 : decode cX11_grotto 2 = .ok (.invokevirtual 162, 3) := by decide +kernel
theorem dX11_grotto_5 : decode cX11_grotto 5 = .ok (.iload_n 2, 1) := by decide +kernel
theorem dX11_grotto_6 : decode cX11_grotto 6 = .ok (.tableswitch 132 0 6 #[42, 52, 62, 72, 90, 110, 126], 42) := by decide +kernel
theorem dX11_grotto_48 : decode cX11_grotto 48 = .ok (.aload_n 0, 1) := by decide +kernel
theorem dX11_grotto_49 : decode cX11_grotto 49 = .ok (.getfield 57, 3) := by decide +kernel
theorem dX11_grotto_52 : decode cX11_grotto 52 = .ok (.getfield 165, 3) := by decide +kernel
theorem dX11_grotto_55 : decode cX11_grotto 55 = .ok (.iload_n 1, 1) := by decide +kernel
theorem dX11_grotto_56 : decode cX11_grotto 56 = .ok (.iaload, 1) := by decide +kernel
theorem dX11_grotto_57 : decode cX11_grotto 57 = .ok (.ireturn, 1) := by decide +kernel
theorem dX11_grotto_58 : decode cX11_grotto 58 = .ok (.aload_n 0, 1) := by decide +kernel
theorem dX11_grotto_59 : decode cX11_grotto 59 = .ok (.getfield 57, 3) := by decide +kernel
theorem dX11_grotto_62 : decode cX11_grotto 62 = .ok (.getfield 168, 3) := by decide +kernel
theorem dX11_grotto_65 : decode cX11_grotto 65 = .ok (.iload_n 1, 1) := by decide +kernel
theorem dX11_grotto_66 : decode cX11_grotto 66 = .ok (.iaload, 1) := by decide +kernel
theorem dX11_grotto_67 : decode cX11_grotto 67 = .ok (.ireturn, 1) := by decide +kernel
theorem dX11_grotto_68 : decode cX11_grotto 68 = .ok (.aload_n 0, 1) := by decide +kernel
theorem dX11_grotto_69 : decode cX11_grotto 69 = .ok (.getfield 57, 3) := by decide +kernel
theorem dX11_grotto_72 : decode cX11_grotto 72 = .ok (.getfield 171, 3) := by decide +kernel
theorem dX11_grotto_75 : decode cX11_grotto 75 = .ok (.iload_n 1, 1) := by decide +kernel
theorem dX11_grotto_76 : decode cX11_grotto 76 = .ok (.iaload, 1) := by decide +kernel
theorem dX11_grotto_77 : decode cX11_grotto 77 = .ok (.ireturn, 1) := by decide +kernel
theorem dX11_grotto_78 : decode cX11_grotto 78 = .ok (.aload_n 0, 1) := by decide +kernel
theorem dX11_grotto_79 : decode cX11_grotto 79 = .ok (.getfield 57, 3) := by decide +kernel
theorem dX11_grotto_82 : decode cX11_grotto 82 = .ok (.getfield 174, 3) := by decide +kernel
theorem dX11_grotto_85 : decode cX11_grotto 85 = .ok (.iload_n 1, 1) := by decide +kernel
theorem dX11_grotto_86 : decode cX11_grotto 86 = .ok (.baload, 1) := by decide +kernel
theorem dX11_grotto_87 : decode cX11_grotto 87 = .ok (.ifCond .eq 7, 3) := by decide +kernel
theorem dX11_grotto_90 : decode cX11_grotto 90 = .ok (.iconst 1, 1) := by decide +kernel
theorem dX11_grotto_91 : decode cX11_grotto 91 = .ok (.goto 4, 3) := by decide +kernel
theorem dX11_grotto_94 : decode cX11_grotto 94 = .ok (.iconst 0, 1) := by decide +kernel
theorem dX11_grotto_95 : decode cX11_grotto 95 = .ok (.ireturn, 1) := by decide +kernel
theorem dX11_grotto_96 : decode cX11_grotto 96 = .ok (.aload_n 0, 1) := by decide +kernel
theorem dX11_grotto_97 : decode cX11_grotto 97 = .ok (.getfield 19, 3) := by decide +kernel
theorem dX11_grotto_100 : decode cX11_grotto 100 = .ok (.getfield 105, 3) := by decide +kernel
theorem dX11_grotto_103 : decode cX11_grotto 103 = .ok (.iload_n 1, 1) := by decide +kernel
theorem dX11_grotto_104 : decode cX11_grotto 104 = .ok (.invokevirtual 178, 3) := by decide +kernel
theorem dX11_grotto_107 : decode cX11_grotto 107 = .ok (.ifCond .eq 7, 3) := by decide +kernel
theorem dX11_grotto_110 : decode cX11_grotto 110 = .ok (.iconst 1, 1) := by decide +kernel
theorem dX11_grotto_111 : decode cX11_grotto 111 = .ok (.goto 4, 3) := by decide +kernel
theorem dX11_grotto_114 : decode cX11_grotto 114 = .ok (.iconst 0, 1) := by decide +kernel
theorem dX11_grotto_115 : decode cX11_grotto 115 = .ok (.ireturn, 1) := by decide +kernel
theorem dX11_grotto_116 : decode cX11_grotto 116 = .ok (.aload_n 0, 1) := by decide +kernel
theorem dX11_grotto_117 : decode cX11_grotto 117 = .ok (.getfield 19, 3) := by decide +kernel
theorem dX11_grotto_120 : decode cX11_grotto 120 = .ok (.getfield 105, 3) := by decide +kernel
theorem dX11_grotto_123 : decode cX11_grotto 123 = .ok (.aload_n 0, 1) := by decide +kernel
theorem dX11_grotto_124 : decode cX11_grotto 124 = .ok (.getfield 57, 3) := by decide +kernel
theorem dX11_grotto_127 : decode cX11_grotto 127 = .ok (.iload_n 1, 1) := by decide +kernel
theorem dX11_grotto_128 : decode cX11_grotto 128 = .ok (.invokevirtual 182, 3) := by decide +kernel
theorem dX11_grotto_131 : decode cX11_grotto 131 = .ok (.ireturn, 1) := by decide +kernel
theorem dX11_grotto_132 : decode cX11_grotto 132 = .ok (.aload_n 0, 1) := by decide +kernel
theorem dX11_grotto_133 : decode cX11_grotto 133 = .ok (.iload_n 1, 1) := by decide +kernel
theorem dX11_grotto_134 : decode cX11_grotto 134 = .ok (.invokevirtual 186, 3) := by decide +kernel
theorem dX11_grotto_137 : decode cX11_grotto 137 = .ok (.ireturn, 1) := by decide +kernel
theorem dX11_grotto_138 : decode cX11_grotto 138 = .ok (.new 157, 3) := by decide +kernel
theorem dX11_grotto_141 : decode cX11_grotto 141 = .ok (.dup, 1) := by decide +kernel
theorem dX11_grotto_142 : decode cX11_grotto 142 = .ok (.ldc 189, 2) := by decide +kernel
theorem dX11_grotto_144 : decode cX11_grotto 144 = .ok (.invokespecial 161, 3) := by decide +kernel
theorem dX11_grotto_147 : decode cX11_grotto 147 = .ok (.athrow, 1) := by decide +kernel
theorem dX11_guild_0 : decode cX11_guild 0 = .ok (.aload_n 0, 1) := by decide +kernel
theorem dX11_guild_1 : decode cX11_guild 1 = .ok (.iload_n 1, 1) := by decide +kernel
theorem dX11_guild_2 : decode cX11_guild 2 = .ok (.invokevirtual 191, 3) := by decide +kernel
theorem dX11_guild_5 : decode cX11_guild 5 = .ok (.aload_n 0, 1) := by decide +kernel
theorem dX11_guild_6 : decode cX11_guild 6 = .ok (.getfield 19, 3) := by decide +kernel
theorem dX11_guild_9 : decode cX11_guild 9 = .ok (.getfield 105, 3) := by decide +kernel
theorem dX11_guild_12 : decode cX11_guild 12 = .ok (.astore_n 3, 1) := by decide +kernel
theorem dX11_guild_13 : decode cX11_guild 13 = .ok (.iload_n 2, 1) := by decide +kernel
theorem dX11_guild_14 : decode cX11_guild 14 = .ok (.tableswitch 82 0 5 #[38, 48, 55, 62, 69, 76], 38) := by decide +kernel
theorem dX11_guild_52 : decode cX11_guild 52 = .ok (.aload_n 0, 1) := by decide +kernel
theorem dX11_guild_53 : decode cX11_guild 53 = .ok (.getfield 57, 3) := by decide +kernel
theorem dX11_guild_56 : decode cX11_guild 56 = .ok (.getfield 194, 3) := by decide +kernel
theorem dX11_guild_59 : decode cX11_guild 59 = .ok (.iload_n 1, 1) := by decide +kernel
theorem dX11_guild_60 : decode cX11_guild 60 = .ok (.iaload, 1) := by decide +kernel
theorem dX11_guild_61 : decode cX11_guild 61 = .ok (.ireturn, 1) := by decide +kernel
theorem dX11_guild_62 : decode cX11_guild 62 = .ok (.aload_n 3, 1) := by decide +kernel
theorem dX11_guild_63 : decode cX11_guild 63 = .ok (.getfield 197, 3) := by decide +kernel
theorem dX11_guild_66 : decode cX11_guild 66 = .ok (.iload_n 1, 1) := by decide +kernel
theorem dX11_guild_67 : decode cX11_guild 67 = .ok (.iaload, 1) := by decide +kernel
theorem dX11_guild_68 : decode cX11_guild 68 = .ok (.ireturn, 1) := by decide +kernel
theorem dX11_guild_69 : decode cX11_guild 69 = .ok (.aload_n 3, 1) := by decide +kernel
theorem dX11_guild_70 : decode cX11_guild 70 = .ok (.getfield 200, 3) := by decide +kernel
theorem dX11_guild_73 : decode cX11_guild 73 = .ok (.iload_n 1, 1) := by decide +kernel
theorem dX11_guild_74 : decode cX11_guild 74 = .ok (.iaload, 1) := by decide +kernel
theorem dX11_guild_75 : decode cX11_guild 75 = .ok (.ireturn, 1) := by decide +kernel
theorem dX11_guild_76 : decode cX11_guild 76 = .ok (.aload_n 3, 1) := by decide +kernel
theorem dX11_guild_77 : decode cX11_guild 77 = .ok (.getfield 203, 3) := by decide +kernel
theorem dX11_guild_80 : decode cX11_guild 80 = .ok (.iload_n 1, 1) := by decide +kernel
theorem dX11_guild_81 : decode cX11_guild 81 = .ok (.iaload, 1) := by decide +kernel
theorem dX11_guild_82 : decode cX11_guild 82 = .ok (.ireturn, 1) := by decide +kernel
theorem dX11_guild_83 : decode cX11_guild 83 = .ok (.aload_n 3, 1) := by decide +kernel
theorem dX11_guild_84 : decode cX11_guild 84 = .ok (.getfield 206, 3) := by decide +kernel
theorem dX11_guild_87 : decode cX11_guild 87 = .ok (.iload_n 1, 1) := by decide +kernel
theorem dX11_guild_88 : decode cX11_guild 88 = .ok (.iaload, 1) := by decide +kernel
theorem dX11_guild_89 : decode cX11_guild 89 = .ok (.ireturn, 1) := by decide +kernel
theorem dX11_guild_90 : decode cX11_guild 90 = .ok (.aload_n 0, 1) := by decide +kernel
theorem dX11_guild_91 : decode cX11_guild 91 = .ok (.iload_n 1, 1) := by decide +kernel
theorem dX11_guild_92 : decode cX11_guild 92 = .ok (.invokevirtual 209, 3) := by decide +kernel
theorem dX11_guild_95 : decode cX11_guild 95 = .ok (.ireturn, 1) := by decide +kernel
theorem dX11_guild_96 : decode cX11_guild 96 = .ok (.new 157, 3) := by decide +kernel
theorem dX11_guild_99 : decode cX11_guild 99 = .ok (.dup, 1) := by decide +kernel
theorem dX11_guild_100 : decode cX11_guild 100 = .ok (.ldc 212, 2) := by decide +kernel
theorem dX11_guild_102 : decode cX11_guild 102 = .ok (.invokespecial 161, 3) := by decide +kernel
theorem dX11_guild_105 : decode cX11_guild 105 = .ok (.athrow, 1) := by decide +kernel
theorem dX11_hours_0 : decode cX11_hours 0 = .ok (.aload_n 0, 1) := by decide +kernel
theorem dX11_hours_1 : decode cX11_hours 1 = .ok (.getfield 19, 3) := by decide +kernel
theorem dX11_hours_4 : decode cX11_hours 4 = .ok (.getfield 105, 3) := by decide +kernel
theorem dX11_hours_7 : decode cX11_hours 7 = .ok (.astore_n 2, 1) := by decide +kernel
theorem dX11_hours_8 : decode cX11_hours 8 = .ok (.iload_n 1, 1) := by decide +kernel
theorem dX11_hours_9 : decode cX11_hours 9 = .ok (.iconst 1, 1) := by decide +kernel
theorem dX11_hours_10 : decode cX11_hours 10 = .ok (.bipush 20, 2) := by decide +kernel
theorem dX11_hours_12 : decode cX11_hours 12 = .ok (.invokestatic 214, 3) := by decide +kernel
theorem dX11_hours_15 : decode cX11_hours 15 = .ok (.ifCond .eq 15, 3) := by decide +kernel
theorem dX11_hours_18 : decode cX11_hours 18 = .ok (.aload_n 2, 1) := by decide +kernel
theorem dX11_hours_19 : decode cX11_hours 19 = .ok (.getfield 114, 3) := by decide +kernel
theorem dX11_hours_22 : decode cX11_hours 22 = .ok (.iload_n 1, 1) := by decide +kernel
theorem dX11_hours_23 : decode cX11_hours 23 = .ok (.iadd, 1) := by decide +kernel
theorem dX11_hours_24 : decode cX11_hours 24 = .ok (.sipush 999, 3) := by decide +kernel
theorem dX11_hours_27 : decode cX11_hours 27 = .ok (.if_icmp .le 12, 3) := by decide +kernel
theorem dX11_hours_30 : decode cX11_hours 30 = .ok (.aload_n 0, 1) := by decide +kernel
theorem dX11_hours_31 : decode cX11_hours 31 = .ok (.getfield 19, 3) := by decide +kernel
theorem dX11_hours_34 : decode cX11_hours 34 = .ok (.iconst 1, 1) := by decide +kernel
theorem dX11_hours_35 : decode cX11_hours 35 = .ok (.invokevirtual 93, 3) := by decide +kernel
theorem dX11_hours_38 : decode cX11_hours 38 = .ok (.ireturn, 1) := by decide +kernel
theorem dX11_hours_39 : decode cX11_hours 39 = .ok (.aload_n 0, 1) := by decide +kernel
theorem dX11_hours_40 : decode cX11_hours 40 = .ok (.getfield 19, 3) := by decide +kernel
theorem dX11_hours_43 : decode cX11_hours 43 = .ok (.invokevirtual 218, 3) := by decide +kernel
theorem dX11_hours_46 : decode cX11_hours 46 = .ok (.iconst 0, 1) := by decide +kernel
theorem dX11_hours_47 : decode cX11_hours 47 = .ok (.istore_n 3, 1) := by decide +kernel
theorem dX11_hours_48 : decode cX11_hours 48 = .ok (.iload_n 3, 1) := by decide +kernel
theorem dX11_hours_49 : decode cX11_hours 49 = .ok (.iload_n 1, 1) := by decide +kernel
theorem dX11_hours_50 : decode cX11_hours 50 = .ok (.if_icmp .ge 26, 3) := by decide +kernel
theorem dX11_hours_53 : decode cX11_hours 53 = .ok (.aload_n 0, 1) := by decide +kernel
theorem dX11_hours_54 : decode cX11_hours 54 = .ok (.aload_n 2, 1) := by decide +kernel
theorem dX11_hours_55 : decode cX11_hours 55 = .ok (.aload_n 0, 1) := by decide +kernel
theorem dX11_hours_56 : decode cX11_hours 56 = .ok (.getfield 57, 3) := by decide +kernel
theorem dX11_hours_59 : decode cX11_hours 59 = .ok (.aload_n 2, 1) := by decide +kernel
theorem dX11_hours_60 : decode cX11_hours 60 = .ok (.getfield 114, 3) := by decide +kernel
theorem dX11_hours_63 : decode cX11_hours 63 = .ok (.invokevirtual 117, 3) := by decide +kernel
theorem dX11_hours_66 : decode cX11_hours 66 = .ok (.invokevirtual 221, 3) := by decide +kernel
theorem dX11_hours_69 : decode cX11_hours 69 = .ok (.pop, 1) := by decide +kernel
theorem dX11_hours_70 : decode cX11_hours 70 = .ok (.iinc 3 1, 3) := by decide +kernel
theorem dX11_hours_73 : decode cX11_hours 73 = .ok (.goto (-25), 3) := by decide +kernel
theorem dX11_hours_76 : decode cX11_hours 76 = .ok (.aload_n 2, 1) := by decide +kernel
theorem dX11_hours_77 : decode cX11_hours 77 = .ok (.getfield 114, 3) := by decide +kernel
theorem dX11_hours_80 : decode cX11_hours 80 = .ok (.ireturn, 1) := by decide +kernel
theorem dX11_hire_0 : decode cX11_hire 0 = .ok (.aload_n 0, 1) := by decide +kernel
theorem dX11_hire_1 : decode cX11_hire 1 = .ok (.iload_n 1, 1) := by decide +kernel
theorem dX11_hire_2 : decode cX11_hire 2 = .ok (.invokevirtual 191, 3) := by decide +kernel
theorem dX11_hire_5 : decode cX11_hire 5 = .ok (.aload_n 0, 1) := by decide +kernel
theorem dX11_hire_6 : decode cX11_hire 6 = .ok (.iload_n 2, 1) := by decide +kernel
theorem dX11_hire_7 : decode cX11_hire 7 = .ok (.invokevirtual 162, 3) := by decide +kernel
theorem dX11_hire_10 : decode cX11_hire 10 = .ok (.aload_n 0, 1) := by decide +kernel
theorem dX11_hire_11 : decode cX11_hire 11 = .ok (.getfield 19, 3) := by decide +kernel
theorem dX11_hire_14 : decode cX11_hire 14 = .ok (.getfield 105, 3) := by decide +kernel
theorem dX11_hire_17 : decode cX11_hire 17 = .ok (.aload_n 0, 1) := by decide +kernel
theorem dX11_hire_18 : decode cX11_hire 18 = .ok (.getfield 57, 3) := by decide +kernel
theorem dX11_hire_21 : decode cX11_hire 21 = .ok (.iload_n 2, 1) := by decide +kernel
theorem dX11_hire_22 : decode cX11_hire 22 = .ok (.invokevirtual 182, 3) := by decide +kernel
theorem dX11_hire_25 : decode cX11_hire 25 = .ok (.iconst (-1), 1) := by decide +kernel
theorem dX11_hire_26 : decode cX11_hire 26 = .ok (.if_icmp .eq 14, 3) := by decide +kernel
theorem dX11_hire_29 : decode cX11_hire 29 = .ok (.aload_n 0, 1) := by decide +kernel
theorem dX11_hire_30 : decode cX11_hire 30 = .ok (.getfield 19, 3) := by decide +kernel
theorem dX11_hire_33 : decode cX11_hire 33 = .ok (.iconst 1, 1) := by decide +kernel
theorem dX11_hire_34 : decode cX11_hire 34 = .ok (.invokevirtual 93, 3) := by decide +kernel
theorem dX11_hire_37 : decode cX11_hire 37 = .ok (.pop, 1) := by decide +kernel
theorem dX11_hire_38 : decode cX11_hire 38 = .ok (.iconst 0, 1) := by decide +kernel
theorem dX11_hire_39 : decode cX11_hire 39 = .ok (.ireturn, 1) := by decide +kernel
theorem dX11_hire_40 : decode cX11_hire 40 = .ok (.aload_n 0, 1) := by decide +kernel
theorem dX11_hire_41 : decode cX11_hire 41 = .ok (.getfield 19, 3) := by decide +kernel
theorem dX11_hire_44 : decode cX11_hire 44 = .ok (.invokevirtual 218, 3) := by decide +kernel
theorem dX11_hire_47 : decode cX11_hire 47 = .ok (.aload_n 0, 1) := by decide +kernel
theorem dX11_hire_48 : decode cX11_hire 48 = .ok (.getfield 19, 3) := by decide +kernel
theorem dX11_hire_51 : decode cX11_hire 51 = .ok (.getfield 105, 3) := by decide +kernel
theorem dX11_hire_54 : decode cX11_hire 54 = .ok (.getfield 206, 3) := by decide +kernel
theorem dX11_hire_57 : decode cX11_hire 57 = .ok (.iload_n 1, 1) := by decide +kernel
theorem dX11_hire_58 : decode cX11_hire 58 = .ok (.iload_n 2, 1) := by decide +kernel
theorem dX11_hire_59 : decode cX11_hire 59 = .ok (.iastore, 1) := by decide +kernel
theorem dX11_hire_60 : decode cX11_hire 60 = .ok (.iconst 1, 1) := by decide +kernel
theorem dX11_hire_61 : decode cX11_hire 61 = .ok (.ireturn, 1) := by decide +kernel
theorem dX11_dismiss_0 : decode cX11_dismiss 0 = .ok (.aload_n 0, 1) := by decide +kernel
theorem dX11_dismiss_1 : decode cX11_dismiss 1 = .ok (.iload_n 1, 1) := by decide +kernel
theorem dX11_dismiss_2 : decode cX11_dismiss 2 = .ok (.invokevirtual 191, 3) := by decide +kernel
theorem dX11_dismiss_5 : decode cX11_dismiss 5 = .ok (.aload_n 0, 1) := by decide +kernel
theorem dX11_dismiss_6 : decode cX11_dismiss 6 = .ok (.getfield 19, 3) := by decide +kernel
theorem dX11_dismiss_9 : decode cX11_dismiss 9 = .ok (.getfield 105, 3) := by decide +kernel
theorem dX11_dismiss_12 : decode cX11_dismiss 12 = .ok (.getfield 206, 3) := by decide +kernel
theorem dX11_dismiss_15 : decode cX11_dismiss 15 = .ok (.iload_n 1, 1) := by decide +kernel
theorem dX11_dismiss_16 : decode cX11_dismiss 16 = .ok (.iaload, 1) := by decide +kernel
theorem dX11_dismiss_17 : decode cX11_dismiss 17 = .ok (.istore_n 2, 1) := by decide +kernel
theorem dX11_dismiss_18 : decode cX11_dismiss 18 = .ok (.iload_n 2, 1) := by decide +kernel
theorem dX11_dismiss_19 : decode cX11_dismiss 19 = .ok (.iconst (-1), 1) := by decide +kernel
theorem dX11_dismiss_20 : decode cX11_dismiss 20 = .ok (.if_icmp .ne 12, 3) := by decide +kernel
theorem dX11_dismiss_23 : decode cX11_dismiss 23 = .ok (.aload_n 0, 1) := by decide +kernel
theorem dX11_dismiss_24 : decode cX11_dismiss 24 = .ok (.getfield 19, 3) := by decide +kernel
theorem dX11_dismiss_27 : decode cX11_dismiss 27 = .ok (.iconst 1, 1) := by decide +kernel
theorem dX11_dismiss_28 : decode cX11_dismiss 28 = .ok (.invokevirtual 93, 3) := by decide +kernel
theorem dX11_dismiss_31 : decode cX11_dismiss 31 = .ok (.ireturn, 1) := by decide +kernel
theorem dX11_dismiss_32 : decode cX11_dismiss 32 = .ok (.aload_n 0, 1) := by decide +kernel
theorem dX11_dismiss_33 : decode cX11_dismiss 33 = .ok (.getfield 19, 3) := by decide +kernel
theorem dX11_dismiss_36 : decode cX11_dismiss 36 = .ok (.invokevirtual 218, 3) := by decide +kernel
theorem dX11_dismiss_39 : decode cX11_dismiss 39 = .ok (.aload_n 0, 1) := by decide +kernel
theorem dX11_dismiss_40 : decode cX11_dismiss 40 = .ok (.getfield 19, 3) := by decide +kernel
theorem dX11_dismiss_43 : decode cX11_dismiss 43 = .ok (.getfield 105, 3) := by decide +kernel
theorem dX11_dismiss_46 : decode cX11_dismiss 46 = .ok (.getfield 206, 3) := by decide +kernel
theorem dX11_dismiss_49 : decode cX11_dismiss 49 = .ok (.iload_n 1, 1) := by decide +kernel
theorem dX11_dismiss_50 : decode cX11_dismiss 50 = .ok (.iconst (-1), 1) := by decide +kernel
theorem dX11_dismiss_51 : decode cX11_dismiss 51 = .ok (.iastore, 1) := by decide +kernel
theorem dX11_dismiss_52 : decode cX11_dismiss 52 = .ok (.iload_n 2, 1) := by decide +kernel
theorem dX11_dismiss_53 : decode cX11_dismiss 53 = .ok (.ireturn, 1) := by decide +kernel
theorem dX11_confess_0 : decode cX11_confess 0 = .ok (.aload_n 0, 1) := by decide +kernel
theorem dX11_confess_1 : decode cX11_confess 1 = .ok (.iload_n 1, 1) := by decide +kernel
theorem dX11_confess_2 : decode cX11_confess 2 = .ok (.invokevirtual 191, 3) := by decide +kernel
theorem dX11_confess_5 : decode cX11_confess 5 = .ok (.aload_n 0, 1) := by decide +kernel
theorem dX11_confess_6 : decode cX11_confess 6 = .ok (.getfield 19, 3) := by decide +kernel
theorem dX11_confess_9 : decode cX11_confess 9 = .ok (.getfield 105, 3) := by decide +kernel
theorem dX11_confess_12 : decode cX11_confess 12 = .ok (.astore_n 2, 1) := by decide +kernel
theorem dX11_confess_13 : decode cX11_confess 13 = .ok (.aload_n 2, 1) := by decide +kernel
theorem dX11_confess_14 : decode cX11_confess 14 = .ok (.getfield 200, 3) := by decide +kernel
theorem dX11_confess_17 : decode cX11_confess 17 = .ok (.iload_n 1, 1) := by decide +kernel
theorem dX11_confess_18 : decode cX11_confess 18 = .ok (.iaload, 1) := by decide +kernel
theorem dX11_confess_19 : decode cX11_confess 19 = .ok (.bipush 50, 2) := by decide +kernel
theorem dX11_confess_21 : decode cX11_confess 21 = .ok (.if_icmp .ge 12, 3) := by decide +kernel
theorem dX11_confess_24 : decode cX11_confess 24 = .ok (.aload_n 0, 1) := by decide +kernel
theorem dX11_confess_25 : decode cX11_confess 25 = .ok (.getfield 19, 3) := by decide +kernel
theorem dX11_confess_28 : decode cX11_confess 28 = .ok (.iconst 1, 1) := by decide +kernel
theorem dX11_confess_29 : decode cX11_confess 29 = .ok (.invokevirtual 93, 3) := by decide +kernel
theorem dX11_confess_32 : decode cX11_confess 32 = .ok (.ireturn, 1) := by decide +kernel
theorem dX11_confess_33 : decode cX11_confess 33 = .ok (.aload_n 0, 1) := by decide +kernel
theorem dX11_confess_34 : decode cX11_confess 34 = .ok (.getfield 19, 3) := by decide +kernel
theorem dX11_confess_37 : decode cX11_confess 37 = .ok (.invokevirtual 218, 3) := by decide +kernel
theorem dX11_confess_40 : decode cX11_confess 40 = .ok (.aload_n 2, 1) := by decide +kernel
theorem dX11_confess_41 : decode cX11_confess 41 = .ok (.getfield 200, 3) := by decide +kernel
theorem dX11_confess_44 : decode cX11_confess 44 = .ok (.iload_n 1, 1) := by decide +kernel
theorem dX11_confess_45 : decode cX11_confess 45 = .ok (.dup2, 1) := by decide +kernel
theorem dX11_confess_46 : decode cX11_confess 46 = .ok (.iaload, 1) := by decide +kernel
theorem dX11_confess_47 : decode cX11_confess 47 = .ok (.bipush 50, 2) := by decide +kernel
theorem dX11_confess_49 : decode cX11_confess 49 = .ok (.isub, 1) := by decide +kernel
theorem dX11_confess_50 : decode cX11_confess 50 = .ok (.iastore, 1) := by decide +kernel
theorem dX11_confess_51 : decode cX11_confess 51 = .ok (.aload_n 2, 1) := by decide +kernel
theorem dX11_confess_52 : decode cX11_confess 52 = .ok (.getfield 197, 3) := by decide +kernel
theorem dX11_confess_55 : decode cX11_confess 55 = .ok (.iload_n 1, 1) := by decide +kernel
theorem dX11_confess_56 : decode cX11_confess 56 = .ok (.dup2, 1) := by decide +kernel
theorem dX11_confess_57 : decode cX11_confess 57 = .ok (.iaload, 1) := by decide +kernel
theorem dX11_confess_58 : decode cX11_confess 58 = .ok (.iconst 2, 1) := by decide +kernel
theorem dX11_confess_59 : decode cX11_confess 59 = .ok (.idiv, 1) := by decide +kernel
theorem dX11_confess_60 : decode cX11_confess 60 = .ok (.iastore, 1) := by decide +kernel
theorem dX11_confess_61 : decode cX11_confess 61 = .ok (.aload_n 2, 1) := by decide +kernel
theorem dX11_confess_62 : decode cX11_confess 62 = .ok (.getfield 197, 3) := by decide +kernel
theorem dX11_confess_65 : decode cX11_confess 65 = .ok (.iload_n 1, 1) := by decide +kernel
theorem dX11_confess_66 : decode cX11_confess 66 = .ok (.iaload, 1) := by decide +kernel
theorem dX11_confess_67 : decode cX11_confess 67 = .ok (.ireturn, 1) := by decide +kernel
theorem dX11_drain_0 : decode cX11_drain 0 = .ok (.aload_n 0, 1) := by decide +kernel
theorem dX11_drain_1 : decode cX11_drain 1 = .ok (.iload_n 1, 1) := by decide +kernel
theorem dX11_drain_2 : decode cX11_drain 2 = .ok (.invokevirtual 162, 3) := by decide +kernel
theorem dX11_drain_5 : decode cX11_drain 5 = .ok (.aload_n 0, 1) := by decide +kernel
theorem dX11_drain_6 : decode cX11_drain 6 = .ok (.getfield 19, 3) := by decide +kernel
theorem dX11_drain_9 : decode cX11_drain 9 = .ok (.getfield 105, 3) := by decide +kernel
theorem dX11_drain_12 : decode cX11_drain 12 = .ok (.iload_n 1, 1) := by decide +kernel
theorem dX11_drain_13 : decode cX11_drain 13 = .ok (.invokevirtual 178, 3) := by decide +kernel
theorem dX11_drain_16 : decode cX11_drain 16 = .ok (.iload_n 2, 1) := by decide +kernel
theorem dX11_drain_17 : decode cX11_drain 17 = .ok (.if_icmp .ne 14, 3) := by decide +kernel
theorem dX11_drain_20 : decode cX11_drain 20 = .ok (.aload_n 0, 1) := by decide +kernel
theorem dX11_drain_21 : decode cX11_drain 21 = .ok (.getfield 19, 3) := by decide +kernel
theorem dX11_drain_24 : decode cX11_drain 24 = .ok (.iconst 1, 1) := by decide +kernel
theorem dX11_drain_25 : decode cX11_drain 25 = .ok (.invokevirtual 93, 3) := by decide +kernel
theorem dX11_drain_28 : decode cX11_drain 28 = .ok (.pop, 1) := by decide +kernel
theorem dX11_drain_29 : decode cX11_drain 29 = .ok (.iconst 0, 1) := by decide +kernel
theorem dX11_drain_30 : decode cX11_drain 30 = .ok (.ireturn, 1) := by decide +kernel
theorem dX11_drain_31 : decode cX11_drain 31 = .ok (.aload_n 0, 1) := by decide +kernel
theorem dX11_drain_32 : decode cX11_drain 32 = .ok (.getfield 19, 3) := by decide +kernel
theorem dX11_drain_35 : decode cX11_drain 35 = .ok (.invokevirtual 218, 3) := by decide +kernel
theorem dX11_drain_38 : decode cX11_drain 38 = .ok (.aload_n 0, 1) := by decide +kernel
theorem dX11_drain_39 : decode cX11_drain 39 = .ok (.getfield 19, 3) := by decide +kernel
theorem dX11_drain_42 : decode cX11_drain 42 = .ok (.getfield 105, 3) := by decide +kernel
theorem dX11_drain_45 : decode cX11_drain 45 = .ok (.iload_n 1, 1) := by decide +kernel
theorem dX11_drain_46 : decode cX11_drain 46 = .ok (.invokevirtual 225, 3) := by decide +kernel
theorem dX11_drain_49 : decode cX11_drain 49 = .ok (.iconst 1, 1) := by decide +kernel
theorem dX11_drain_50 : decode cX11_drain 50 = .ok (.ireturn, 1) := by decide +kernel
theorem dX11_give_0 : decode cX11_give 0 = .ok (.aload_n 0, 1) := by decide +kernel
theorem dX11_give_1 : decode cX11_give 1 = .ok (.iload_n 1, 1) := by decide +kernel
theorem dX11_give_2 : decode cX11_give 2 = .ok (.invokevirtual 191, 3) := by decide +kernel
theorem dX11_give_5 : decode cX11_give 5 = .ok (.iload_n 2, 1) := by decide +kernel
theorem dX11_give_6 : decode cX11_give 6 = .ok (.iconst 1, 1) := by decide +kernel
theorem dX11_give_7 : decode cX11_give 7 = .ok (.bipush 100, 2) := by decide +kernel
theorem dX11_give_9 : decode cX11_give 9 = .ok (.invokestatic 214, 3) := by decide +kernel
theorem dX11_give_12 : decode cX11_give 12 = .ok (.ifCond .ne 12, 3) := by decide +kernel
theorem dX11_give_15 : decode cX11_give 15 = .ok (.aload_n 0, 1) := by decide +kernel
theorem dX11_give_16 : decode cX11_give 16 = .ok (.getfield 19, 3) := by decide +kernel
theorem dX11_give_19 : decode cX11_give 19 = .ok (.iconst 1, 1) := by decide +kernel
theorem dX11_give_20 : decode cX11_give 20 = .ok (.invokevirtual 93, 3) := by decide +kernel
theorem dX11_give_23 : decode cX11_give 23 = .ok (.ireturn, 1) := by decide +kernel
theorem dX11_give_24 : decode cX11_give 24 = .ok (.aload_n 0, 1) := by decide +kernel
theorem dX11_give_25 : decode cX11_give 25 = .ok (.getfield 19, 3) := by decide +kernel
theorem dX11_give_28 : decode cX11_give 28 = .ok (.invokevirtual 218, 3) := by decide +kernel
theorem dX11_give_31 : decode cX11_give 31 = .ok (.aload_n 0, 1) := by decide +kernel
theorem dX11_give_32 : decode cX11_give 32 = .ok (.getfield 19, 3) := by decide +kernel
theorem dX11_give_35 : decode cX11_give 35 = .ok (.getfield 105, 3) := by decide +kernel
theorem dX11_give_38 : decode cX11_give 38 = .ok (.iload_n 1, 1) := by decide +kernel
theorem dX11_give_39 : decode cX11_give 39 = .ok (.iload_n 2, 1) := by decide +kernel
theorem dX11_give_40 : decode cX11_give 40 = .ok (.invokevirtual 228, 3) := by decide +kernel
theorem dX11_give_43 : decode cX11_give 43 = .ok (.aload_n 0, 1) := by decide +kernel
theorem dX11_give_44 : decode cX11_give 44 = .ok (.getfield 19, 3) := by decide +kernel
theorem dX11_give_47 : decode cX11_give 47 = .ok (.getfield 105, 3) := by decide +kernel
theorem dX11_give_50 : decode cX11_give 50 = .ok (.getfield 200, 3) := by decide +kernel
theorem dX11_give_53 : decode cX11_give 53 = .ok (.iload_n 1, 1) := by decide +kernel
theorem dX11_give_54 : decode cX11_give 54 = .ok (.iaload, 1) := by decide +kernel
theorem dX11_give_55 : decode cX11_give 55 = .ok (.ireturn, 1) := by decide +kernel
theorem dX11_undo_0 : decode cX11_undo 0 = .ok (.aload_n 0, 1) := by decide +kernel
theorem dX11_undo_1 : decode cX11_undo 1 = .ok (.getfield 19, 3) := by decide +kernel
theorem dX11_undo_4 : decode cX11_undo 4 = .ok (.getfield 137, 3) := by decide +kernel
theorem dX11_undo_7 : decode cX11_undo 7 = .ok (.aload_n 0, 1) := by decide +kernel
theorem dX11_undo_8 : decode cX11_undo 8 = .ok (.getfield 19, 3) := by decide +kernel
theorem dX11_undo_11 : decode cX11_undo 11 = .ok (.getfield 105, 3) := by decide +kernel
theorem dX11_undo_14 : decode cX11_undo 14 = .ok (.invokevirtual 232, 3) := by decide +kernel
theorem dX11_undo_17 : decode cX11_undo 17 = .ok (.ireturn, 1) := by decide +kernel
theorem dX11_then_0 : decode cX11_then 0 = .ok (.aload_n 0, 1) := by decide +kernel
theorem dX11_then_1 : decode cX11_then 1 = .ok (.iload_n 1, 1) := by decide +kernel
theorem dX11_then_2 : decode cX11_then 2 = .ok (.invokevirtual 191, 3) := by decide +kernel
theorem dX11_then_5 : decode cX11_then 5 = .ok (.iload_n 3, 1) := by decide +kernel
theorem dX11_then_6 : decode cX11_then 6 = .ok (.iconst 3, 1) := by decide +kernel
theorem dX11_then_7 : decode cX11_then 7 = .ok (.invokestatic 236, 3) := by decide +kernel
theorem dX11_then_10 : decode cX11_then 10 = .ok (.iload_n 2, 1) := by decide +kernel
theorem dX11_then_11 : decode cX11_then 11 = .ok (.iconst 0, 1) := by decide +kernel
theorem dX11_then_12 : decode cX11_then 12 = .ok (.bipush 60, 2) := by decide +kernel
theorem dX11_then_14 : decode cX11_then 14 = .ok (.invokestatic 239, 3) := by decide +kernel
theorem dX11_then_17 : decode cX11_then 17 = .ok (.aload_n 0, 1) := by decide +kernel
theorem dX11_then_18 : decode cX11_then 18 = .ok (.getfield 36, 3) := by decide +kernel
theorem dX11_then_21 : decode cX11_then 21 = .ok (.aload_n 0, 1) := by decide +kernel
theorem dX11_then_22 : decode cX11_then 22 = .ok (.getfield 57, 3) := by decide +kernel
theorem dX11_then_25 : decode cX11_then 25 = .ok (.aload_n 0, 1) := by decide +kernel
theorem dX11_then_26 : decode cX11_then 26 = .ok (.getfield 19, 3) := by decide +kernel
theorem dX11_then_29 : decode cX11_then 29 = .ok (.getfield 105, 3) := by decide +kernel
theorem dX11_then_32 : decode cX11_then 32 = .ok (.iload_n 1, 1) := by decide +kernel
theorem dX11_then_33 : decode cX11_then 33 = .ok (.invokevirtual 243, 3) := by decide +kernel
theorem dX11_then_36 : decode cX11_then 36 = .ok (.aload_n 0, 1) := by decide +kernel
theorem dX11_then_37 : decode cX11_then 37 = .ok (.getfield 36, 3) := by decide +kernel
theorem dX11_then_40 : decode cX11_then 40 = .ok (.aload_n 0, 1) := by decide +kernel
theorem dX11_then_41 : decode cX11_then 41 = .ok (.getfield 57, 3) := by decide +kernel
theorem dX11_then_44 : decode cX11_then 44 = .ok (.iload_n 2, 1) := by decide +kernel
theorem dX11_then_45 : decode cX11_then 45 = .ok (.invokevirtual 246, 3) := by decide +kernel
theorem dX11_then_48 : decode cX11_then 48 = .ok (.iload_n 3, 1) := by decide +kernel
theorem dX11_then_49 : decode cX11_then 49 = .ok (.tableswitch 51 0 2 #[27, 35, 43], 27) := by decide +kernel
theorem dX11_then_76 : decode cX11_then 76 = .ok (.aload_n 0, 1) := by decide +kernel
theorem dX11_then_77 : decode cX11_then 77 = .ok (.getfield 36, 3) := by decide +kernel
theorem dX11_then_80 : decode cX11_then 80 = .ok (.getfield 250, 3) := by decide +kernel
theorem dX11_then_83 : decode cX11_then 83 = .ok (.ireturn, 1) := by decide +kernel
theorem dX11_then_84 : decode cX11_then 84 = .ok (.aload_n 0, 1) := by decide +kernel
theorem dX11_then_85 : decode cX11_then 85 = .ok (.getfield 36, 3) := by decide +kernel
theorem dX11_then_88 : decode cX11_then 88 = .ok (.getfield 252, 3) := by decide +kernel
theorem dX11_then_91 : decode cX11_then 91 = .ok (.ireturn, 1) := by decide +kernel
theorem dX11_then_92 : decode cX11_then 92 = .ok (.aload_n 0, 1) := by decide +kernel
theorem dX11_then_93 : decode cX11_then 93 = .ok (.getfield 36, 3) := by decide +kernel
theorem dX11_then_96 : decode cX11_then 96 = .ok (.getfield 254, 3) := by decide +kernel
theorem dX11_then_99 : decode cX11_then 99 = .ok (.ireturn, 1) := by decide +kernel
theorem dX11_then_100 : decode cX11_then 100 = .ok (.aload_n 0, 1) := by decide +kernel
theorem dX11_then_101 : decode cX11_then 101 = .ok (.getfield 36, 3) := by decide +kernel
theorem dX11_then_104 : decode cX11_then 104 = .ok (.getfield 256, 3) := by decide +kernel
theorem dX11_then_107 : decode cX11_then 107 = .ok (.ireturn, 1) := by decide +kernel
theorem dX11_dripping_0 : decode cX11_dripping 0 = .ok (.iload_n 1, 1) := by decide +kernel
theorem dX11_dripping_1 : decode cX11_dripping 1 = .ok (.iconst 1, 1) := by decide +kernel
theorem dX11_dripping_2 : decode cX11_dripping 2 = .ok (.bipush 60, 2) := by decide +kernel
theorem dX11_dripping_4 : decode cX11_dripping 4 = .ok (.invokestatic 239, 3) := by decide +kernel
theorem dX11_dripping_7 : decode cX11_dripping 7 = .ok (.aload_n 0, 1) := by decide +kernel
theorem dX11_dripping_8 : decode cX11_dripping 8 = .ok (.iload_n 1, 1) := by decide +kernel
theorem dX11_dripping_9 : decode cX11_dripping 9 = .ok (.invokevirtual 258, 3) := by decide +kernel
theorem dX11_dripping_12 : decode cX11_dripping 12 = .ok (.ireturn, 1) := by decide +kernel
theorem dX11_first_0 : decode cX11_first 0 = .ok (.aload_n 0, 1) := by decide +kernel
theorem dX11_first_1 : decode cX11_first 1 = .ok (.iload_n 1, 1) := by decide +kernel
theorem dX11_first_2 : decode cX11_first 2 = .ok (.invokevirtual 191, 3) := by decide +kernel
theorem dX11_first_5 : decode cX11_first 5 = .ok (.aload_n 0, 1) := by decide +kernel
theorem dX11_first_6 : decode cX11_first 6 = .ok (.getfield 36, 3) := by decide +kernel
theorem dX11_first_9 : decode cX11_first 9 = .ok (.aload_n 0, 1) := by decide +kernel
theorem dX11_first_10 : decode cX11_first 10 = .ok (.getfield 57, 3) := by decide +kernel
theorem dX11_first_13 : decode cX11_first 13 = .ok (.aload_n 0, 1) := by decide +kernel
theorem dX11_first_14 : decode cX11_first 14 = .ok (.getfield 19, 3) := by decide +kernel
theorem dX11_first_17 : decode cX11_first 17 = .ok (.getfield 105, 3) := by decide +kernel
theorem dX11_first_20 : decode cX11_first 20 = .ok (.iload_n 1, 1) := by decide +kernel
theorem dX11_first_21 : decode cX11_first 21 = .ok (.invokevirtual 243, 3) := by decide +kernel
theorem dX11_first_24 : decode cX11_first 24 = .ok (.iconst 1, 1) := by decide +kernel
theorem dX11_first_25 : decode cX11_first 25 = .ok (.istore_n 2, 1) := by decide +kernel
theorem dX11_first_26 : decode cX11_first 26 = .ok (.iload_n 2, 1) := by decide +kernel
theorem dX11_first_27 : decode cX11_first 27 = .ok (.bipush 60, 2) := by decide +kernel
theorem dX11_first_29 : decode cX11_first 29 = .ok (.if_icmp .gt 39, 3) := by decide +kernel
theorem dX11_first_32 : decode cX11_first 32 = .ok (.aload_n 0, 1) := by decide +kernel
theorem dX11_first_33 : decode cX11_first 33 = .ok (.getfield 36, 3) := by decide +kernel
theorem dX11_first_36 : decode cX11_first 36 = .ok (.aload_n 0, 1) := by decide +kernel
theorem dX11_first_37 : decode cX11_first 37 = .ok (.getfield 57, 3) := by decide +kernel
theorem dX11_first_40 : decode cX11_first 40 = .ok (.aload_n 0, 1) := by decide +kernel
theorem dX11_first_41 : decode cX11_first 41 = .ok (.getfield 57, 3) := by decide +kernel
theorem dX11_first_44 : decode cX11_first 44 = .ok (.aload_n 0, 1) := by decide +kernel
theorem dX11_first_45 : decode cX11_first 45 = .ok (.getfield 36, 3) := by decide +kernel
theorem dX11_first_48 : decode cX11_first 48 = .ok (.getfield 261, 3) := by decide +kernel
theorem dX11_first_51 : decode cX11_first 51 = .ok (.invokevirtual 117, 3) := by decide +kernel
theorem dX11_first_54 : decode cX11_first 54 = .ok (.invokevirtual 262, 3) := by decide +kernel
theorem dX11_first_57 : decode cX11_first 57 = .ok (.ifCond .eq 5, 3) := by decide +kernel
theorem dX11_first_60 : decode cX11_first 60 = .ok (.iload_n 2, 1) := by decide +kernel
theorem dX11_first_61 : decode cX11_first 61 = .ok (.ireturn, 1) := by decide +kernel
theorem dX11_first_62 : decode cX11_first 62 = .ok (.iinc 2 1, 3) := by decide +kernel
theorem dX11_first_65 : decode cX11_first 65 = .ok (.goto (-39), 3) := by decide +kernel
theorem dX11_first_68 : decode cX11_first 68 = .ok (.iconst (-1), 1) := by decide +kernel
theorem dX11_first_69 : decode cX11_first 69 = .ok (.ireturn, 1) := by decide +kernel
theorem dX11_dismissed_0 : decode cX11_dismissed 0 = .ok (.aload_n 0, 1) := by decide +kernel
theorem dX11_dismissed_1 : decode cX11_dismissed 1 = .ok (.iload_n 1, 1) := by decide +kernel
theorem dX11_dismissed_2 : decode cX11_dismissed 2 = .ok (.invokevirtual 191, 3) := by decide +kernel
theorem dX11_dismissed_5 : decode cX11_dismissed 5 = .ok (.aload_n 0, 1) := by decide +kernel
theorem dX11_dismissed_6 : decode cX11_dismissed 6 = .ok (.getfield 19, 3) := by decide +kernel
theorem dX11_dismissed_9 : decode cX11_dismissed 9 = .ok (.getfield 105, 3) := by decide +kernel
theorem dX11_dismissed_12 : decode cX11_dismissed 12 = .ok (.getfield 206, 3) := by decide +kernel
theorem dX11_dismissed_15 : decode cX11_dismissed 15 = .ok (.iload_n 1, 1) := by decide +kernel
theorem dX11_dismissed_16 : decode cX11_dismissed 16 = .ok (.iaload, 1) := by decide +kernel
theorem dX11_dismissed_17 : decode cX11_dismissed 17 = .ok (.iconst (-1), 1) := by decide +kernel
theorem dX11_dismissed_18 : decode cX11_dismissed 18 = .ok (.if_icmp .ne 5, 3) := by decide +kernel
theorem dX11_dismissed_21 : decode cX11_dismissed 21 = .ok (.iconst (-1), 1) := by decide +kernel
theorem dX11_dismissed_22 : decode cX11_dismissed 22 = .ok (.ireturn, 1) := by decide +kernel
theorem dX11_dismissed_23 : decode cX11_dismissed 23 = .ok (.aload_n 0, 1) := by decide +kernel
theorem dX11_dismissed_24 : decode cX11_dismissed 24 = .ok (.getfield 36, 3) := by decide +kernel
theorem dX11_dismissed_27 : decode cX11_dismissed 27 = .ok (.aload_n 0, 1) := by decide +kernel
theorem dX11_dismissed_28 : decode cX11_dismissed 28 = .ok (.getfield 57, 3) := by decide +kernel
theorem dX11_dismissed_31 : decode cX11_dismissed 31 = .ok (.aload_n 0, 1) := by decide +kernel
theorem dX11_dismissed_32 : decode cX11_dismissed 32 = .ok (.getfield 19, 3) := by decide +kernel
theorem dX11_dismissed_35 : decode cX11_dismissed 35 = .ok (.getfield 105, 3) := by decide +kernel
theorem dX11_dismissed_38 : decode cX11_dismissed 38 = .ok (.iload_n 1, 1) := by decide +kernel
theorem dX11_dismissed_39 : decode cX11_dismissed 39 = .ok (.invokevirtual 243, 3) := by decide +kernel
theorem dX11_dismissed_42 : decode cX11_dismissed 42 = .ok (.iconst 1, 1) := by decide +kernel
theorem dX11_dismissed_43 : decode cX11_dismissed 43 = .ok (.istore_n 2, 1) := by decide +kernel
theorem dX11_dismissed_44 : decode cX11_dismissed 44 = .ok (.iload_n 2, 1) := by decide +kernel
theorem dX11_dismissed_45 : decode cX11_dismissed 45 = .ok (.bipush 60, 2) := by decide +kernel
theorem dX11_dismissed_47 : decode cX11_dismissed 47 = .ok (.if_icmp .gt 34, 3) := by decide +kernel
theorem dX11_dismissed_50 : decode cX11_dismissed 50 = .ok (.aload_n 0, 1) := by decide +kernel
theorem dX11_dismissed_51 : decode cX11_dismissed 51 = .ok (.getfield 36, 3) := by decide +kernel
theorem dX11_dismissed_54 : decode cX11_dismissed 54 = .ok (.aload_n 0, 1) := by decide +kernel
theorem dX11_dismissed_55 : decode cX11_dismissed 55 = .ok (.getfield 57, 3) := by decide +kernel
theorem dX11_dismissed_58 : decode cX11_dismissed 58 = .ok (.iconst 1, 1) := by decide +kernel
theorem dX11_dismissed_59 : decode cX11_dismissed 59 = .ok (.invokevirtual 246, 3) := by decide +kernel
theorem dX11_dismissed_62 : decode cX11_dismissed 62 = .ok (.aload_n 0, 1) := by decide +kernel
theorem dX11_dismissed_63 : decode cX11_dismissed 63 = .ok (.getfield 36, 3) := by decide +kernel
theorem dX11_dismissed_66 : decode cX11_dismissed 66 = .ok (.getfield 256, 3) := by decide +kernel
theorem dX11_dismissed_69 : decode cX11_dismissed 69 = .ok (.iconst (-1), 1) := by decide +kernel
theorem dX11_dismissed_70 : decode cX11_dismissed 70 = .ok (.if_icmp .ne 5, 3) := by decide +kernel
theorem dX11_dismissed_73 : decode cX11_dismissed 73 = .ok (.iload_n 2, 1) := by decide +kernel
theorem dX11_dismissed_74 : decode cX11_dismissed 74 = .ok (.ireturn, 1) := by decide +kernel
theorem dX11_dismissed_75 : decode cX11_dismissed 75 = .ok (.iinc 2 1, 3) := by decide +kernel
theorem dX11_dismissed_78 : decode cX11_dismissed 78 = .ok (.goto (-34), 3) := by decide +kernel
theorem dX11_dismissed_81 : decode cX11_dismissed 81 = .ok (.iconst (-1), 1) := by decide +kernel
theorem dX11_dismissed_82 : decode cX11_dismissed 82 = .ok (.ireturn, 1) := by decide +kernel
theorem dX11_most_0 : decode cX11_most 0 = .ok (.iload_n 2, 1) := by decide +kernel
theorem dX11_most_1 : decode cX11_most 1 = .ok (.iconst 1, 1) := by decide +kernel
theorem dX11_most_2 : decode cX11_most 2 = .ok (.invokestatic 236, 3) := by decide +kernel
theorem dX11_most_5 : decode cX11_most 5 = .ok (.iload_n 1, 1) := by decide +kernel
theorem dX11_most_6 : decode cX11_most 6 = .ok (.iconst 0, 1) := by decide +kernel
theorem dX11_most_7 : decode cX11_most 7 = .ok (.bipush 60, 2) := by decide +kernel
theorem dX11_most_9 : decode cX11_most 9 = .ok (.invokestatic 239, 3) := by decide +kernel
theorem dX11_most_12 : decode cX11_most 12 = .ok (.iconst (-1), 1) := by decide +kernel
theorem dX11_most_13 : decode cX11_most 13 = .ok (.istore_n 3, 1) := by decide +kernel
theorem dX11_most_14 : decode cX11_most 14 = .ok (.iconst (-1), 1) := by decide +kernel
theorem dX11_most_15 : decode cX11_most 15 = .ok (.istore 4, 2) := by decide +kernel
theorem dX11_most_17 : decode cX11_most 17 = .ok (.iconst 0, 1) := by decide +kernel
theorem dX11_most_18 : decode cX11_most 18 = .ok (.istore 5, 2) := by decide +kernel
theorem dX11_most_20 : decode cX11_most 20 = .ok (.iload 5, 2) := by decide +kernel
theorem dX11_most_22 : decode cX11_most 22 = .ok (.aload_n 0, 1) := by decide +kernel
theorem dX11_most_23 : decode cX11_most 23 = .ok (.getfield 57, 3) := by decide +kernel
theorem dX11_most_26 : decode cX11_most 26 = .ok (.getfield 111, 3) := by decide +kernel
theorem dX11_most_29 : decode cX11_most 29 = .ok (.if_icmp .ge 78, 3) := by decide +kernel
theorem dX11_most_32 : decode cX11_most 32 = .ok (.aload_n 0, 1) := by decide +kernel
theorem dX11_most_33 : decode cX11_most 33 = .ok (.getfield 36, 3) := by decide +kernel
theorem dX11_most_36 : decode cX11_most 36 = .ok (.aload_n 0, 1) := by decide +kernel
theorem dX11_most_37 : decode cX11_most 37 = .ok (.getfield 57, 3) := by decide +kernel
theorem dX11_most_40 : decode cX11_most 40 = .ok (.aload_n 0, 1) := by decide +kernel
theorem dX11_most_41 : decode cX11_most 41 = .ok (.getfield 19, 3) := by decide +kernel
theorem dX11_most_44 : decode cX11_most 44 = .ok (.getfield 105, 3) := by decide +kernel
theorem dX11_most_47 : decode cX11_most 47 = .ok (.iload 5, 2) := by decide +kernel
theorem dX11_most_49 : decode cX11_most 49 = .ok (.invokevirtual 243, 3) := by decide +kernel
theorem dX11_most_52 : decode cX11_most 52 = .ok (.aload_n 0, 1) := by decide +kernel
theorem dX11_most_53 : decode cX11_most 53 = .ok (.getfield 36, 3) := by decide +kernel
theorem dX11_most_56 : decode cX11_most 56 = .ok (.aload_n 0, 1) := by decide +kernel
theorem dX11_most_57 : decode cX11_most 57 = .ok (.getfield 57, 3) := by decide +kernel
theorem dX11_most_60 : decode cX11_most 60 = .ok (.iload_n 1, 1) := by decide +kernel
theorem dX11_most_61 : decode cX11_most 61 = .ok (.invokevirtual 246, 3) := by decide +kernel
theorem dX11_most_64 : decode cX11_most 64 = .ok (.iload_n 2, 1) := by decide +kernel
theorem dX11_most_65 : decode cX11_most 65 = .ok (.ifCond .ne 13, 3) := by decide +kernel
theorem dX11_most_68 : decode cX11_most 68 = .ok (.aload_n 0, 1) := by decide +kernel
theorem dX11_most_69 : decode cX11_most 69 = .ok (.getfield 36, 3) := by decide +kernel
theorem dX11_most_72 : decode cX11_most 72 = .ok (.getfield 252, 3) := by decide +kernel
theorem dX11_most_75 : decode cX11_most 75 = .ok (.goto 10, 3) := by decide +kernel
theorem dX11_most_78 : decode cX11_most 78 = .ok (.aload_n 0, 1) := by decide +kernel
theorem dX11_most_79 : decode cX11_most 79 = .ok (.getfield 36, 3) := by decide +kernel
theorem dX11_most_82 : decode cX11_most 82 = .ok (.getfield 250, 3) := by decide +kernel
theorem dX11_most_85 : decode cX11_most 85 = .ok (.istore 6, 2) := by decide +kernel
theorem dX11_most_87 : decode cX11_most 87 = .ok (.iload 6, 2) := by decide +kernel
theorem dX11_most_89 : decode cX11_most 89 = .ok (.iload 4, 2) := by decide +kernel
theorem dX11_most_91 : decode cX11_most 91 = .ok (.if_icmp .le 10, 3) := by decide +kernel
theorem dX11_most_94 : decode cX11_most 94 = .ok (.iload 5, 2) := by decide +kernel
theorem dX11_most_96 : decode cX11_most 96 = .ok (.istore_n 3, 1) := by decide +kernel
theorem dX11_most_97 : decode cX11_most 97 = .ok (.iload 6, 2) := by decide +kernel
theorem dX11_most_99 : decode cX11_most 99 = .ok (.istore 4, 2) := by decide +kernel
theorem dX11_most_101 : decode cX11_most 101 = .ok (.iinc 5 1, 3) := by decide +kernel
theorem dX11_most_104 : decode cX11_most 104 = .ok (.goto (-84), 3) := by decide +kernel
theorem dX11_most_107 : decode cX11_most 107 = .ok (.iload_n 3, 1) := by decide +kernel
theorem dX11_most_108 : decode cX11_most 108 = .ok (.ireturn, 1) := by decide +kernel
theorem dX11_hush_0 : decode cX11_hush 0 = .ok (.iload_n 1, 1) := by decide +kernel
theorem dX11_hush_1 : decode cX11_hush 1 = .ok (.iconst 1, 1) := by decide +kernel
theorem dX11_hush_2 : decode cX11_hush 2 = .ok (.bipush 60, 2) := by decide +kernel
theorem dX11_hush_4 : decode cX11_hush 4 = .ok (.invokestatic 239, 3) := by decide +kernel
theorem dX11_hush_7 : decode cX11_hush 7 = .ok (.iconst 0, 1) := by decide +kernel
theorem dX11_hush_8 : decode cX11_hush 8 = .ok (.istore_n 2, 1) := by decide +kernel
theorem dX11_hush_9 : decode cX11_hush 9 = .ok (.iconst 0, 1) := by decide +kernel
theorem dX11_hush_10 : decode cX11_hush 10 = .ok (.istore_n 3, 1) := by decide +kernel
theorem dX11_hush_11 : decode cX11_hush 11 = .ok (.iconst 1, 1) := by decide +kernel
theorem dX11_hush_12 : decode cX11_hush 12 = .ok (.istore 4, 2) := by decide +kernel
theorem dX11_hush_14 : decode cX11_hush 14 = .ok (.iload 4, 2) := by decide +kernel
theorem dX11_hush_16 : decode cX11_hush 16 = .ok (.iload_n 1, 1) := by decide +kernel
theorem dX11_hush_17 : decode cX11_hush 17 = .ok (.if_icmp .gt 32, 3) := by decide +kernel
theorem dX11_hush_20 : decode cX11_hush 20 = .ok (.aload_n 0, 1) := by decide +kernel
theorem dX11_hush_21 : decode cX11_hush 21 = .ok (.iload 4, 2) := by decide +kernel
theorem dX11_hush_23 : decode cX11_hush 23 = .ok (.invokevirtual 258, 3) := by decide +kernel
theorem dX11_hush_26 : decode cX11_hush 26 = .ok (.ifCond .ne 9, 3) := by decide +kernel
theorem dX11_hush_29 : decode cX11_hush 29 = .ok (.iload_n 3, 1) := by decide +kernel
theorem dX11_hush_30 : decode cX11_hush 30 = .ok (.iconst 1, 1) := by decide +kernel
theorem dX11_hush_31 : decode cX11_hush 31 = .ok (.iadd, 1) := by decide +kernel
theorem dX11_hush_32 : decode cX11_hush 32 = .ok (.goto 4, 3) := by decide +kernel
theorem dX11_hush_35 : decode cX11_hush 35 = .ok (.iconst 0, 1) := by decide +kernel
theorem dX11_hush_36 : decode cX11_hush 36 = .ok (.istore_n 3, 1) := by decide +kernel
theorem dX11_hush_37 : decode cX11_hush 37 = .ok (.iload_n 2, 1) := by decide +kernel
theorem dX11_hush_38 : decode cX11_hush 38 = .ok (.iload_n 3, 1) := by decide +kernel
theorem dX11_hush_39 : decode cX11_hush 39 = .ok (.invokestatic 265, 3) := by decide +kernel
theorem dX11_hush_42 : decode cX11_hush 42 = .ok (.istore_n 2, 1) := by decide +kernel
theorem dX11_hush_43 : decode cX11_hush 43 = .ok (.iinc 4 1, 3) := by decide +kernel
theorem dX11_hush_46 : decode cX11_hush 46 = .ok (.goto (-32), 3) := by decide +kernel
theorem dX11_hush_49 : decode cX11_hush 49 = .ok (.iload_n 2, 1) := by decide +kernel
theorem dX11_hush_50 : decode cX11_hush 50 = .ok (.ireturn, 1) := by decide +kernel
theorem dX11_chorus_0 : decode cX11_chorus 0 = .ok (.iload_n 1, 1) := by decide +kernel
theorem dX11_chorus_1 : decode cX11_chorus 1 = .ok (.iconst 1, 1) := by decide +kernel
theorem dX11_chorus_2 : decode cX11_chorus 2 = .ok (.bipush 60, 2) := by decide +kernel
theorem dX11_chorus_4 : decode cX11_chorus 4 = .ok (.invokestatic 239, 3) := by decide +kernel
theorem dX11_chorus_7 : decode cX11_chorus 7 = .ok (.iconst (-1), 1) := by decide +kernel
theorem dX11_chorus_8 : decode cX11_chorus 8 = .ok (.istore_n 2, 1) := by decide +kernel
theorem dX11_chorus_9 : decode cX11_chorus 9 = .ok (.iconst (-1), 1) := by decide +kernel
theorem dX11_chorus_10 : decode cX11_chorus 10 = .ok (.istore_n 3, 1) := by decide +kernel
theorem dX11_chorus_11 : decode cX11_chorus 11 = .ok (.iconst 1, 1) := by decide +kernel
theorem dX11_chorus_12 : decode cX11_chorus 12 = .ok (.istore 4, 2) := by decide +kernel
theorem dX11_chorus_14 : decode cX11_chorus 14 = .ok (.iload 4, 2) := by decide +kernel
theorem dX11_chorus_16 : decode cX11_chorus 16 = .ok (.iload_n 1, 1) := by decide +kernel
theorem dX11_chorus_17 : decode cX11_chorus 17 = .ok (.if_icmp .gt 32, 3) := by decide +kernel
theorem dX11_chorus_20 : decode cX11_chorus 20 = .ok (.aload_n 0, 1) := by decide +kernel
theorem dX11_chorus_21 : decode cX11_chorus 21 = .ok (.iload 4, 2) := by decide +kernel
theorem dX11_chorus_23 : decode cX11_chorus 23 = .ok (.invokevirtual 258, 3) := by decide +kernel
theorem dX11_chorus_26 : decode cX11_chorus 26 = .ok (.invokestatic 271, 3) := by decide +kernel
theorem dX11_chorus_29 : decode cX11_chorus 29 = .ok (.istore 5, 2) := by decide +kernel
theorem dX11_chorus_31 : decode cX11_chorus 31 = .ok (.iload 5, 2) := by decide +kernel
theorem dX11_chorus_33 : decode cX11_chorus 33 = .ok (.iload_n 3, 1) := by decide +kernel
theorem dX11_chorus_34 : decode cX11_chorus 34 = .ok (.if_icmp .le 9, 3) := by decide +kernel
theorem dX11_chorus_37 : decode cX11_chorus 37 = .ok (.iload 4, 2) := by decide +kernel
theorem dX11_chorus_39 : decode cX11_chorus 39 = .ok (.istore_n 2, 1) := by decide +kernel
theorem dX11_chorus_40 : decode cX11_chorus 40 = .ok (.iload 5, 2) := by decide +kernel
theorem dX11_chorus_42 : decode cX11_chorus 42 = .ok (.istore_n 3, 1) := by decide +kernel
theorem dX11_chorus_43 : decode cX11_chorus 43 = .ok (.iinc 4 1, 3) := by decide +kernel
theorem dX11_chorus_46 : decode cX11_chorus 46 = .ok (.goto (-32), 3) := by decide +kernel
theorem dX11_chorus_49 : decode cX11_chorus 49 = .ok (.iload_n 2, 1) := by decide +kernel
theorem dX11_chorus_50 : decode cX11_chorus 50 = .ok (.ireturn, 1) := by decide +kernel
theorem dX11_together_0 : decode cX11_together 0 = .ok (.aload_n 0, 1) := by decide +kernel
theorem dX11_together_1 : decode cX11_together 1 = .ok (.iload_n 1, 1) := by decide +kernel
theorem dX11_together_2 : decode cX11_together 2 = .ok (.invokevirtual 276, 3) := by decide +kernel
theorem dX11_together_5 : decode cX11_together 5 = .ok (.iconst 1, 1) := by decide +kernel
theorem dX11_together_6 : decode cX11_together 6 = .ok (.istore_n 2, 1) := by decide +kernel
theorem dX11_together_7 : decode cX11_together 7 = .ok (.iconst 1, 1) := by decide +kernel
theorem dX11_together_8 : decode cX11_together 8 = .ok (.istore_n 3, 1) := by decide +kernel
theorem dX11_together_9 : decode cX11_together 9 = .ok (.iconst 0, 1) := by decide +kernel
theorem dX11_together_10 : decode cX11_together 10 = .ok (.istore 4, 2) := by decide +kernel
theorem dX11_together_12 : decode cX11_together 12 = .ok (.iload 4, 2) := by decide +kernel
theorem dX11_together_14 : decode cX11_together 14 = .ok (.aload_n 0, 1) := by decide +kernel
theorem dX11_together_15 : decode cX11_together 15 = .ok (.getfield 57, 3) := by decide +kernel
theorem dX11_together_18 : decode cX11_together 18 = .ok (.getfield 108, 3) := by decide +kernel
theorem dX11_together_21 : decode cX11_together 21 = .ok (.if_icmp .ge 49, 3) := by decide +kernel
theorem dX11_together_24 : decode cX11_together 24 = .ok (.iload_n 1, 1) := by decide +kernel
theorem dX11_together_25 : decode cX11_together 25 = .ok (.iload 4, 2) := by decide +kernel
theorem dX11_together_27 : decode cX11_together 27 = .ok (.invokestatic 279, 3) := by decide +kernel
theorem dX11_together_30 : decode cX11_together 30 = .ok (.ifCond .eq 34, 3) := by decide +kernel
theorem dX11_together_33 : decode cX11_together 33 = .ok (.aload_n 0, 1) := by decide +kernel
theorem dX11_together_34 : decode cX11_together 34 = .ok (.iload 4, 2) := by decide +kernel
theorem dX11_together_36 : decode cX11_together 36 = .ok (.iload_n 2, 1) := by decide +kernel
theorem dX11_together_37 : decode cX11_together 37 = .ok (.iload_n 3, 1) := by decide +kernel
theorem dX11_together_38 : decode cX11_together 38 = .ok (.invokevirtual 283, 3) := by decide +kernel
theorem dX11_together_41 : decode cX11_together 41 = .ok (.istore_n 2, 1) := by decide +kernel
theorem dX11_together_42 : decode cX11_together 42 = .ok (.iload_n 2, 1) := by decide +kernel
theorem dX11_together_43 : decode cX11_together 43 = .ok (.iconst (-1), 1) := by decide +kernel
theorem dX11_together_44 : decode cX11_together 44 = .ok (.if_icmp .ne 5, 3) := by decide +kernel
theorem dX11_together_47 : decode cX11_together 47 = .ok (.iconst (-1), 1) := by decide +kernel
theorem dX11_together_48 : decode cX11_together 48 = .ok (.ireturn, 1) := by decide +kernel
theorem dX11_together_49 : decode cX11_together 49 = .ok (.iload_n 3, 1) := by decide +kernel
theorem dX11_together_50 : decode cX11_together 50 = .ok (.aload_n 0, 1) := by decide +kernel
theorem dX11_together_51 : decode cX11_together 51 = .ok (.getfield 57, 3) := by decide +kernel
theorem dX11_together_54 : decode cX11_together 54 = .ok (.getfield 165, 3) := by decide +kernel
theorem dX11_together_57 : decode cX11_together 57 = .ok (.iload 4, 2) := by decide +kernel
theorem dX11_together_59 : decode cX11_together 59 = .ok (.iaload, 1) := by decide +kernel
theorem dX11_together_60 : decode cX11_together 60 = .ok (.invokestatic 287, 3) := by decide +kernel
theorem dX11_together_63 : decode cX11_together 63 = .ok (.istore_n 3, 1) := by decide +kernel
theorem dX11_together_64 : decode cX11_together 64 = .ok (.iinc 4 1, 3) := by decide +kernel
theorem dX11_together_67 : decode cX11_together 67 = .ok (.goto (-55), 3) := by decide +kernel
theorem dX11_together_70 : decode cX11_together 70 = .ok (.iload_n 2, 1) := by decide +kernel
theorem dX11_together_71 : decode cX11_together 71 = .ok (.ireturn, 1) := by decide +kernel
theorem dX11_rhythm_0 : decode cX11_rhythm 0 = .ok (.aload_n 0, 1) := by decide +kernel
theorem dX11_rhythm_1 : decode cX11_rhythm 1 = .ok (.iload_n 1, 1) := by decide +kernel
theorem dX11_rhythm_2 : decode cX11_rhythm 2 = .ok (.invokevirtual 276, 3) := by decide +kernel
theorem dX11_rhythm_5 : decode cX11_rhythm 5 = .ok (.iconst 1, 1) := by decide +kernel
theorem dX11_rhythm_6 : decode cX11_rhythm 6 = .ok (.istore_n 2, 1) := by decide +kernel
theorem dX11_rhythm_7 : decode cX11_rhythm 7 = .ok (.iconst 0, 1) := by decide +kernel
theorem dX11_rhythm_8 : decode cX11_rhythm 8 = .ok (.istore_n 3, 1) := by decide +kernel
theorem dX11_rhythm_9 : decode cX11_rhythm 9 = .ok (.iload_n 3, 1) := by decide +kernel
theorem dX11_rhythm_10 : decode cX11_rhythm 10 = .ok (.aload_n 0, 1) := by decide +kernel
theorem dX11_rhythm_11 : decode cX11_rhythm 11 = .ok (.getfield 57, 3) := by decide +kernel
theorem dX11_rhythm_14 : decode cX11_rhythm 14 = .ok (.getfield 108, 3) := by decide +kernel
theorem dX11_rhythm_17 : decode cX11_rhythm 17 = .ok (.if_icmp .ge 31, 3) := by decide +kernel
theorem dX11_rhythm_20 : decode cX11_rhythm 20 = .ok (.iload_n 1, 1) := by decide +kernel
theorem dX11_rhythm_21 : decode cX11_rhythm 21 = .ok (.iload_n 3, 1) := by decide +kernel
theorem dX11_rhythm_22 : decode cX11_rhythm 22 = .ok (.invokestatic 279, 3) := by decide +kernel
theorem dX11_rhythm_25 : decode cX11_rhythm 25 = .ok (.ifCond .eq 17, 3) := by decide +kernel
theorem dX11_rhythm_28 : decode cX11_rhythm 28 = .ok (.iload_n 2, 1) := by decide +kernel
theorem dX11_rhythm_29 : decode cX11_rhythm 29 = .ok (.aload_n 0, 1) := by decide +kernel
theorem dX11_rhythm_30 : decode cX11_rhythm 30 = .ok (.getfield 57, 3) := by decide +kernel
theorem dX11_rhythm_33 : decode cX11_rhythm 33 = .ok (.getfield 165, 3) := by decide +kernel
theorem dX11_rhythm_36 : decode cX11_rhythm 36 = .ok (.iload_n 3, 1) := by decide +kernel
theorem dX11_rhythm_37 : decode cX11_rhythm 37 = .ok (.iaload, 1) := by decide +kernel
theorem dX11_rhythm_38 : decode cX11_rhythm 38 = .ok (.invokestatic 287, 3) := by decide +kernel
theorem dX11_rhythm_41 : decode cX11_rhythm 41 = .ok (.istore_n 2, 1) := by decide +kernel
theorem dX11_rhythm_42 : decode cX11_rhythm 42 = .ok (.iinc 3 1, 3) := by decide +kernel
theorem dX11_rhythm_45 : decode cX11_rhythm 45 = .ok (.goto (-36), 3) := by decide +kernel
theorem dX11_rhythm_48 : decode cX11_rhythm 48 = .ok (.iload_n 2, 1) := by decide +kernel
theorem dX11_rhythm_49 : decode cX11_rhythm 49 = .ok (.ireturn, 1) := by decide +kernel
theorem dX11_often_0 : decode cX11_often 0 = .ok (.aload_n 0, 1) := by decide +kernel
theorem dX11_often_1 : decode cX11_often 1 = .ok (.iload_n 1, 1) := by decide +kernel
theorem dX11_often_2 : decode cX11_often 2 = .ok (.invokevirtual 162, 3) := by decide +kernel
theorem dX11_often_5 : decode cX11_often 5 = .ok (.iload_n 2, 1) := by decide +kernel
theorem dX11_often_6 : decode cX11_often 6 = .ok (.iconst 0, 1) := by decide +kernel
theorem dX11_often_7 : decode cX11_often 7 = .ok (.bipush 60, 2) := by decide +kernel
theorem dX11_often_9 : decode cX11_often 9 = .ok (.invokestatic 239, 3) := by decide +kernel
theorem dX11_often_12 : decode cX11_often 12 = .ok (.iconst 0, 1) := by decide +kernel
theorem dX11_often_13 : decode cX11_often 13 = .ok (.istore_n 3, 1) := by decide +kernel
theorem dX11_often_14 : decode cX11_often 14 = .ok (.iconst 1, 1) := by decide +kernel
theorem dX11_often_15 : decode cX11_often 15 = .ok (.istore 4, 2) := by decide +kernel
theorem dX11_often_17 : decode cX11_often 17 = .ok (.iload 4, 2) := by decide +kernel
theorem dX11_often_19 : decode cX11_often 19 = .ok (.iload_n 2, 1) := by decide +kernel
theorem dX11_often_20 : decode cX11_often 20 = .ok (.if_icmp .gt 22, 3) := by decide +kernel
theorem dX11_often_23 : decode cX11_often 23 = .ok (.aload_n 0, 1) := by decide +kernel
theorem dX11_often_24 : decode cX11_often 24 = .ok (.iload_n 1, 1) := by decide +kernel
theorem dX11_often_25 : decode cX11_often 25 = .ok (.iload 4, 2) := by decide +kernel
theorem dX11_often_27 : decode cX11_often 27 = .ok (.invokevirtual 290, 3) := by decide +kernel
theorem dX11_often_30 : decode cX11_often 30 = .ok (.ifCond .eq 6, 3) := by decide +kernel
theorem dX11_often_33 : decode cX11_often 33 = .ok (.iinc 3 1, 3) := by decide +kernel
theorem dX11_often_36 : decode cX11_often 36 = .ok (.iinc 4 1, 3) := by decide +kernel
theorem dX11_often_39 : decode cX11_often 39 = .ok (.goto (-22), 3) := by decide +kernel
theorem dX11_often_42 : decode cX11_often 42 = .ok (.iload_n 3, 1) := by decide +kernel
theorem dX11_often_43 : decode cX11_often 43 = .ok (.ireturn, 1) := by decide +kernel
theorem dX11_toHire_0 : decode cX11_toHire 0 = .ok (.aload_n 0, 1) := by decide +kernel
theorem dX11_toHire_1 : decode cX11_toHire 1 = .ok (.iload_n 1, 1) := by decide +kernel
theorem dX11_toHire_2 : decode cX11_toHire 2 = .ok (.invokevirtual 191, 3) := by decide +kernel
theorem dX11_toHire_5 : decode cX11_toHire 5 = .ok (.iload_n 3, 1) := by decide +kernel
theorem dX11_toHire_6 : decode cX11_toHire 6 = .ok (.iconst 1, 1) := by decide +kernel
theorem dX11_toHire_7 : decode cX11_toHire 7 = .ok (.invokestatic 236, 3) := by decide +kernel
theorem dX11_toHire_10 : decode cX11_toHire 10 = .ok (.iload_n 2, 1) := by decide +kernel
theorem dX11_toHire_11 : decode cX11_toHire 11 = .ok (.iconst 1, 1) := by decide +kernel
theorem dX11_toHire_12 : decode cX11_toHire 12 = .ok (.bipush 60, 2) := by decide +kernel
theorem dX11_toHire_14 : decode cX11_toHire 14 = .ok (.invokestatic 239, 3) := by decide +kernel
theorem dX11_toHire_17 : decode cX11_toHire 17 = .ok (.iconst (-1), 1) := by decide +kernel
theorem dX11_toHire_18 : decode cX11_toHire 18 = .ok (.istore 4, 2) := by decide +kernel
theorem dX11_toHire_20 : decode cX11_toHire 20 = .ok (.iconst (-1), 1) := by decide +kernel
theorem dX11_toHire_21 : decode cX11_toHire 21 = .ok (.istore 5, 2) := by decide +kernel
theorem dX11_toHire_23 : decode cX11_toHire 23 = .ok (.iconst 0, 1) := by decide +kernel
theorem dX11_toHire_24 : decode cX11_toHire 24 = .ok (.istore 6, 2) := by decide +kernel
theorem dX11_toHire_26 : decode cX11_toHire 26 = .ok (.iload 6, 2) := by decide +kernel
theorem dX11_toHire_28 : decode cX11_toHire 28 = .ok (.aload_n 0, 1) := by decide +kernel
theorem dX11_toHire_29 : decode cX11_toHire 29 = .ok (.getfield 57, 3) := by decide +kernel
theorem dX11_toHire_32 : decode cX11_toHire 32 = .ok (.getfield 108, 3) := by decide +kernel
theorem dX11_toHire_35 : decode cX11_toHire 35 = .ok (.if_icmp .ge 110, 3) := by decide +kernel
theorem dX11_toHire_38 : decode cX11_toHire 38 = .ok (.aload_n 0, 1) := by decide +kernel
theorem dX11_toHire_39 : decode cX11_toHire 39 = .ok (.getfield 19, 3) := by decide +kernel
theorem dX11_toHire_42 : decode cX11_toHire 42 = .ok (.getfield 105, 3) := by decide +kernel
theorem dX11_toHire_45 : decode cX11_toHire 45 = .ok (.aload_n 0, 1) := by decide +kernel
theorem dX11_toHire_46 : decode cX11_toHire 46 = .ok (.getfield 57, 3) := by decide +kernel
theorem dX11_toHire_49 : decode cX11_toHire 49 = .ok (.iload 6, 2) := by decide +kernel
theorem dX11_toHire_51 : decode cX11_toHire 51 = .ok (.invokevirtual 182, 3) := by decide +kernel
theorem dX11_toHire_54 : decode cX11_toHire 54 = .ok (.istore 7, 2) := by decide +kernel
theorem dX11_toHire_56 : decode cX11_toHire 56 = .ok (.iload 7, 2) := by decide +kernel
theorem dX11_toHire_58 : decode cX11_toHire 58 = .ok (.iconst (-1), 1) := by decide +kernel
theorem dX11_toHire_59 : decode cX11_toHire 59 = .ok (.if_icmp .eq 9, 3) := by decide +kernel
theorem dX11_toHire_62 : decode cX11_toHire 62 = .ok (.iload 7, 2) := by decide +kernel
theorem dX11_toHire_64 : decode cX11_toHire 64 = .ok (.iload_n 1, 1) := by decide +kernel
theorem dX11_toHire_65 : decode cX11_toHire 65 = .ok (.if_icmp .ne 74, 3) := by decide +kernel
theorem dX11_toHire_68 : decode cX11_toHire 68 = .ok (.aload_n 0, 1) := by decide +kernel
theorem dX11_toHire_69 : decode cX11_toHire 69 = .ok (.getfield 36, 3) := by decide +kernel
theorem dX11_toHire_72 : decode cX11_toHire 72 = .ok (.aload_n 0, 1) := by decide +kernel
theorem dX11_toHire_73 : decode cX11_toHire 73 = .ok (.getfield 57, 3) := by decide +kernel
theorem dX11_toHire_76 : decode cX11_toHire 76 = .ok (.aload_n 0, 1) := by decide +kernel
theorem dX11_toHire_77 : decode cX11_toHire 77 = .ok (.getfield 19, 3) := by decide +kernel
theorem dX11_toHire_80 : decode cX11_toHire 80 = .ok (.getfield 105, 3) := by decide +kernel
theorem dX11_toHire_83 : decode cX11_toHire 83 = .ok (.iload_n 1, 1) := by decide +kernel
theorem dX11_toHire_84 : decode cX11_toHire 84 = .ok (.invokevirtual 243, 3) := by decide +kernel
theorem dX11_toHire_87 : decode cX11_toHire 87 = .ok (.aload_n 0, 1) := by decide +kernel
theorem dX11_toHire_88 : decode cX11_toHire 88 = .ok (.getfield 36, 3) := by decide +kernel
theorem dX11_toHire_91 : decode cX11_toHire 91 = .ok (.iload 6, 2) := by decide +kernel
theorem dX11_toHire_93 : decode cX11_toHire 93 = .ok (.putfield 256, 3) := by decide +kernel
theorem dX11_toHire_96 : decode cX11_toHire 96 = .ok (.aload_n 0, 1) := by decide +kernel
theorem dX11_toHire_97 : decode cX11_toHire 97 = .ok (.getfield 36, 3) := by decide +kernel
theorem dX11_toHire_100 : decode cX11_toHire 100 = .ok (.aload_n 0, 1) := by decide +kernel
theorem dX11_toHire_101 : decode cX11_toHire 101 = .ok (.getfield 57, 3) := by decide +kernel
theorem dX11_toHire_104 : decode cX11_toHire 104 = .ok (.iload_n 2, 1) := by decide +kernel
theorem dX11_toHire_105 : decode cX11_toHire 105 = .ok (.invokevirtual 246, 3) := by decide +kernel
theorem dX11_toHire_108 : decode cX11_toHire 108 = .ok (.iload 4, 2) := by decide +kernel
theorem dX11_toHire_110 : decode cX11_toHire 110 = .ok (.iconst (-1), 1) := by decide +kernel
theorem dX11_toHire_111 : decode cX11_toHire 111 = .ok (.if_icmp .eq 15, 3) := by decide +kernel
theorem dX11_toHire_114 : decode cX11_toHire 114 = .ok (.aload_n 0, 1) := by decide +kernel
theorem dX11_toHire_115 : decode cX11_toHire 115 = .ok (.getfield 36, 3) := by decide +kernel
theorem dX11_toHire_118 : decode cX11_toHire 118 = .ok (.getfield 250, 3) := by decide +kernel
theorem dX11_toHire_121 : decode cX11_toHire 121 = .ok (.iload 5, 2) := by decide +kernel
theorem dX11_toHire_123 : decode cX11_toHire 123 = .ok (.if_icmp .ge 16, 3) := by decide +kernel
theorem dX11_toHire_126 : decode cX11_toHire 126 = .ok (.iload 6, 2) := by decide +kernel
theorem dX11_toHire_128 : decode cX11_toHire 128 = .ok (.istore 4, 2) := by decide +kernel
theorem dX11_toHire_130 : decode cX11_toHire 130 = .ok (.aload_n 0, 1) := by decide +kernel
theorem dX11_toHire_131 : decode cX11_toHire 131 = .ok (.getfield 36, 3) := by decide +kernel
theorem dX11_toHire_134 : decode cX11_toHire 134 = .ok (.getfield 250, 3) := by decide +kernel
theorem dX11_toHire_137 : decode cX11_toHire 137 = .ok (.istore 5, 2) := by decide +kernel
theorem dX11_toHire_139 : decode cX11_toHire 139 = .ok (.iinc 6 1, 3) := by decide +kernel
theorem dX11_toHire_142 : decode cX11_toHire 142 = .ok (.goto (-116), 3) := by decide +kernel
theorem dX11_toHire_145 : decode cX11_toHire 145 = .ok (.iload_n 3, 1) := by decide +kernel
theorem dX11_toHire_146 : decode cX11_toHire 146 = .ok (.ifCond .ne 8, 3) := by decide +kernel
theorem dX11_toHire_149 : decode cX11_toHire 149 = .ok (.iload 4, 2) := by decide +kernel
theorem dX11_toHire_151 : decode cX11_toHire 151 = .ok (.goto 5, 3) := by decide +kernel
theorem dX11_toHire_154 : decode cX11_toHire 154 = .ok (.iload 5, 2) := by decide +kernel
theorem dX11_toHire_156 : decode cX11_toHire 156 = .ok (.ireturn, 1) := by decide +kernel
theorem dX11_shared_0 : decode cX11_shared 0 = .ok (.iload_n 1, 1) := by decide +kernel
theorem dX11_shared_1 : decode cX11_shared 1 = .ok (.iconst 1, 1) := by decide +kernel
theorem dX11_shared_2 : decode cX11_shared 2 = .ok (.invokestatic 236, 3) := by decide +kernel
theorem dX11_shared_5 : decode cX11_shared 5 = .ok (.aload_n 0, 1) := by decide +kernel
theorem dX11_shared_6 : decode cX11_shared 6 = .ok (.getfield 43, 3) := by decide +kernel
theorem dX11_shared_9 : decode cX11_shared 9 = .ok (.aload_n 0, 1) := by decide +kernel
theorem dX11_shared_10 : decode cX11_shared 10 = .ok (.getfield 57, 3) := by decide +kernel
theorem dX11_shared_13 : decode cX11_shared 13 = .ok (.aload_n 0, 1) := by decide +kernel
theorem dX11_shared_14 : decode cX11_shared 14 = .ok (.getfield 19, 3) := by decide +kernel
theorem dX11_shared_17 : decode cX11_shared 17 = .ok (.getfield 105, 3) := by decide +kernel
theorem dX11_shared_20 : decode cX11_shared 20 = .ok (.invokevirtual 293, 3) := by decide +kernel
theorem dX11_shared_23 : decode cX11_shared 23 = .ok (.iload_n 1, 1) := by decide +kernel
theorem dX11_shared_24 : decode cX11_shared 24 = .ok (.ifCond .ne 13, 3) := by decide +kernel
theorem dX11_shared_27 : decode cX11_shared 27 = .ok (.aload_n 0, 1) := by decide +kernel
theorem dX11_shared_28 : decode cX11_shared 28 = .ok (.getfield 43, 3) := by decide +kernel
theorem dX11_shared_31 : decode cX11_shared 31 = .ok (.getfield 297, 3) := by decide +kernel
theorem dX11_shared_34 : decode cX11_shared 34 = .ok (.goto 10, 3) := by decide +kernel
theorem dX11_shared_37 : decode cX11_shared 37 = .ok (.aload_n 0, 1) := by decide +kernel
theorem dX11_shared_38 : decode cX11_shared 38 = .ok (.getfield 43, 3) := by decide +kernel
theorem dX11_shared_41 : decode cX11_shared 41 = .ok (.getfield 298, 3) := by decide +kernel
theorem dX11_shared_44 : decode cX11_shared 44 = .ok (.ireturn, 1) := by decide +kernel
theorem dX11_has_0 : decode cX11_has 0 = .ok (.aload_n 0, 1) := by decide +kernel
theorem dX11_has_1 : decode cX11_has 1 = .ok (.iload_n 1, 1) := by decide +kernel
theorem dX11_has_2 : decode cX11_has 2 = .ok (.invokevirtual 191, 3) := by decide +kernel
theorem dX11_has_5 : decode cX11_has 5 = .ok (.aload_n 0, 1) := by decide +kernel
theorem dX11_has_6 : decode cX11_has 6 = .ok (.getfield 43, 3) := by decide +kernel
theorem dX11_has_9 : decode cX11_has 9 = .ok (.aload_n 0, 1) := by decide +kernel
theorem dX11_has_10 : decode cX11_has 10 = .ok (.getfield 57, 3) := by decide +kernel
theorem dX11_has_13 : decode cX11_has 13 = .ok (.aload_n 0, 1) := by decide +kernel
theorem dX11_has_14 : decode cX11_has 14 = .ok (.getfield 19, 3) := by decide +kernel
theorem dX11_has_17 : decode cX11_has 17 = .ok (.getfield 105, 3) := by decide +kernel
theorem dX11_has_20 : decode cX11_has 20 = .ok (.invokevirtual 293, 3) := by decide +kernel
theorem dX11_has_23 : decode cX11_has 23 = .ok (.aload_n 0, 1) := by decide +kernel
theorem dX11_has_24 : decode cX11_has 24 = .ok (.getfield 43, 3) := by decide +kernel
theorem dX11_has_27 : decode cX11_has 27 = .ok (.getfield 301, 3) := by decide +kernel
theorem dX11_has_30 : decode cX11_has 30 = .ok (.iload_n 1, 1) := by decide +kernel
theorem dX11_has_31 : decode cX11_has 31 = .ok (.iaload, 1) := by decide +kernel
theorem dX11_has_32 : decode cX11_has 32 = .ok (.ireturn, 1) := by decide +kernel
theorem dX11_toGive_0 : decode cX11_toGive 0 = .ok (.aload_n 0, 1) := by decide +kernel
theorem dX11_toGive_1 : decode cX11_toGive 1 = .ok (.iload_n 1, 1) := by decide +kernel
theorem dX11_toGive_2 : decode cX11_toGive 2 = .ok (.invokevirtual 191, 3) := by decide +kernel
theorem dX11_toGive_5 : decode cX11_toGive 5 = .ok (.iload_n 2, 1) := by decide +kernel
theorem dX11_toGive_6 : decode cX11_toGive 6 = .ok (.iconst 1, 1) := by decide +kernel
theorem dX11_toGive_7 : decode cX11_toGive 7 = .ok (.bipush 60, 2) := by decide +kernel
theorem dX11_toGive_9 : decode cX11_toGive 9 = .ok (.invokestatic 239, 3) := by decide +kernel
theorem dX11_toGive_12 : decode cX11_toGive 12 = .ok (.aload_n 0, 1) := by decide +kernel
theorem dX11_toGive_13 : decode cX11_toGive 13 = .ok (.getfield 19, 3) := by decide +kernel
theorem dX11_toGive_16 : decode cX11_toGive 16 = .ok (.getfield 105, 3) := by decide +kernel
theorem dX11_toGive_19 : decode cX11_toGive 19 = .ok (.getfield 206, 3) := by decide +kernel
theorem dX11_toGive_22 : decode cX11_toGive 22 = .ok (.iload_n 1, 1) := by decide +kernel
theorem dX11_toGive_23 : decode cX11_toGive 23 = .ok (.iaload, 1) := by decide +kernel
theorem dX11_toGive_24 : decode cX11_toGive 24 = .ok (.iconst (-1), 1) := by decide +kernel
theorem dX11_toGive_25 : decode cX11_toGive 25 = .ok (.if_icmp .ne 5, 3) := by decide +kernel
theorem dX11_toGive_28 : decode cX11_toGive 28 = .ok (.iconst (-1), 1) := by decide +kernel
theorem dX11_toGive_29 : decode cX11_toGive 29 = .ok (.ireturn, 1) := by decide +kernel
theorem dX11_toGive_30 : decode cX11_toGive 30 = .ok (.aload_n 0, 1) := by decide +kernel
theorem dX11_toGive_31 : decode cX11_toGive 31 = .ok (.getfield 57, 3) := by decide +kernel
theorem dX11_toGive_34 : decode cX11_toGive 34 = .ok (.getfield 304, 3) := by decide +kernel
theorem dX11_toGive_37 : decode cX11_toGive 37 = .ok (.sipush 10001, 3) := by decide +kernel
theorem dX11_toGive_40 : decode cX11_toGive 40 = .ok (.invokevirtual 308, 3) := by decide +kernel
theorem dX11_toGive_43 : decode cX11_toGive 43 = .ok (.ifCond .ne 19, 3) := by decide +kernel
theorem dX11_toGive_46 : decode cX11_toGive 46 = .ok (.aload_n 0, 1) := by decide +kernel
theorem dX11_toGive_47 : decode cX11_toGive 47 = .ok (.getfield 57, 3) := by decide +kernel
theorem dX11_toGive_50 : decode cX11_toGive 50 = .ok (.getfield 313, 3) := by decide +kernel
theorem dX11_toGive_53 : decode cX11_toGive 53 = .ok (.sipush 10001, 3) := by decide +kernel
theorem dX11_toGive_56 : decode cX11_toGive 56 = .ok (.invokevirtual 308, 3) := by decide +kernel
theorem dX11_toGive_59 : decode cX11_toGive 59 = .ok (.ifCond .eq 10, 3) := by decide +kernel
theorem dX11_toGive_62 : decode cX11_toGive 62 = .ok (.aload_n 0, 1) := by decide +kernel
theorem dX11_toGive_63 : decode cX11_toGive 63 = .ok (.iload_n 1, 1) := by decide +kernel
theorem dX11_toGive_64 : decode cX11_toGive 64 = .ok (.iload_n 2, 1) := by decide +kernel
theorem dX11_toGive_65 : decode cX11_toGive 65 = .ok (.invokevirtual 316, 3) := by decide +kernel
theorem dX11_toGive_68 : decode cX11_toGive 68 = .ok (.ireturn, 1) := by decide +kernel
theorem dX11_toGive_69 : decode cX11_toGive 69 = .ok (.aload_n 0, 1) := by decide +kernel
theorem dX11_toGive_70 : decode cX11_toGive 70 = .ok (.iload_n 1, 1) := by decide +kernel
theorem dX11_toGive_71 : decode cX11_toGive 71 = .ok (.iload_n 2, 1) := by decide +kernel
theorem dX11_toGive_72 : decode cX11_toGive 72 = .ok (.invokevirtual 319, 3) := by decide +kernel
theorem dX11_toGive_75 : decode cX11_toGive 75 = .ok (.ireturn, 1) := by decide +kernel
theorem dX11_confessing_0 : decode cX11_confessing 0 = .ok (.aload_n 0, 1) := by decide +kernel
theorem dX11_confessing_1 : decode cX11_confessing 1 = .ok (.iload_n 1, 1) := by decide +kernel
theorem dX11_confessing_2 : decode cX11_confessing 2 = .ok (.invokevirtual 191, 3) := by decide +kernel
theorem dX11_confessing_5 : decode cX11_confessing 5 = .ok (.iload_n 2, 1) := by decide +kernel
theorem dX11_confessing_6 : decode cX11_confessing 6 = .ok (.iconst 0, 1) := by decide +kernel
theorem dX11_confessing_7 : decode cX11_confessing 7 = .ok (.bipush 60, 2) := by decide +kernel
theorem dX11_confessing_9 : decode cX11_confessing 9 = .ok (.invokestatic 239, 3) := by decide +kernel
theorem dX11_confessing_12 : decode cX11_confessing 12 = .ok (.aload_n 0, 1) := by decide +kernel
theorem dX11_confessing_13 : decode cX11_confessing 13 = .ok (.getfield 19, 3) := by decide +kernel
theorem dX11_confessing_16 : decode cX11_confessing 16 = .ok (.getfield 105, 3) := by decide +kernel
theorem dX11_confessing_19 : decode cX11_confessing 19 = .ok (.getfield 200, 3) := by decide +kernel
theorem dX11_confessing_22 : decode cX11_confessing 22 = .ok (.iload_n 1, 1) := by decide +kernel
theorem dX11_confessing_23 : decode cX11_confessing 23 = .ok (.iaload, 1) := by decide +kernel
theorem dX11_confessing_24 : decode cX11_confessing 24 = .ok (.bipush 50, 2) := by decide +kernel
theorem dX11_confessing_26 : decode cX11_confessing 26 = .ok (.if_icmp .ge 5, 3) := by decide +kernel
