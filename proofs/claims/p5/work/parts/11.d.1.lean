theorem dX4_worth_36 : decode cX4_worth 36 = .ok (.arraylength, 1) := by decide +kernel
theorem dX4_worth_37 : decode cX4_worth 37 = .ok (.if_icmp .ge 35, 3) := by decide +kernel
theorem dX4_worth_40 : decode cX4_worth 40 = .ok (.aload_n 0, 1) := by decide +kernel
theorem dX4_worth_41 : decode cX4_worth 41 = .ok (.getfield 15, 3) := by decide +kernel
theorem dX4_worth_44 : decode cX4_worth 44 = .ok (.iload_n 3, 1) := by decide +kernel
theorem dX4_worth_45 : decode cX4_worth 45 = .ok (.iload 5, 2) := by decide +kernel
theorem dX4_worth_47 : decode cX4_worth 47 = .ok (.sipush 9999, 3) := by decide +kernel
theorem dX4_worth_50 : decode cX4_worth 50 = .ok (.if_icmp .gt 8, 3) := by decide +kernel
theorem dX4_worth_53 : decode cX4_worth 53 = .ok (.iload 5, 2) := by decide +kernel
theorem dX4_worth_55 : decode cX4_worth 55 = .ok (.goto 10, 3) := by decide +kernel
theorem dX4_worth_58 : decode cX4_worth 58 = .ok (.aload_n 2, 1) := by decide +kernel
theorem dX4_worth_59 : decode cX4_worth 59 = .ok (.aload_n 1, 1) := by decide +kernel
theorem dX4_worth_60 : decode cX4_worth 60 = .ok (.iload 5, 2) := by decide +kernel
theorem dX4_worth_62 : decode cX4_worth 62 = .ok (.invokevirtual 26, 3) := by decide +kernel
theorem dX4_worth_65 : decode cX4_worth 65 = .ok (.iastore, 1) := by decide +kernel
theorem dX4_worth_66 : decode cX4_worth 66 = .ok (.iinc 3 1, 3) := by decide +kernel
theorem dX4_worth_69 : decode cX4_worth 69 = .ok (.goto 86, 3) := by decide +kernel
theorem dX4_worth_72 : decode cX4_worth 72 = .ok (.iload 5, 2) := by decide +kernel
theorem dX4_worth_74 : decode cX4_worth 74 = .ok (.sipush 10010, 3) := by decide +kernel
theorem dX4_worth_77 : decode cX4_worth 77 = .ok (.if_icmp .ne 35, 3) := by decide +kernel
theorem dX4_worth_80 : decode cX4_worth 80 = .ok (.iload_n 3, 1) := by decide +kernel
theorem dX4_worth_81 : decode cX4_worth 81 = .ok (.iconst 1, 1) := by decide +kernel
theorem dX4_worth_82 : decode cX4_worth 82 = .ok (.if_icmp .lt 30, 3) := by decide +kernel
theorem dX4_worth_85 : decode cX4_worth 85 = .ok (.aload_n 0, 1) := by decide +kernel
theorem dX4_worth_86 : decode cX4_worth 86 = .ok (.getfield 15, 3) := by decide +kernel
theorem dX4_worth_89 : decode cX4_worth 89 = .ok (.iload_n 3, 1) := by decide +kernel
theorem dX4_worth_90 : decode cX4_worth 90 = .ok (.iconst 1, 1) := by decide +kernel
theorem dX4_worth_91 : decode cX4_worth 91 = .ok (.isub, 1) := by decide +kernel
theorem dX4_worth_92 : decode cX4_worth 92 = .ok (.aload_n 0, 1) := by decide +kernel
theorem dX4_worth_93 : decode cX4_worth 93 = .ok (.getfield 15, 3) := by decide +kernel
theorem dX4_worth_96 : decode cX4_worth 96 = .ok (.iload_n 3, 1) := by decide +kernel
theorem dX4_worth_97 : decode cX4_worth 97 = .ok (.iconst 1, 1) := by decide +kernel
theorem dX4_worth_98 : decode cX4_worth 98 = .ok (.isub, 1) := by decide +kernel
theorem dX4_worth_99 : decode cX4_worth 99 = .ok (.iaload, 1) := by decide +kernel
theorem dX4_worth_100 : decode cX4_worth 100 = .ok (.ifCond .ne 7, 3) := by decide +kernel
theorem dX4_worth_103 : decode cX4_worth 103 = .ok (.iconst 1, 1) := by decide +kernel
theorem dX4_worth_104 : decode cX4_worth 104 = .ok (.goto 4, 3) := by decide +kernel
theorem dX4_worth_107 : decode cX4_worth 107 = .ok (.iconst 0, 1) := by decide +kernel
theorem dX4_worth_108 : decode cX4_worth 108 = .ok (.iastore, 1) := by decide +kernel
theorem dX4_worth_109 : decode cX4_worth 109 = .ok (.goto 46, 3) := by decide +kernel
theorem dX4_worth_112 : decode cX4_worth 112 = .ok (.iload 5, 2) := by decide +kernel
theorem dX4_worth_114 : decode cX4_worth 114 = .ok (.sipush 10010, 3) := by decide +kernel
theorem dX4_worth_117 : decode cX4_worth 117 = .ok (.if_icmp .le 38, 3) := by decide +kernel
theorem dX4_worth_120 : decode cX4_worth 120 = .ok (.iload_n 3, 1) := by decide +kernel
theorem dX4_worth_121 : decode cX4_worth 121 = .ok (.iconst 2, 1) := by decide +kernel
theorem dX4_worth_122 : decode cX4_worth 122 = .ok (.if_icmp .lt 33, 3) := by decide +kernel
theorem dX4_worth_125 : decode cX4_worth 125 = .ok (.iinc 3 (-1), 3) := by decide +kernel
theorem dX4_worth_128 : decode cX4_worth 128 = .ok (.aload_n 0, 1) := by decide +kernel
theorem dX4_worth_129 : decode cX4_worth 129 = .ok (.getfield 15, 3) := by decide +kernel
theorem dX4_worth_132 : decode cX4_worth 132 = .ok (.iload_n 3, 1) := by decide +kernel
theorem dX4_worth_133 : decode cX4_worth 133 = .ok (.iconst 1, 1) := by decide +kernel
theorem dX4_worth_134 : decode cX4_worth 134 = .ok (.isub, 1) := by decide +kernel
theorem dX4_worth_135 : decode cX4_worth 135 = .ok (.iload 5, 2) := by decide +kernel
theorem dX4_worth_137 : decode cX4_worth 137 = .ok (.aload_n 0, 1) := by decide +kernel
theorem dX4_worth_138 : decode cX4_worth 138 = .ok (.getfield 15, 3) := by decide +kernel
theorem dX4_worth_141 : decode cX4_worth 141 = .ok (.iload_n 3, 1) := by decide +kernel
theorem dX4_worth_142 : decode cX4_worth 142 = .ok (.iconst 1, 1) := by decide +kernel
theorem dX4_worth_143 : decode cX4_worth 143 = .ok (.isub, 1) := by decide +kernel
theorem dX4_worth_144 : decode cX4_worth 144 = .ok (.iaload, 1) := by decide +kernel
theorem dX4_worth_145 : decode cX4_worth 145 = .ok (.aload_n 0, 1) := by decide +kernel
theorem dX4_worth_146 : decode cX4_worth 146 = .ok (.getfield 15, 3) := by decide +kernel
theorem dX4_worth_149 : decode cX4_worth 149 = .ok (.iload_n 3, 1) := by decide +kernel
theorem dX4_worth_150 : decode cX4_worth 150 = .ok (.iaload, 1) := by decide +kernel
theorem dX4_worth_151 : decode cX4_worth 151 = .ok (.invokestatic 32, 3) := by decide +kernel
theorem dX4_worth_154 : decode cX4_worth 154 = .ok (.iastore, 1) := by decide +kernel
theorem dX4_worth_155 : decode cX4_worth 155 = .ok (.iinc 4 1, 3) := by decide +kernel
theorem dX4_worth_158 : decode cX4_worth 158 = .ok (.goto (-153), 3) := by decide +kernel
theorem dX4_worth_161 : decode cX4_worth 161 = .ok (.iload_n 3, 1) := by decide +kernel
theorem dX4_worth_162 : decode cX4_worth 162 = .ok (.ifCond .ne 7, 3) := by decide +kernel
theorem dX4_worth_165 : decode cX4_worth 165 = .ok (.iconst 0, 1) := by decide +kernel
theorem dX4_worth_166 : decode cX4_worth 166 = .ok (.goto 9, 3) := by decide +kernel
theorem dX4_worth_169 : decode cX4_worth 169 = .ok (.aload_n 0, 1) := by decide +kernel
theorem dX4_worth_170 : decode cX4_worth 170 = .ok (.getfield 15, 3) := by decide +kernel
theorem dX4_worth_173 : decode cX4_worth 173 = .ok (.iconst 0, 1) := by decide +kernel
theorem dX4_worth_174 : decode cX4_worth 174 = .ok (.iaload, 1) := by decide +kernel
theorem dX4_worth_175 : decode cX4_worth 175 = .ok (.ireturn, 1) := by decide +kernel
theorem dX4_join_0 : decode cX4_join 0 = .ok (.iload_n 0, 1) := by decide +kernel
theorem dX4_join_1 : decode cX4_join 1 = .ok (.tableswitch 105 10011 10017 #[43, 57, 71, 82, 93, 97, 101], 43) := by decide +kernel
theorem dX4_join_44 : decode cX4_join 44 = .ok (.iload_n 1, 1) := by decide +kernel
theorem dX4_join_45 : decode cX4_join 45 = .ok (.ifCond .ne 7, 3) := by decide +kernel
theorem dX4_join_48 : decode cX4_join 48 = .ok (.iload_n 2, 1) := by decide +kernel
theorem dX4_join_49 : decode cX4_join 49 = .ok (.ifCond .eq 7, 3) := by decide +kernel
theorem dX4_join_52 : decode cX4_join 52 = .ok (.iconst 1, 1) := by decide +kernel
theorem dX4_join_53 : decode cX4_join 53 = .ok (.goto 4, 3) := by decide +kernel
theorem dX4_join_56 : decode cX4_join 56 = .ok (.iconst 0, 1) := by decide +kernel
theorem dX4_join_57 : decode cX4_join 57 = .ok (.ireturn, 1) := by decide +kernel
theorem dX4_join_58 : decode cX4_join 58 = .ok (.iload_n 1, 1) := by decide +kernel
theorem dX4_join_59 : decode cX4_join 59 = .ok (.ifCond .eq 11, 3) := by decide +kernel
theorem dX4_join_62 : decode cX4_join 62 = .ok (.iload_n 2, 1) := by decide +kernel
theorem dX4_join_63 : decode cX4_join 63 = .ok (.ifCond .eq 7, 3) := by decide +kernel
theorem dX4_join_66 : decode cX4_join 66 = .ok (.iconst 1, 1) := by decide +kernel
theorem dX4_join_67 : decode cX4_join 67 = .ok (.goto 4, 3) := by decide +kernel
theorem dX4_join_70 : decode cX4_join 70 = .ok (.iconst 0, 1) := by decide +kernel
theorem dX4_join_71 : decode cX4_join 71 = .ok (.ireturn, 1) := by decide +kernel
theorem dX4_join_72 : decode cX4_join 72 = .ok (.iload_n 1, 1) := by decide +kernel
theorem dX4_join_73 : decode cX4_join 73 = .ok (.iload_n 2, 1) := by decide +kernel
theorem dX4_join_74 : decode cX4_join 74 = .ok (.if_icmp .ge 7, 3) := by decide +kernel
theorem dX4_join_77 : decode cX4_join 77 = .ok (.iconst 1, 1) := by decide +kernel
theorem dX4_join_78 : decode cX4_join 78 = .ok (.goto 4, 3) := by decide +kernel
theorem dX4_join_81 : decode cX4_join 81 = .ok (.iconst 0, 1) := by decide +kernel
theorem dX4_join_82 : decode cX4_join 82 = .ok (.ireturn, 1) := by decide +kernel
theorem dX4_join_83 : decode cX4_join 83 = .ok (.iload_n 1, 1) := by decide +kernel
theorem dX4_join_84 : decode cX4_join 84 = .ok (.iload_n 2, 1) := by decide +kernel
theorem dX4_join_85 : decode cX4_join 85 = .ok (.if_icmp .ne 7, 3) := by decide +kernel
theorem dX4_join_88 : decode cX4_join 88 = .ok (.iconst 1, 1) := by decide +kernel
theorem dX4_join_89 : decode cX4_join 89 = .ok (.goto 4, 3) := by decide +kernel
theorem dX4_join_92 : decode cX4_join 92 = .ok (.iconst 0, 1) := by decide +kernel
theorem dX4_join_93 : decode cX4_join 93 = .ok (.ireturn, 1) := by decide +kernel
theorem dX4_join_94 : decode cX4_join 94 = .ok (.iload_n 1, 1) := by decide +kernel
theorem dX4_join_95 : decode cX4_join 95 = .ok (.iload_n 2, 1) := by decide +kernel
theorem dX4_join_96 : decode cX4_join 96 = .ok (.iadd, 1) := by decide +kernel
theorem dX4_join_97 : decode cX4_join 97 = .ok (.ireturn, 1) := by decide +kernel
theorem dX4_join_98 : decode cX4_join 98 = .ok (.iload_n 1, 1) := by decide +kernel
theorem dX4_join_99 : decode cX4_join 99 = .ok (.iload_n 2, 1) := by decide +kernel
theorem dX4_join_100 : decode cX4_join 100 = .ok (.isub, 1) := by decide +kernel
theorem dX4_join_101 : decode cX4_join 101 = .ok (.ireturn, 1) := by decide +kernel
theorem dX4_join_102 : decode cX4_join 102 = .ok (.iload_n 1, 1) := by decide +kernel
theorem dX4_join_103 : decode cX4_join 103 = .ok (.iload_n 2, 1) := by decide +kernel
theorem dX4_join_104 : decode cX4_join 104 = .ok (.imul, 1) := by decide +kernel
theorem dX4_join_105 : decode cX4_join 105 = .ok (.ireturn, 1) := by decide +kernel
theorem dX4_join_106 : decode cX4_join 106 = .ok (.iload_n 2, 1) := by decide +kernel
theorem dX4_join_107 : decode cX4_join 107 = .ok (.ifCond .ne 7, 3) := by decide +kernel
theorem dX4_join_110 : decode cX4_join 110 = .ok (.iconst 0, 1) := by decide +kernel
theorem dX4_join_111 : decode cX4_join 111 = .ok (.goto 6, 3) := by decide +kernel
theorem dX4_join_114 : decode cX4_join 114 = .ok (.iload_n 1, 1) := by decide +kernel
theorem dX4_join_115 : decode cX4_join 115 = .ok (.iload_n 2, 1) := by decide +kernel
theorem dX4_join_116 : decode cX4_join 116 = .ok (.idiv, 1) := by decide +kernel
theorem dX4_join_117 : decode cX4_join 117 = .ok (.ireturn, 1) := by decide +kernel
theorem dX5_init_0 : decode cX5_init 0 = .ok (.aload_n 0, 1) := by decide +kernel
theorem dX5_init_1 : decode cX5_init 1 = .ok (.invokespecial 3, 3) := by decide +kernel
theorem dX5_init_4 : decode cX5_init 4 = .ok (.aload_n 0, 1) := by decide +kernel
theorem dX5_init_5 : decode cX5_init 5 = .ok (.bipush 8, 2) := by decide +kernel
theorem dX5_init_7 : decode cX5_init 7 = .ok (.newarray .int, 2) := by decide +kernel
theorem dX5_init_9 : decode cX5_init 9 = .ok (.putfield 9, 3) := by decide +kernel
theorem dX5_init_12 : decode cX5_init 12 = .ok (.aload_n 0, 1) := by decide +kernel
theorem dX5_init_13 : decode cX5_init 13 = .ok (.bipush 8, 2) := by decide +kernel
theorem dX5_init_15 : decode cX5_init 15 = .ok (.newarray .int, 2) := by decide +kernel
theorem dX5_init_17 : decode cX5_init 17 = .ok (.putfield 15, 3) := by decide +kernel
theorem dX5_init_20 : decode cX5_init 20 = .ok (.aload_n 0, 1) := by decide +kernel
theorem dX5_init_21 : decode cX5_init 21 = .ok (.bipush 8, 2) := by decide +kernel
theorem dX5_init_23 : decode cX5_init 23 = .ok (.newarray .int, 2) := by decide +kernel
theorem dX5_init_25 : decode cX5_init 25 = .ok (.putfield 18, 3) := by decide +kernel
theorem dX5_init_28 : decode cX5_init 28 = .ok (.aload_n 0, 1) := by decide +kernel
theorem dX5_init_29 : decode cX5_init 29 = .ok (.iconst 0, 1) := by decide +kernel
theorem dX5_init_30 : decode cX5_init 30 = .ok (.putfield 21, 3) := by decide +kernel
theorem dX5_init_33 : decode cX5_init 33 = .ok (.return_, 1) := by decide +kernel
theorem dX5_add_0 : decode cX5_add 0 = .ok (.aload_n 0, 1) := by decide +kernel
theorem dX5_add_1 : decode cX5_add 1 = .ok (.getfield 21, 3) := by decide +kernel
theorem dX5_add_4 : decode cX5_add 4 = .ok (.bipush 8, 2) := by decide +kernel
theorem dX5_add_6 : decode cX5_add 6 = .ok (.if_icmp .ge 43, 3) := by decide +kernel
theorem dX5_add_9 : decode cX5_add 9 = .ok (.aload_n 0, 1) := by decide +kernel
theorem dX5_add_10 : decode cX5_add 10 = .ok (.getfield 9, 3) := by decide +kernel
theorem dX5_add_13 : decode cX5_add 13 = .ok (.aload_n 0, 1) := by decide +kernel
theorem dX5_add_14 : decode cX5_add 14 = .ok (.getfield 21, 3) := by decide +kernel
theorem dX5_add_17 : decode cX5_add 17 = .ok (.iload_n 1, 1) := by decide +kernel
theorem dX5_add_18 : decode cX5_add 18 = .ok (.iastore, 1) := by decide +kernel
theorem dX5_add_19 : decode cX5_add 19 = .ok (.aload_n 0, 1) := by decide +kernel
theorem dX5_add_20 : decode cX5_add 20 = .ok (.getfield 15, 3) := by decide +kernel
theorem dX5_add_23 : decode cX5_add 23 = .ok (.aload_n 0, 1) := by decide +kernel
theorem dX5_add_24 : decode cX5_add 24 = .ok (.getfield 21, 3) := by decide +kernel
theorem dX5_add_27 : decode cX5_add 27 = .ok (.iload_n 2, 1) := by decide +kernel
theorem dX5_add_28 : decode cX5_add 28 = .ok (.iastore, 1) := by decide +kernel
theorem dX5_add_29 : decode cX5_add 29 = .ok (.aload_n 0, 1) := by decide +kernel
theorem dX5_add_30 : decode cX5_add 30 = .ok (.getfield 18, 3) := by decide +kernel
theorem dX5_add_33 : decode cX5_add 33 = .ok (.aload_n 0, 1) := by decide +kernel
theorem dX5_add_34 : decode cX5_add 34 = .ok (.getfield 21, 3) := by decide +kernel
theorem dX5_add_37 : decode cX5_add 37 = .ok (.iload_n 3, 1) := by decide +kernel
theorem dX5_add_38 : decode cX5_add 38 = .ok (.iastore, 1) := by decide +kernel
theorem dX5_add_39 : decode cX5_add 39 = .ok (.aload_n 0, 1) := by decide +kernel
theorem dX5_add_40 : decode cX5_add 40 = .ok (.dup, 1) := by decide +kernel
theorem dX5_add_41 : decode cX5_add 41 = .ok (.getfield 21, 3) := by decide +kernel
theorem dX5_add_44 : decode cX5_add 44 = .ok (.iconst 1, 1) := by decide +kernel
theorem dX5_add_45 : decode cX5_add 45 = .ok (.iadd, 1) := by decide +kernel
theorem dX5_add_46 : decode cX5_add 46 = .ok (.putfield 21, 3) := by decide +kernel
theorem dX5_add_49 : decode cX5_add 49 = .ok (.return_, 1) := by decide +kernel
theorem dX5_suits_0 : decode cX5_suits 0 = .ok (.iconst 0, 1) := by decide +kernel
theorem dX5_suits_1 : decode cX5_suits 1 = .ok (.istore_n 3, 1) := by decide +kernel
theorem dX5_suits_2 : decode cX5_suits 2 = .ok (.iload_n 3, 1) := by decide +kernel
theorem dX5_suits_3 : decode cX5_suits 3 = .ok (.aload_n 0, 1) := by decide +kernel
theorem dX5_suits_4 : decode cX5_suits 4 = .ok (.getfield 21, 3) := by decide +kernel
theorem dX5_suits_7 : decode cX5_suits 7 = .ok (.if_icmp .ge 70, 3) := by decide +kernel
theorem dX5_suits_10 : decode cX5_suits 10 = .ok (.aload_n 0, 1) := by decide +kernel
theorem dX5_suits_11 : decode cX5_suits 11 = .ok (.getfield 15, 3) := by decide +kernel
theorem dX5_suits_14 : decode cX5_suits 14 = .ok (.iload_n 3, 1) := by decide +kernel
theorem dX5_suits_15 : decode cX5_suits 15 = .ok (.iaload, 1) := by decide +kernel
theorem dX5_suits_16 : decode cX5_suits 16 = .ok (.ifCond .lt 18, 3) := by decide +kernel
theorem dX5_suits_19 : decode cX5_suits 19 = .ok (.aload_n 0, 1) := by decide +kernel
theorem dX5_suits_20 : decode cX5_suits 20 = .ok (.getfield 15, 3) := by decide +kernel
theorem dX5_suits_23 : decode cX5_suits 23 = .ok (.iload_n 3, 1) := by decide +kernel
theorem dX5_suits_24 : decode cX5_suits 24 = .ok (.iaload, 1) := by decide +kernel
theorem dX5_suits_25 : decode cX5_suits 25 = .ok (.aload_n 2, 1) := by decide +kernel
theorem dX5_suits_26 : decode cX5_suits 26 = .ok (.arraylength, 1) := by decide +kernel
theorem dX5_suits_27 : decode cX5_suits 27 = .ok (.if_icmp .ge 7, 3) := by decide +kernel
theorem dX5_suits_30 : decode cX5_suits 30 = .ok (.iconst 1, 1) := by decide +kernel
theorem dX5_suits_31 : decode cX5_suits 31 = .ok (.goto 4, 3) := by decide +kernel
theorem dX5_suits_34 : decode cX5_suits 34 = .ok (.iconst 0, 1) := by decide +kernel
theorem dX5_suits_35 : decode cX5_suits 35 = .ok (.istore 4, 2) := by decide +kernel
theorem dX5_suits_37 : decode cX5_suits 37 = .ok (.aload_n 0, 1) := by decide +kernel
theorem dX5_suits_38 : decode cX5_suits 38 = .ok (.getfield 9, 3) := by decide +kernel
theorem dX5_suits_41 : decode cX5_suits 41 = .ok (.iload_n 3, 1) := by decide +kernel
theorem dX5_suits_42 : decode cX5_suits 42 = .ok (.iaload, 1) := by decide +kernel
theorem dX5_suits_43 : decode cX5_suits 43 = .ok (.iload_n 1, 1) := by decide +kernel
theorem dX5_suits_44 : decode cX5_suits 44 = .ok (.if_icmp .ne 27, 3) := by decide +kernel
theorem dX5_suits_47 : decode cX5_suits 47 = .ok (.iload 4, 2) := by decide +kernel
theorem dX5_suits_49 : decode cX5_suits 49 = .ok (.ifCond .eq 22, 3) := by decide +kernel
theorem dX5_suits_52 : decode cX5_suits 52 = .ok (.aload_n 2, 1) := by decide +kernel
theorem dX5_suits_53 : decode cX5_suits 53 = .ok (.aload_n 0, 1) := by decide +kernel
theorem dX5_suits_54 : decode cX5_suits 54 = .ok (.getfield 15, 3) := by decide +kernel
theorem dX5_suits_57 : decode cX5_suits 57 = .ok (.iload_n 3, 1) := by decide +kernel
theorem dX5_suits_58 : decode cX5_suits 58 = .ok (.iaload, 1) := by decide +kernel
theorem dX5_suits_59 : decode cX5_suits 59 = .ok (.iaload, 1) := by decide +kernel
theorem dX5_suits_60 : decode cX5_suits 60 = .ok (.aload_n 0, 1) := by decide +kernel
theorem dX5_suits_61 : decode cX5_suits 61 = .ok (.getfield 18, 3) := by decide +kernel
theorem dX5_suits_64 : decode cX5_suits 64 = .ok (.iload_n 3, 1) := by decide +kernel
theorem dX5_suits_65 : decode cX5_suits 65 = .ok (.iaload, 1) := by decide +kernel
theorem dX5_suits_66 : decode cX5_suits 66 = .ok (.if_icmp .eq 5, 3) := by decide +kernel
theorem dX5_suits_69 : decode cX5_suits 69 = .ok (.iconst 0, 1) := by decide +kernel
theorem dX5_suits_70 : decode cX5_suits 70 = .ok (.ireturn, 1) := by decide +kernel
theorem dX5_suits_71 : decode cX5_suits 71 = .ok (.iinc 3 1, 3) := by decide +kernel
theorem dX5_suits_74 : decode cX5_suits 74 = .ok (.goto (-72), 3) := by decide +kernel
theorem dX5_suits_77 : decode cX5_suits 77 = .ok (.iconst 1, 1) := by decide +kernel
theorem dX5_suits_78 : decode cX5_suits 78 = .ok (.ireturn, 1) := by decide +kernel
theorem dX5_copy_0 : decode cX5_copy 0 = .ok (.aload_n 0, 1) := by decide +kernel
theorem dX5_copy_1 : decode cX5_copy 1 = .ok (.aload_n 1, 1) := by decide +kernel
theorem dX5_copy_2 : decode cX5_copy 2 = .ok (.getfield 21, 3) := by decide +kernel
theorem dX5_copy_5 : decode cX5_copy 5 = .ok (.putfield 21, 3) := by decide +kernel
theorem dX5_copy_8 : decode cX5_copy 8 = .ok (.iconst 0, 1) := by decide +kernel
theorem dX5_copy_9 : decode cX5_copy 9 = .ok (.istore_n 2, 1) := by decide +kernel
theorem dX5_copy_10 : decode cX5_copy 10 = .ok (.iload_n 2, 1) := by decide +kernel
theorem dX5_copy_11 : decode cX5_copy 11 = .ok (.bipush 8, 2) := by decide +kernel
theorem dX5_copy_13 : decode cX5_copy 13 = .ok (.if_icmp .ge 45, 3) := by decide +kernel
theorem dX5_copy_16 : decode cX5_copy 16 = .ok (.aload_n 0, 1) := by decide +kernel
theorem dX5_copy_17 : decode cX5_copy 17 = .ok (.getfield 9, 3) := by decide +kernel
theorem dX5_copy_20 : decode cX5_copy 20 = .ok (.iload_n 2, 1) := by decide +kernel
theorem dX5_copy_21 : decode cX5_copy 21 = .ok (.aload_n 1, 1) := by decide +kernel
theorem dX5_copy_22 : decode cX5_copy 22 = .ok (.getfield 9, 3) := by decide +kernel
theorem dX5_copy_25 : decode cX5_copy 25 = .ok (.iload_n 2, 1) := by decide +kernel
theorem dX5_copy_26 : decode cX5_copy 26 = .ok (.iaload, 1) := by decide +kernel
theorem dX5_copy_27 : decode cX5_copy 27 = .ok (.iastore, 1) := by decide +kernel
theorem dX5_copy_28 : decode cX5_copy 28 = .ok (.aload_n 0, 1) := by decide +kernel
theorem dX5_copy_29 : decode cX5_copy 29 = .ok (.getfield 15, 3) := by decide +kernel
theorem dX5_copy_32 : decode cX5_copy 32 = .ok (.iload_n 2, 1) := by decide +kernel
theorem dX5_copy_33 : decode cX5_copy 33 = .ok (.aload_n 1, 1) := by decide +kernel
theorem dX5_copy_34 : decode cX5_copy 34 = .ok (.getfield 15, 3) := by decide +kernel
theorem dX5_copy_37 : decode cX5_copy 37 = .ok (.iload_n 2, 1) := by decide +kernel
theorem dX5_copy_38 : decode cX5_copy 38 = .ok (.iaload, 1) := by decide +kernel
theorem dX5_copy_39 : decode cX5_copy 39 = .ok (.iastore, 1) := by decide +kernel
theorem dX5_copy_40 : decode cX5_copy 40 = .ok (.aload_n 0, 1) := by decide +kernel
theorem dX5_copy_41 : decode cX5_copy 41 = .ok (.getfield 18, 3) := by decide +kernel
theorem dX5_copy_44 : decode cX5_copy 44 = .ok (.iload_n 2, 1) := by decide +kernel
theorem dX5_copy_45 : decode cX5_copy 45 = .ok (.aload_n 1, 1) := by decide +kernel
theorem dX5_copy_46 : decode cX5_copy 46 = .ok (.getfield 18, 3) := by decide +kernel
theorem dX5_copy_49 : decode cX5_copy 49 = .ok (.iload_n 2, 1) := by decide +kernel
theorem dX5_copy_50 : decode cX5_copy 50 = .ok (.iaload, 1) := by decide +kernel
theorem dX5_copy_51 : decode cX5_copy 51 = .ok (.iastore, 1) := by decide +kernel
theorem dX5_copy_52 : decode cX5_copy 52 = .ok (.iinc 2 1, 3) := by decide +kernel
theorem dX5_copy_55 : decode cX5_copy 55 = .ok (.goto (-45), 3) := by decide +kernel
theorem dX5_copy_58 : decode cX5_copy 58 = .ok (.return_, 1) := by decide +kernel
theorem dX6_init_0 : decode cX6_init 0 = .ok (.aload_n 0, 1) := by decide +kernel
theorem dX6_init_1 : decode cX6_init 1 = .ok (.invokespecial 3, 3) := by decide +kernel
theorem dX6_init_4 : decode cX6_init 4 = .ok (.aload_n 0, 1) := by decide +kernel
theorem dX6_init_5 : decode cX6_init 5 = .ok (.bipush 7, 2) := by decide +kernel
theorem dX6_init_7 : decode cX6_init 7 = .ok (.sipush 256, 3) := by decide +kernel
theorem dX6_init_10 : decode cX6_init 10 = .ok (.multianewarray 11 2, 4) := by decide +kernel
theorem dX6_init_14 : decode cX6_init 14 = .ok (.putfield 13, 3) := by decide +kernel
theorem dX6_init_17 : decode cX6_init 17 = .ok (.aload_n 0, 1) := by decide +kernel
theorem dX6_init_18 : decode cX6_init 18 = .ok (.bipush 6, 2) := by decide +kernel
theorem dX6_init_20 : decode cX6_init 20 = .ok (.newarray .int, 2) := by decide +kernel
theorem dX6_init_22 : decode cX6_init 22 = .ok (.putfield 16, 3) := by decide +kernel
theorem dX6_init_25 : decode cX6_init 25 = .ok (.aload_n 0, 1) := by decide +kernel
theorem dX6_init_26 : decode cX6_init 26 = .ok (.iconst 0, 1) := by decide +kernel
theorem dX6_init_27 : decode cX6_init 27 = .ok (.putfield 20, 3) := by decide +kernel
theorem dX6_init_30 : decode cX6_init 30 = .ok (.aload_n 0, 1) := by decide +kernel
theorem dX6_init_31 : decode cX6_init 31 = .ok (.iconst 0, 1) := by decide +kernel
theorem dX6_init_32 : decode cX6_init 32 = .ok (.putfield 24, 3) := by decide +kernel
theorem dX6_init_35 : decode cX6_init 35 = .ok (.return_, 1) := by decide +kernel
theorem dX6_share_0 : decode cX6_share 0 = .ok (.aload_n 1, 1) := by decide +kernel
theorem dX6_share_1 : decode cX6_share 1 = .ok (.getfield 27, 3) := by decide +kernel
theorem dX6_share_4 : decode cX6_share 4 = .ok (.iconst 1, 1) := by decide +kernel
theorem dX6_share_5 : decode cX6_share 5 = .ok (.isub, 1) := by decide +kernel
theorem dX6_share_6 : decode cX6_share 6 = .ok (.istore_n 3, 1) := by decide +kernel
theorem dX6_share_7 : decode cX6_share 7 = .ok (.iload_n 3, 1) := by decide +kernel
theorem dX6_share_8 : decode cX6_share 8 = .ok (.ifCond .lt 56, 3) := by decide +kernel
theorem dX6_share_11 : decode cX6_share 11 = .ok (.iconst 0, 1) := by decide +kernel
theorem dX6_share_12 : decode cX6_share 12 = .ok (.istore 4, 2) := by decide +kernel
theorem dX6_share_14 : decode cX6_share 14 = .ok (.iload 4, 2) := by decide +kernel
theorem dX6_share_16 : decode cX6_share 16 = .ok (.iconst 1, 1) := by decide +kernel
theorem dX6_share_17 : decode cX6_share 17 = .ok (.aload_n 1, 1) := by decide +kernel
theorem dX6_share_18 : decode cX6_share 18 = .ok (.getfield 32, 3) := by decide +kernel
theorem dX6_share_21 : decode cX6_share 21 = .ok (.ishl, 1) := by decide +kernel
theorem dX6_share_22 : decode cX6_share 22 = .ok (.if_icmp .ge 36, 3) := by decide +kernel
theorem dX6_share_25 : decode cX6_share 25 = .ok (.iload 4, 2) := by decide +kernel
theorem dX6_share_27 : decode cX6_share 27 = .ok (.invokestatic 35, 3) := by decide +kernel
theorem dX6_share_30 : decode cX6_share 30 = .ok (.iload_n 3, 1) := by decide +kernel
theorem dX6_share_31 : decode cX6_share 31 = .ok (.if_icmp .gt 21, 3) := by decide +kernel
theorem dX6_share_34 : decode cX6_share 34 = .ok (.aload_n 0, 1) := by decide +kernel
theorem dX6_share_35 : decode cX6_share 35 = .ok (.getfield 13, 3) := by decide +kernel
theorem dX6_share_38 : decode cX6_share 38 = .ok (.iload_n 3, 1) := by decide +kernel
theorem dX6_share_39 : decode cX6_share 39 = .ok (.aaload, 1) := by decide +kernel
theorem dX6_share_40 : decode cX6_share 40 = .ok (.iload 4, 2) := by decide +kernel
theorem dX6_share_42 : decode cX6_share 42 = .ok (.aload_n 0, 1) := by decide +kernel
theorem dX6_share_43 : decode cX6_share 43 = .ok (.aload_n 1, 1) := by decide +kernel
theorem dX6_share_44 : decode cX6_share 44 = .ok (.aload_n 2, 1) := by decide +kernel
theorem dX6_share_45 : decode cX6_share 45 = .ok (.iload_n 3, 1) := by decide +kernel
theorem dX6_share_46 : decode cX6_share 46 = .ok (.iload 4, 2) := by decide +kernel
theorem dX6_share_48 : decode cX6_share 48 = .ok (.invokevirtual 41, 3) := by decide +kernel
theorem dX6_share_51 : decode cX6_share 51 = .ok (.iastore, 1) := by decide +kernel
theorem dX6_share_52 : decode cX6_share 52 = .ok (.iinc 4 1, 3) := by decide +kernel
theorem dX6_share_55 : decode cX6_share 55 = .ok (.goto (-41), 3) := by decide +kernel
theorem dX6_share_58 : decode cX6_share 58 = .ok (.iinc 3 (-1), 3) := by decide +kernel
theorem dX6_share_61 : decode cX6_share 61 = .ok (.goto (-54), 3) := by decide +kernel
theorem dX6_share_64 : decode cX6_share 64 = .ok (.aload_n 0, 1) := by decide +kernel
theorem dX6_share_65 : decode cX6_share 65 = .ok (.iconst 0, 1) := by decide +kernel
theorem dX6_share_66 : decode cX6_share 66 = .ok (.putfield 20, 3) := by decide +kernel
theorem dX6_share_69 : decode cX6_share 69 = .ok (.aload_n 0, 1) := by decide +kernel
theorem dX6_share_70 : decode cX6_share 70 = .ok (.iconst 0, 1) := by decide +kernel
theorem dX6_share_71 : decode cX6_share 71 = .ok (.putfield 24, 3) := by decide +kernel
theorem dX6_share_74 : decode cX6_share 74 = .ok (.iconst 0, 1) := by decide +kernel
theorem dX6_share_75 : decode cX6_share 75 = .ok (.istore_n 3, 1) := by decide +kernel
theorem dX6_share_76 : decode cX6_share 76 = .ok (.iconst 0, 1) := by decide +kernel
theorem dX6_share_77 : decode cX6_share 77 = .ok (.istore 4, 2) := by decide +kernel
theorem dX6_share_79 : decode cX6_share 79 = .ok (.iload 4, 2) := by decide +kernel
theorem dX6_share_81 : decode cX6_share 81 = .ok (.aload_n 1, 1) := by decide +kernel
theorem dX6_share_82 : decode cX6_share 82 = .ok (.getfield 27, 3) := by decide +kernel
theorem dX6_share_85 : decode cX6_share 85 = .ok (.if_icmp .ge 71, 3) := by decide +kernel
theorem dX6_share_88 : decode cX6_share 88 = .ok (.aload_n 0, 1) := by decide +kernel
theorem dX6_share_89 : decode cX6_share 89 = .ok (.aload_n 1, 1) := by decide +kernel
theorem dX6_share_90 : decode cX6_share 90 = .ok (.aload_n 2, 1) := by decide +kernel
theorem dX6_share_91 : decode cX6_share 91 = .ok (.iload 4, 2) := by decide +kernel
theorem dX6_share_93 : decode cX6_share 93 = .ok (.iload_n 3, 1) := by decide +kernel
theorem dX6_share_94 : decode cX6_share 94 = .ok (.invokevirtual 45, 3) := by decide +kernel
theorem dX6_share_97 : decode cX6_share 97 = .ok (.istore 5, 2) := by decide +kernel
theorem dX6_share_99 : decode cX6_share 99 = .ok (.aload_n 0, 1) := by decide +kernel
theorem dX6_share_100 : decode cX6_share 100 = .ok (.getfield 16, 3) := by decide +kernel
theorem dX6_share_103 : decode cX6_share 103 = .ok (.iload 4, 2) := by decide +kernel
theorem dX6_share_105 : decode cX6_share 105 = .ok (.iload 5, 2) := by decide +kernel
theorem dX6_share_107 : decode cX6_share 107 = .ok (.iastore, 1) := by decide +kernel
theorem dX6_share_108 : decode cX6_share 108 = .ok (.aload_n 1, 1) := by decide +kernel
theorem dX6_share_109 : decode cX6_share 109 = .ok (.iload 5, 2) := by decide +kernel
theorem dX6_share_111 : decode cX6_share 111 = .ok (.invokevirtual 48, 3) := by decide +kernel
theorem dX6_share_114 : decode cX6_share 114 = .ok (.ifCond .eq 36, 3) := by decide +kernel
theorem dX6_share_117 : decode cX6_share 117 = .ok (.iload_n 3, 1) := by decide +kernel
theorem dX6_share_118 : decode cX6_share 118 = .ok (.iconst 1, 1) := by decide +kernel
theorem dX6_share_119 : decode cX6_share 119 = .ok (.iload 5, 2) := by decide +kernel
theorem dX6_share_121 : decode cX6_share 121 = .ok (.ishl, 1) := by decide +kernel
theorem dX6_share_122 : decode cX6_share 122 = .ok (.ior, 1) := by decide +kernel
theorem dX6_share_123 : decode cX6_share 123 = .ok (.istore_n 3, 1) := by decide +kernel
theorem dX6_share_124 : decode cX6_share 124 = .ok (.aload_n 0, 1) := by decide +kernel
theorem dX6_share_125 : decode cX6_share 125 = .ok (.dup, 1) := by decide +kernel
theorem dX6_share_126 : decode cX6_share 126 = .ok (.getfield 20, 3) := by decide +kernel
theorem dX6_share_129 : decode cX6_share 129 = .ok (.iconst 1, 1) := by decide +kernel
theorem dX6_share_130 : decode cX6_share 130 = .ok (.iadd, 1) := by decide +kernel
theorem dX6_share_131 : decode cX6_share 131 = .ok (.putfield 20, 3) := by decide +kernel
theorem dX6_share_134 : decode cX6_share 134 = .ok (.aload_n 0, 1) := by decide +kernel
theorem dX6_share_135 : decode cX6_share 135 = .ok (.dup, 1) := by decide +kernel
theorem dX6_share_136 : decode cX6_share 136 = .ok (.getfield 24, 3) := by decide +kernel
theorem dX6_share_139 : decode cX6_share 139 = .ok (.aload_n 1, 1) := by decide +kernel
theorem dX6_share_140 : decode cX6_share 140 = .ok (.getfield 52, 3) := by decide +kernel
theorem dX6_share_143 : decode cX6_share 143 = .ok (.iload 5, 2) := by decide +kernel
theorem dX6_share_145 : decode cX6_share 145 = .ok (.iaload, 1) := by decide +kernel
theorem dX6_share_146 : decode cX6_share 146 = .ok (.iadd, 1) := by decide +kernel
theorem dX6_share_147 : decode cX6_share 147 = .ok (.putfield 24, 3) := by decide +kernel
theorem dX6_share_150 : decode cX6_share 150 = .ok (.iinc 4 1, 3) := by decide +kernel
theorem dX6_share_153 : decode cX6_share 153 = .ok (.goto (-74), 3) := by decide +kernel
theorem dX6_share_156 : decode cX6_share 156 = .ok (.return_, 1) := by decide +kernel
theorem dX6_bestOf_0 : decode cX6_bestOf 0 = .ok (.aload_n 0, 1) := by decide +kernel
theorem dX6_bestOf_1 : decode cX6_bestOf 1 = .ok (.aload_n 1, 1) := by decide +kernel
theorem dX6_bestOf_2 : decode cX6_bestOf 2 = .ok (.iload_n 3, 1) := by decide +kernel
theorem dX6_bestOf_3 : decode cX6_bestOf 3 = .ok (.iload 4, 2) := by decide +kernel
theorem dX6_bestOf_5 : decode cX6_bestOf 5 = .ok (.invokevirtual 55, 3) := by decide +kernel
theorem dX6_bestOf_8 : decode cX6_bestOf 8 = .ok (.istore 5, 2) := by decide +kernel
theorem dX6_bestOf_10 : decode cX6_bestOf 10 = .ok (.iconst 0, 1) := by decide +kernel
theorem dX6_bestOf_11 : decode cX6_bestOf 11 = .ok (.istore 6, 2) := by decide +kernel
theorem dX6_bestOf_13 : decode cX6_bestOf 13 = .ok (.iload 6, 2) := by decide +kernel
theorem dX6_bestOf_15 : decode cX6_bestOf 15 = .ok (.aload_n 1, 1) := by decide +kernel
theorem dX6_bestOf_16 : decode cX6_bestOf 16 = .ok (.getfield 32, 3) := by decide +kernel
theorem dX6_bestOf_19 : decode cX6_bestOf 19 = .ok (.if_icmp .ge 39, 3) := by decide +kernel
theorem dX6_bestOf_22 : decode cX6_bestOf 22 = .ok (.aload_n 1, 1) := by decide +kernel
theorem dX6_bestOf_23 : decode cX6_bestOf 23 = .ok (.aload_n 2, 1) := by decide +kernel
theorem dX6_bestOf_24 : decode cX6_bestOf 24 = .ok (.iload_n 3, 1) := by decide +kernel
theorem dX6_bestOf_25 : decode cX6_bestOf 25 = .ok (.iload 6, 2) := by decide +kernel
theorem dX6_bestOf_27 : decode cX6_bestOf 27 = .ok (.iload 4, 2) := by decide +kernel
theorem dX6_bestOf_29 : decode cX6_bestOf 29 = .ok (.invokestatic 59, 3) := by decide +kernel
theorem dX6_bestOf_32 : decode cX6_bestOf 32 = .ok (.ifCond .eq 20, 3) := by decide +kernel
theorem dX6_bestOf_35 : decode cX6_bestOf 35 = .ok (.iload 5, 2) := by decide +kernel
theorem dX6_bestOf_37 : decode cX6_bestOf 37 = .ok (.aload_n 0, 1) := by decide +kernel
theorem dX6_bestOf_38 : decode cX6_bestOf 38 = .ok (.aload_n 1, 1) := by decide +kernel
theorem dX6_bestOf_39 : decode cX6_bestOf 39 = .ok (.iload_n 3, 1) := by decide +kernel
theorem dX6_bestOf_40 : decode cX6_bestOf 40 = .ok (.iload 6, 2) := by decide +kernel
theorem dX6_bestOf_42 : decode cX6_bestOf 42 = .ok (.iload 4, 2) := by decide +kernel
theorem dX6_bestOf_44 : decode cX6_bestOf 44 = .ok (.invokevirtual 63, 3) := by decide +kernel
theorem dX6_bestOf_47 : decode cX6_bestOf 47 = .ok (.invokestatic 67, 3) := by decide +kernel
theorem dX6_bestOf_50 : decode cX6_bestOf 50 = .ok (.istore 5, 2) := by decide +kernel
theorem dX6_bestOf_52 : decode cX6_bestOf 52 = .ok (.iinc 6 1, 3) := by decide +kernel
theorem dX6_bestOf_55 : decode cX6_bestOf 55 = .ok (.goto (-42), 3) := by decide +kernel
theorem dX6_bestOf_58 : decode cX6_bestOf 58 = .ok (.iload 5, 2) := by decide +kernel
theorem dX6_bestOf_60 : decode cX6_bestOf 60 = .ok (.ireturn, 1) := by decide +kernel
theorem dX6_choice_0 : decode cX6_choice 0 = .ok (.iconst 0, 1) := by decide +kernel
theorem dX6_choice_1 : decode cX6_choice 1 = .ok (.istore 5, 2) := by decide +kernel
theorem dX6_choice_3 : decode cX6_choice 3 = .ok (.iload 5, 2) := by decide +kernel
theorem dX6_choice_5 : decode cX6_choice 5 = .ok (.aload_n 1, 1) := by decide +kernel
theorem dX6_choice_6 : decode cX6_choice 6 = .ok (.getfield 32, 3) := by decide +kernel
theorem dX6_choice_9 : decode cX6_choice 9 = .ok (.if_icmp .ge 47, 3) := by decide +kernel
theorem dX6_choice_12 : decode cX6_choice 12 = .ok (.aload_n 1, 1) := by decide +kernel
theorem dX6_choice_13 : decode cX6_choice 13 = .ok (.aload_n 2, 1) := by decide +kernel
theorem dX6_choice_14 : decode cX6_choice 14 = .ok (.iload_n 3, 1) := by decide +kernel
theorem dX6_choice_15 : decode cX6_choice 15 = .ok (.iload 5, 2) := by decide +kernel
theorem dX6_choice_17 : decode cX6_choice 17 = .ok (.iload 4, 2) := by decide +kernel
theorem dX6_choice_19 : decode cX6_choice 19 = .ok (.invokestatic 59, 3) := by decide +kernel
theorem dX6_choice_22 : decode cX6_choice 22 = .ok (.ifCond .eq 28, 3) := by decide +kernel
theorem dX6_choice_25 : decode cX6_choice 25 = .ok (.aload_n 0, 1) := by decide +kernel
theorem dX6_choice_26 : decode cX6_choice 26 = .ok (.aload_n 1, 1) := by decide +kernel
theorem dX6_choice_27 : decode cX6_choice 27 = .ok (.iload_n 3, 1) := by decide +kernel
theorem dX6_choice_28 : decode cX6_choice 28 = .ok (.iload 5, 2) := by decide +kernel
theorem dX6_choice_30 : decode cX6_choice 30 = .ok (.iload 4, 2) := by decide +kernel
theorem dX6_choice_32 : decode cX6_choice 32 = .ok (.invokevirtual 63, 3) := by decide +kernel
theorem dX6_choice_35 : decode cX6_choice 35 = .ok (.aload_n 0, 1) := by decide +kernel
theorem dX6_choice_36 : decode cX6_choice 36 = .ok (.getfield 13, 3) := by decide +kernel
theorem dX6_choice_39 : decode cX6_choice 39 = .ok (.iload_n 3, 1) := by decide +kernel
theorem dX6_choice_40 : decode cX6_choice 40 = .ok (.aaload, 1) := by decide +kernel
theorem dX6_choice_41 : decode cX6_choice 41 = .ok (.iload 4, 2) := by decide +kernel
theorem dX6_choice_43 : decode cX6_choice 43 = .ok (.iaload, 1) := by decide +kernel
theorem dX6_choice_44 : decode cX6_choice 44 = .ok (.if_icmp .ne 6, 3) := by decide +kernel
theorem dX6_choice_47 : decode cX6_choice 47 = .ok (.iload 5, 2) := by decide +kernel
theorem dX6_choice_49 : decode cX6_choice 49 = .ok (.ireturn, 1) := by decide +kernel
theorem dX6_choice_50 : decode cX6_choice 50 = .ok (.iinc 5 1, 3) := by decide +kernel
theorem dX6_choice_53 : decode cX6_choice 53 = .ok (.goto (-50), 3) := by decide +kernel
theorem dX6_choice_56 : decode cX6_choice 56 = .ok (.iconst (-1), 1) := by decide +kernel
theorem dX6_choice_57 : decode cX6_choice 57 = .ok (.ireturn, 1) := by decide +kernel
theorem dX6_worthOf_0 : decode cX6_worthOf 0 = .ok (.sipush 1000, 3) := by decide +kernel
theorem dX6_worthOf_3 : decode cX6_worthOf 3 = .ok (.aload_n 1, 1) := by decide +kernel
theorem dX6_worthOf_4 : decode cX6_worthOf 4 = .ok (.getfield 52, 3) := by decide +kernel
theorem dX6_worthOf_7 : decode cX6_worthOf 7 = .ok (.iload_n 3, 1) := by decide +kernel
theorem dX6_worthOf_8 : decode cX6_worthOf 8 = .ok (.iaload, 1) := by decide +kernel
theorem dX6_worthOf_9 : decode cX6_worthOf 9 = .ok (.isub, 1) := by decide +kernel
theorem dX6_worthOf_10 : decode cX6_worthOf 10 = .ok (.aload_n 0, 1) := by decide +kernel
theorem dX6_worthOf_11 : decode cX6_worthOf 11 = .ok (.aload_n 1, 1) := by decide +kernel
theorem dX6_worthOf_12 : decode cX6_worthOf 12 = .ok (.iload_n 2, 1) := by decide +kernel
theorem dX6_worthOf_13 : decode cX6_worthOf 13 = .ok (.iload 4, 2) := by decide +kernel
theorem dX6_worthOf_15 : decode cX6_worthOf 15 = .ok (.iconst 1, 1) := by decide +kernel
theorem dX6_worthOf_16 : decode cX6_worthOf 16 = .ok (.iload_n 3, 1) := by decide +kernel
theorem dX6_worthOf_17 : decode cX6_worthOf 17 = .ok (.ishl, 1) := by decide +kernel
theorem dX6_worthOf_18 : decode cX6_worthOf 18 = .ok (.ior, 1) := by decide +kernel
theorem dX6_worthOf_19 : decode cX6_worthOf 19 = .ok (.invokevirtual 55, 3) := by decide +kernel
theorem dX6_worthOf_22 : decode cX6_worthOf 22 = .ok (.iadd, 1) := by decide +kernel
theorem dX6_worthOf_23 : decode cX6_worthOf 23 = .ok (.ireturn, 1) := by decide +kernel
theorem dX6_behind_0 : decode cX6_behind 0 = .ok (.iload_n 2, 1) := by decide +kernel
theorem dX6_behind_1 : decode cX6_behind 1 = .ok (.iconst 1, 1) := by decide +kernel
theorem dX6_behind_2 : decode cX6_behind 2 = .ok (.iadd, 1) := by decide +kernel
theorem dX6_behind_3 : decode cX6_behind 3 = .ok (.aload_n 1, 1) := by decide +kernel
theorem dX6_behind_4 : decode cX6_behind 4 = .ok (.getfield 27, 3) := by decide +kernel
theorem dX6_behind_7 : decode cX6_behind 7 = .ok (.if_icmp .lt 7, 3) := by decide +kernel
theorem dX6_behind_10 : decode cX6_behind 10 = .ok (.iconst 0, 1) := by decide +kernel
theorem dX6_behind_11 : decode cX6_behind 11 = .ok (.goto 13, 3) := by decide +kernel
theorem dX6_behind_14 : decode cX6_behind 14 = .ok (.aload_n 0, 1) := by decide +kernel
theorem dX6_behind_15 : decode cX6_behind 15 = .ok (.getfield 13, 3) := by decide +kernel
theorem dX6_behind_18 : decode cX6_behind 18 = .ok (.iload_n 2, 1) := by decide +kernel
theorem dX6_behind_19 : decode cX6_behind 19 = .ok (.iconst 1, 1) := by decide +kernel
theorem dX6_behind_20 : decode cX6_behind 20 = .ok (.iadd, 1) := by decide +kernel
theorem dX6_behind_21 : decode cX6_behind 21 = .ok (.aaload, 1) := by decide +kernel
theorem dX6_behind_22 : decode cX6_behind 22 = .ok (.iload_n 3, 1) := by decide +kernel
theorem dX6_behind_23 : decode cX6_behind 23 = .ok (.iaload, 1) := by decide +kernel
theorem dX6_behind_24 : decode cX6_behind 24 = .ok (.ireturn, 1) := by decide +kernel
theorem dX6_canHave_0 : decode cX6_canHave 0 = .ok (.iload 4, 2) := by decide +kernel
theorem dX6_canHave_2 : decode cX6_canHave 2 = .ok (.iload_n 3, 1) := by decide +kernel
theorem dX6_canHave_3 : decode cX6_canHave 3 = .ok (.invokestatic 73, 3) := by decide +kernel
theorem dX6_canHave_6 : decode cX6_canHave 6 = .ok (.ifCond .ne 25, 3) := by decide +kernel
theorem dX6_canHave_9 : decode cX6_canHave 9 = .ok (.aload_n 1, 1) := by decide +kernel
theorem dX6_canHave_10 : decode cX6_canHave 10 = .ok (.getfield 77, 3) := by decide +kernel
theorem dX6_canHave_13 : decode cX6_canHave 13 = .ok (.iload_n 2, 1) := by decide +kernel
theorem dX6_canHave_14 : decode cX6_canHave 14 = .ok (.iaload, 1) := by decide +kernel
theorem dX6_canHave_15 : decode cX6_canHave 15 = .ok (.bipush 10, 2) := by decide +kernel
theorem dX6_canHave_17 : decode cX6_canHave 17 = .ok (.aload_n 0, 1) := by decide +kernel
theorem dX6_canHave_18 : decode cX6_canHave 18 = .ok (.getfield 52, 3) := by decide +kernel
theorem dX6_canHave_21 : decode cX6_canHave 21 = .ok (.iload_n 3, 1) := by decide +kernel
theorem dX6_canHave_22 : decode cX6_canHave 22 = .ok (.iaload, 1) := by decide +kernel
theorem dX6_canHave_23 : decode cX6_canHave 23 = .ok (.imul, 1) := by decide +kernel
theorem dX6_canHave_24 : decode cX6_canHave 24 = .ok (.if_icmp .lt 7, 3) := by decide +kernel
theorem dX6_canHave_27 : decode cX6_canHave 27 = .ok (.iconst 1, 1) := by decide +kernel
theorem dX6_canHave_28 : decode cX6_canHave 28 = .ok (.goto 4, 3) := by decide +kernel
theorem dX6_canHave_31 : decode cX6_canHave 31 = .ok (.iconst 0, 1) := by decide +kernel
theorem dX6_canHave_32 : decode cX6_canHave 32 = .ok (.ireturn, 1) := by decide +kernel
theorem dX7_init_0 : decode cX7_init 0 = .ok (.aload_n 0, 1) := by decide +kernel
theorem dX7_init_1 : decode cX7_init 1 = .ok (.invokespecial 3, 3) := by decide +kernel
theorem dX7_init_4 : decode cX7_init 4 = .ok (.aload_n 0, 1) := by decide +kernel
theorem dX7_init_5 : decode cX7_init 5 = .ok (.iconst 0, 1) := by decide +kernel
theorem dX7_init_6 : decode cX7_init 6 = .ok (.putfield 9, 3) := by decide +kernel
theorem dX7_init_9 : decode cX7_init 9 = .ok (.aload_n 0, 1) := by decide +kernel
theorem dX7_init_10 : decode cX7_init 10 = .ok (.iconst 0, 1) := by decide +kernel
theorem dX7_init_11 : decode cX7_init 11 = .ok (.putfield 15, 3) := by decide +kernel
theorem dX7_init_14 : decode cX7_init 14 = .ok (.aload_n 0, 1) := by decide +kernel
theorem dX7_init_15 : decode cX7_init 15 = .ok (.bipush 6, 2) := by decide +kernel
theorem dX7_init_17 : decode cX7_init 17 = .ok (.newarray .int, 2) := by decide +kernel
theorem dX7_init_19 : decode cX7_init 19 = .ok (.putfield 18, 3) := by decide +kernel
theorem dX7_init_22 : decode cX7_init 22 = .ok (.aload_n 0, 1) := by decide +kernel
theorem dX7_init_23 : decode cX7_init 23 = .ok (.bipush 6, 2) := by decide +kernel
theorem dX7_init_25 : decode cX7_init 25 = .ok (.newarray .int, 2) := by decide +kernel
theorem dX7_init_27 : decode cX7_init 27 = .ok (.putfield 22, 3) := by decide +kernel
theorem dX7_init_30 : decode cX7_init 30 = .ok (.aload_n 0, 1) := by decide +kernel
theorem dX7_init_31 : decode cX7_init 31 = .ok (.bipush 6, 2) := by decide +kernel
theorem dX7_init_33 : decode cX7_init 33 = .ok (.newarray .int, 2) := by decide +kernel
theorem dX7_init_35 : decode cX7_init 35 = .ok (.putfield 25, 3) := by decide +kernel
theorem dX7_init_38 : decode cX7_init 38 = .ok (.aload_n 0, 1) := by decide +kernel
theorem dX7_init_39 : decode cX7_init 39 = .ok (.bipush 6, 2) := by decide +kernel
theorem dX7_init_41 : decode cX7_init 41 = .ok (.newarray .int, 2) := by decide +kernel
theorem dX7_init_43 : decode cX7_init 43 = .ok (.putfield 28, 3) := by decide +kernel
theorem dX7_init_46 : decode cX7_init 46 = .ok (.return_, 1) := by decide +kernel
theorem dX7_begin_0 : decode cX7_begin 0 = .ok (.aload_n 0, 1) := by decide +kernel
theorem dX7_begin_1 : decode cX7_begin 1 = .ok (.iconst 0, 1) := by decide +kernel
theorem dX7_begin_2 : decode cX7_begin 2 = .ok (.putfield 9, 3) := by decide +kernel
theorem dX7_begin_5 : decode cX7_begin 5 = .ok (.aload_n 0, 1) := by decide +kernel
theorem dX7_begin_6 : decode cX7_begin 6 = .ok (.iconst 0, 1) := by decide +kernel
theorem dX7_begin_7 : decode cX7_begin 7 = .ok (.putfield 15, 3) := by decide +kernel
theorem dX7_begin_10 : decode cX7_begin 10 = .ok (.iconst 0, 1) := by decide +kernel
theorem dX7_begin_11 : decode cX7_begin 11 = .ok (.istore_n 2, 1) := by decide +kernel
theorem dX7_begin_12 : decode cX7_begin 12 = .ok (.iload_n 2, 1) := by decide +kernel
theorem dX7_begin_13 : decode cX7_begin 13 = .ok (.aload_n 1, 1) := by decide +kernel
theorem dX7_begin_14 : decode cX7_begin 14 = .ok (.getfield 31, 3) := by decide +kernel
theorem dX7_begin_17 : decode cX7_begin 17 = .ok (.if_icmp .ge 52, 3) := by decide +kernel
theorem dX7_begin_20 : decode cX7_begin 20 = .ok (.aload_n 0, 1) := by decide +kernel
theorem dX7_begin_21 : decode cX7_begin 21 = .ok (.getfield 18, 3) := by decide +kernel
theorem dX7_begin_24 : decode cX7_begin 24 = .ok (.iload_n 2, 1) := by decide +kernel
theorem dX7_begin_25 : decode cX7_begin 25 = .ok (.aload_n 1, 1) := by decide +kernel
theorem dX7_begin_26 : decode cX7_begin 26 = .ok (.getfield 36, 3) := by decide +kernel
theorem dX7_begin_29 : decode cX7_begin 29 = .ok (.iload_n 2, 1) := by decide +kernel
theorem dX7_begin_30 : decode cX7_begin 30 = .ok (.iaload, 1) := by decide +kernel
theorem dX7_begin_31 : decode cX7_begin 31 = .ok (.iastore, 1) := by decide +kernel
theorem dX7_begin_32 : decode cX7_begin 32 = .ok (.aload_n 0, 1) := by decide +kernel
theorem dX7_begin_33 : decode cX7_begin 33 = .ok (.getfield 22, 3) := by decide +kernel
theorem dX7_begin_36 : decode cX7_begin 36 = .ok (.iload_n 2, 1) := by decide +kernel
theorem dX7_begin_37 : decode cX7_begin 37 = .ok (.aload_n 1, 1) := by decide +kernel
theorem dX7_begin_38 : decode cX7_begin 38 = .ok (.getfield 37, 3) := by decide +kernel
theorem dX7_begin_41 : decode cX7_begin 41 = .ok (.iload_n 2, 1) := by decide +kernel
theorem dX7_begin_42 : decode cX7_begin 42 = .ok (.iaload, 1) := by decide +kernel
theorem dX7_begin_43 : decode cX7_begin 43 = .ok (.iastore, 1) := by decide +kernel
theorem dX7_begin_44 : decode cX7_begin 44 = .ok (.aload_n 0, 1) := by decide +kernel
theorem dX7_begin_45 : decode cX7_begin 45 = .ok (.getfield 25, 3) := by decide +kernel
theorem dX7_begin_48 : decode cX7_begin 48 = .ok (.iload_n 2, 1) := by decide +kernel
theorem dX7_begin_49 : decode cX7_begin 49 = .ok (.iconst 0, 1) := by decide +kernel
theorem dX7_begin_50 : decode cX7_begin 50 = .ok (.iastore, 1) := by decide +kernel
theorem dX7_begin_51 : decode cX7_begin 51 = .ok (.aload_n 0, 1) := by decide +kernel
theorem dX7_begin_52 : decode cX7_begin 52 = .ok (.getfield 28, 3) := by decide +kernel
theorem dX7_begin_55 : decode cX7_begin 55 = .ok (.iload_n 2, 1) := by decide +kernel
theorem dX7_begin_56 : decode cX7_begin 56 = .ok (.aload_n 1, 1) := by decide +kernel
theorem dX7_begin_57 : decode cX7_begin 57 = .ok (.getfield 38, 3) := by decide +kernel
theorem dX7_begin_60 : decode cX7_begin 60 = .ok (.iload_n 2, 1) := by decide +kernel
theorem dX7_begin_61 : decode cX7_begin 61 = .ok (.iaload, 1) := by decide +kernel
theorem dX7_begin_62 : decode cX7_begin 62 = .ok (.iastore, 1) := by decide +kernel
theorem dX7_begin_63 : decode cX7_begin 63 = .ok (.iinc 2 1, 3) := by decide +kernel
theorem dX7_begin_66 : decode cX7_begin 66 = .ok (.goto (-54), 3) := by decide +kernel
theorem dX7_begin_69 : decode cX7_begin 69 = .ok (.return_, 1) := by decide +kernel
theorem dX7_copy_0 : decode cX7_copy 0 = .ok (.aload_n 0, 1) := by decide +kernel
theorem dX7_copy_1 : decode cX7_copy 1 = .ok (.aload_n 1, 1) := by decide +kernel
theorem dX7_copy_2 : decode cX7_copy 2 = .ok (.getfield 9, 3) := by decide +kernel
theorem dX7_copy_5 : decode cX7_copy 5 = .ok (.putfield 9, 3) := by decide +kernel
theorem dX7_copy_8 : decode cX7_copy 8 = .ok (.aload_n 0, 1) := by decide +kernel
theorem dX7_copy_9 : decode cX7_copy 9 = .ok (.aload_n 1, 1) := by decide +kernel
theorem dX7_copy_10 : decode cX7_copy 10 = .ok (.getfield 15, 3) := by decide +kernel
theorem dX7_copy_13 : decode cX7_copy 13 = .ok (.putfield 15, 3) := by decide +kernel
theorem dX7_copy_16 : decode cX7_copy 16 = .ok (.iconst 0, 1) := by decide +kernel
theorem dX7_copy_17 : decode cX7_copy 17 = .ok (.istore_n 2, 1) := by decide +kernel
theorem dX7_copy_18 : decode cX7_copy 18 = .ok (.iload_n 2, 1) := by decide +kernel
theorem dX7_copy_19 : decode cX7_copy 19 = .ok (.bipush 6, 2) := by decide +kernel
theorem dX7_copy_21 : decode cX7_copy 21 = .ok (.if_icmp .ge 57, 3) := by decide +kernel
theorem dX7_copy_24 : decode cX7_copy 24 = .ok (.aload_n 0, 1) := by decide +kernel
theorem dX7_copy_25 : decode cX7_copy 25 = .ok (.getfield 18, 3) := by decide +kernel
theorem dX7_copy_28 : decode cX7_copy 28 = .ok (.iload_n 2, 1) := by decide +kernel
theorem dX7_copy_29 : decode cX7_copy 29 = .ok (.aload_n 1, 1) := by decide +kernel
theorem dX7_copy_30 : decode cX7_copy 30 = .ok (.getfield 18, 3) := by decide +kernel
theorem dX7_copy_33 : decode cX7_copy 33 = .ok (.iload_n 2, 1) := by decide +kernel
theorem dX7_copy_34 : decode cX7_copy 34 = .ok (.iaload, 1) := by decide +kernel
theorem dX7_copy_35 : decode cX7_copy 35 = .ok (.iastore, 1) := by decide +kernel
theorem dX7_copy_36 : decode cX7_copy 36 = .ok (.aload_n 0, 1) := by decide +kernel
theorem dX7_copy_37 : decode cX7_copy 37 = .ok (.getfield 22, 3) := by decide +kernel
theorem dX7_copy_40 : decode cX7_copy 40 = .ok (.iload_n 2, 1) := by decide +kernel
theorem dX7_copy_41 : decode cX7_copy 41 = .ok (.aload_n 1, 1) := by decide +kernel
theorem dX7_copy_42 : decode cX7_copy 42 = .ok (.getfield 22, 3) := by decide +kernel
theorem dX7_copy_45 : decode cX7_copy 45 = .ok (.iload_n 2, 1) := by decide +kernel
theorem dX7_copy_46 : decode cX7_copy 46 = .ok (.iaload, 1) := by decide +kernel
theorem dX7_copy_47 : decode cX7_copy 47 = .ok (.iastore, 1) := by decide +kernel
theorem dX7_copy_48 : decode cX7_copy 48 = .ok (.aload_n 0, 1) := by decide +kernel
theorem dX7_copy_49 : decode cX7_copy 49 = .ok (.getfield 25, 3) := by decide +kernel
theorem dX7_copy_52 : decode cX7_copy 52 = .ok (.iload_n 2, 1) := by decide +kernel
theorem dX7_copy_53 : decode cX7_copy 53 = .ok (.aload_n 1, 1) := by decide +kernel
theorem dX7_copy_54 : decode cX7_copy 54 = .ok (.getfield 25, 3) := by decide +kernel
theorem dX7_copy_57 : decode cX7_copy 57 = .ok (.iload_n 2, 1) := by decide +kernel
theorem dX7_copy_58 : decode cX7_copy 58 = .ok (.iaload, 1) := by decide +kernel
theorem dX7_copy_59 : decode cX7_copy 59 = .ok (.iastore, 1) := by decide +kernel
theorem dX7_copy_60 : decode cX7_copy 60 = .ok (.aload_n 0, 1) := by decide +kernel
theorem dX7_copy_61 : decode cX7_copy 61 = .ok (.getfield 28, 3) := by decide +kernel
theorem dX7_copy_64 : decode cX7_copy 64 = .ok (.iload_n 2, 1) := by decide +kernel
theorem dX7_copy_65 : decode cX7_copy 65 = .ok (.aload_n 1, 1) := by decide +kernel
theorem dX7_copy_66 : decode cX7_copy 66 = .ok (.getfield 28, 3) := by decide +kernel
theorem dX7_copy_69 : decode cX7_copy 69 = .ok (.iload_n 2, 1) := by decide +kernel
theorem dX7_copy_70 : decode cX7_copy 70 = .ok (.iaload, 1) := by decide +kernel
theorem dX7_copy_71 : decode cX7_copy 71 = .ok (.iastore, 1) := by decide +kernel
theorem dX7_copy_72 : decode cX7_copy 72 = .ok (.iinc 2 1, 3) := by decide +kernel
theorem dX7_copy_75 : decode cX7_copy 75 = .ok (.goto (-57), 3) := by decide +kernel
theorem dX7_copy_78 : decode cX7_copy 78 = .ok (.return_, 1) := by decide +kernel
theorem dX7_write_0 : decode cX7_write 0 = .ok (.iload_n 2, 1) := by decide +kernel
theorem dX7_write_1 : decode cX7_write 1 = .ok (.ifCond .lt 12, 3) := by decide +kernel
theorem dX7_write_4 : decode cX7_write 4 = .ok (.iload_n 2, 1) := by decide +kernel
theorem dX7_write_5 : decode cX7_write 5 = .ok (.bipush 26, 2) := by decide +kernel
theorem dX7_write_7 : decode cX7_write 7 = .ok (.iadd, 1) := by decide +kernel
theorem dX7_write_8 : decode cX7_write 8 = .ok (.aload_n 1, 1) := by decide +kernel
theorem dX7_write_9 : decode cX7_write 9 = .ok (.arraylength, 1) := by decide +kernel
theorem dX7_write_10 : decode cX7_write 10 = .ok (.if_icmp .le 4, 3) := by decide +kernel
theorem dX7_write_13 : decode cX7_write 13 = .ok (.return_, 1) := by decide +kernel
theorem dX7_write_14 : decode cX7_write 14 = .ok (.aload_n 1, 1) := by decide +kernel
theorem dX7_write_15 : decode cX7_write 15 = .ok (.iload_n 2, 1) := by decide +kernel
theorem dX7_write_16 : decode cX7_write 16 = .ok (.aload_n 0, 1) := by decide +kernel
theorem dX7_write_17 : decode cX7_write 17 = .ok (.getfield 9, 3) := by decide +kernel
theorem dX7_write_20 : decode cX7_write 20 = .ok (.iastore, 1) := by decide +kernel
theorem dX7_write_21 : decode cX7_write 21 = .ok (.aload_n 1, 1) := by decide +kernel
theorem dX7_write_22 : decode cX7_write 22 = .ok (.iload_n 2, 1) := by decide +kernel
theorem dX7_write_23 : decode cX7_write 23 = .ok (.iconst 1, 1) := by decide +kernel
theorem dX7_write_24 : decode cX7_write 24 = .ok (.iadd, 1) := by decide +kernel
theorem dX7_write_25 : decode cX7_write 25 = .ok (.aload_n 0, 1) := by decide +kernel
theorem dX7_write_26 : decode cX7_write 26 = .ok (.getfield 15, 3) := by decide +kernel
theorem dX7_write_29 : decode cX7_write 29 = .ok (.iastore, 1) := by decide +kernel
theorem dX7_write_30 : decode cX7_write 30 = .ok (.iconst 0, 1) := by decide +kernel
theorem dX7_write_31 : decode cX7_write 31 = .ok (.istore_n 3, 1) := by decide +kernel
theorem dX7_write_32 : decode cX7_write 32 = .ok (.iload_n 3, 1) := by decide +kernel
theorem dX7_write_33 : decode cX7_write 33 = .ok (.bipush 6, 2) := by decide +kernel
theorem dX7_write_35 : decode cX7_write 35 = .ok (.if_icmp .ge 64, 3) := by decide +kernel
theorem dX7_write_38 : decode cX7_write 38 = .ok (.iload_n 2, 1) := by decide +kernel
theorem dX7_write_39 : decode cX7_write 39 = .ok (.iconst 2, 1) := by decide +kernel
theorem dX7_write_40 : decode cX7_write 40 = .ok (.iadd, 1) := by decide +kernel
theorem dX7_write_41 : decode cX7_write 41 = .ok (.iconst 4, 1) := by decide +kernel
theorem dX7_write_42 : decode cX7_write 42 = .ok (.iload_n 3, 1) := by decide +kernel
theorem dX7_write_43 : decode cX7_write 43 = .ok (.imul, 1) := by decide +kernel
theorem dX7_write_44 : decode cX7_write 44 = .ok (.iadd, 1) := by decide +kernel
theorem dX7_write_45 : decode cX7_write 45 = .ok (.istore 4, 2) := by decide +kernel
theorem dX7_write_47 : decode cX7_write 47 = .ok (.aload_n 1, 1) := by decide +kernel
theorem dX7_write_48 : decode cX7_write 48 = .ok (.iload 4, 2) := by decide +kernel
theorem dX7_write_50 : decode cX7_write 50 = .ok (.aload_n 0, 1) := by decide +kernel
theorem dX7_write_51 : decode cX7_write 51 = .ok (.getfield 18, 3) := by decide +kernel
theorem dX7_write_54 : decode cX7_write 54 = .ok (.iload_n 3, 1) := by decide +kernel
theorem dX7_write_55 : decode cX7_write 55 = .ok (.iaload, 1) := by decide +kernel
theorem dX7_write_56 : decode cX7_write 56 = .ok (.iastore, 1) := by decide +kernel
theorem dX7_write_57 : decode cX7_write 57 = .ok (.aload_n 1, 1) := by decide +kernel
theorem dX7_write_58 : decode cX7_write 58 = .ok (.iload 4, 2) := by decide +kernel
theorem dX7_write_60 : decode cX7_write 60 = .ok (.iconst 1, 1) := by decide +kernel
theorem dX7_write_61 : decode cX7_write 61 = .ok (.iadd, 1) := by decide +kernel
theorem dX7_write_62 : decode cX7_write 62 = .ok (.aload_n 0, 1) := by decide +kernel
theorem dX7_write_63 : decode cX7_write 63 = .ok (.getfield 22, 3) := by decide +kernel
theorem dX7_write_66 : decode cX7_write 66 = .ok (.iload_n 3, 1) := by decide +kernel
theorem dX7_write_67 : decode cX7_write 67 = .ok (.iaload, 1) := by decide +kernel
theorem dX7_write_68 : decode cX7_write 68 = .ok (.iastore, 1) := by decide +kernel
theorem dX7_write_69 : decode cX7_write 69 = .ok (.aload_n 1, 1) := by decide +kernel
theorem dX7_write_70 : decode cX7_write 70 = .ok (.iload 4, 2) := by decide +kernel
theorem dX7_write_72 : decode cX7_write 72 = .ok (.iconst 2, 1) := by decide +kernel
theorem dX7_write_73 : decode cX7_write 73 = .ok (.iadd, 1) := by decide +kernel
theorem dX7_write_74 : decode cX7_write 74 = .ok (.aload_n 0, 1) := by decide +kernel
theorem dX7_write_75 : decode cX7_write 75 = .ok (.getfield 25, 3) := by decide +kernel
theorem dX7_write_78 : decode cX7_write 78 = .ok (.iload_n 3, 1) := by decide +kernel
theorem dX7_write_79 : decode cX7_write 79 = .ok (.iaload, 1) := by decide +kernel
theorem dX7_write_80 : decode cX7_write 80 = .ok (.iastore, 1) := by decide +kernel
theorem dX7_write_81 : decode cX7_write 81 = .ok (.aload_n 1, 1) := by decide +kernel
theorem dX7_write_82 : decode cX7_write 82 = .ok (.iload 4, 2) := by decide +kernel
theorem dX7_write_84 : decode cX7_write 84 = .ok (.iconst 3, 1) := by decide +kernel
theorem dX7_write_85 : decode cX7_write 85 = .ok (.iadd, 1) := by decide +kernel
theorem dX7_write_86 : decode cX7_write 86 = .ok (.aload_n 0, 1) := by decide +kernel
theorem dX7_write_87 : decode cX7_write 87 = .ok (.getfield 28, 3) := by decide +kernel
theorem dX7_write_90 : decode cX7_write 90 = .ok (.iload_n 3, 1) := by decide +kernel
theorem dX7_write_91 : decode cX7_write 91 = .ok (.iaload, 1) := by decide +kernel
theorem dX7_write_92 : decode cX7_write 92 = .ok (.iastore, 1) := by decide +kernel
theorem dX7_write_93 : decode cX7_write 93 = .ok (.iinc 3 1, 3) := by decide +kernel
theorem dX7_write_96 : decode cX7_write 96 = .ok (.goto (-64), 3) := by decide +kernel
theorem dX7_write_99 : decode cX7_write 99 = .ok (.return_, 1) := by decide +kernel
theorem dX7_read_0 : decode cX7_read 0 = .ok (.iload_n 2, 1) := by decide +kernel
theorem dX7_read_1 : decode cX7_read 1 = .ok (.ifCond .lt 12, 3) := by decide +kernel
theorem dX7_read_4 : decode cX7_read 4 = .ok (.iload_n 2, 1) := by decide +kernel
theorem dX7_read_5 : decode cX7_read 5 = .ok (.bipush 26, 2) := by decide +kernel
theorem dX7_read_7 : decode cX7_read 7 = .ok (.iadd, 1) := by decide +kernel
theorem dX7_read_8 : decode cX7_read 8 = .ok (.aload_n 1, 1) := by decide +kernel
theorem dX7_read_9 : decode cX7_read 9 = .ok (.arraylength, 1) := by decide +kernel
theorem dX7_read_10 : decode cX7_read 10 = .ok (.if_icmp .le 4, 3) := by decide +kernel
theorem dX7_read_13 : decode cX7_read 13 = .ok (.return_, 1) := by decide +kernel
theorem dX7_read_14 : decode cX7_read 14 = .ok (.aload_n 0, 1) := by decide +kernel
theorem dX7_read_15 : decode cX7_read 15 = .ok (.aload_n 1, 1) := by decide +kernel
theorem dX7_read_16 : decode cX7_read 16 = .ok (.iload_n 2, 1) := by decide +kernel
theorem dX7_read_17 : decode cX7_read 17 = .ok (.iaload, 1) := by decide +kernel
theorem dX7_read_18 : decode cX7_read 18 = .ok (.putfield 9, 3) := by decide +kernel
theorem dX7_read_21 : decode cX7_read 21 = .ok (.aload_n 0, 1) := by decide +kernel
theorem dX7_read_22 : decode cX7_read 22 = .ok (.aload_n 1, 1) := by decide +kernel
theorem dX7_read_23 : decode cX7_read 23 = .ok (.iload_n 2, 1) := by decide +kernel
theorem dX7_read_24 : decode cX7_read 24 = .ok (.iconst 1, 1) := by decide +kernel
theorem dX7_read_25 : decode cX7_read 25 = .ok (.iadd, 1) := by decide +kernel
theorem dX7_read_26 : decode cX7_read 26 = .ok (.iaload, 1) := by decide +kernel
theorem dX7_read_27 : decode cX7_read 27 = .ok (.putfield 15, 3) := by decide +kernel
theorem dX7_read_30 : decode cX7_read 30 = .ok (.iconst 0, 1) := by decide +kernel
theorem dX7_read_31 : decode cX7_read 31 = .ok (.istore_n 3, 1) := by decide +kernel
theorem dX7_read_32 : decode cX7_read 32 = .ok (.iload_n 3, 1) := by decide +kernel
theorem dX7_read_33 : decode cX7_read 33 = .ok (.bipush 6, 2) := by decide +kernel
theorem dX7_read_35 : decode cX7_read 35 = .ok (.if_icmp .ge 64, 3) := by decide +kernel
theorem dX7_read_38 : decode cX7_read 38 = .ok (.iload_n 2, 1) := by decide +kernel
theorem dX7_read_39 : decode cX7_read 39 = .ok (.iconst 2, 1) := by decide +kernel
theorem dX7_read_40 : decode cX7_read 40 = .ok (.iadd, 1) := by decide +kernel
theorem dX7_read_41 : decode cX7_read 41 = .ok (.iconst 4, 1) := by decide +kernel
theorem dX7_read_42 : decode cX7_read 42 = .ok (.iload_n 3, 1) := by decide +kernel
theorem dX7_read_43 : decode cX7_read 43 = .ok (.imul, 1) := by decide +kernel
theorem dX7_read_44 : decode cX7_read 44 = .ok (.iadd, 1) := by decide +kernel
theorem dX7_read_45 : decode cX7_read 45 = .ok (.istore 4, 2) := by decide +kernel
theorem dX7_read_47 : decode cX7_read 47 = .ok (.aload_n 0, 1) := by decide +kernel
theorem dX7_read_48 : decode cX7_read 48 = .ok (.getfield 18, 3) := by decide +kernel
theorem dX7_read_51 : decode cX7_read 51 = .ok (.iload_n 3, 1) := by decide +kernel
theorem dX7_read_52 : decode cX7_read 52 = .ok (.aload_n 1, 1) := by decide +kernel
theorem dX7_read_53 : decode cX7_read 53 = .ok (.iload 4, 2) := by decide +kernel
theorem dX7_read_55 : decode cX7_read 55 = .ok (.iaload, 1) := by decide +kernel
theorem dX7_read_56 : decode cX7_read 56 = .ok (.iastore, 1) := by decide +kernel
theorem dX7_read_57 : decode cX7_read 57 = .ok (.aload_n 0, 1) := by decide +kernel
theorem dX7_read_58 : decode cX7_read 58 = .ok (.getfield 22, 3) := by decide +kernel
theorem dX7_read_61 : decode cX7_read 61 = .ok (.iload_n 3, 1) := by decide +kernel
theorem dX7_read_62 : decode cX7_read 62 = .ok (.aload_n 1, 1) := by decide +kernel
theorem dX7_read_63 : decode cX7_read 63 = .ok (.iload 4, 2) := by decide +kernel
theorem dX7_read_65 : decode cX7_read 65 = .ok (.iconst 1, 1) := by decide +kernel
theorem dX7_read_66 : decode cX7_read 66 = .ok (.iadd, 1) := by decide +kernel
theorem dX7_read_67 : decode cX7_read 67 = .ok (.iaload, 1) := by decide +kernel
theorem dX7_read_68 : decode cX7_read 68 = .ok (.iastore, 1) := by decide +kernel
theorem dX7_read_69 : decode cX7_read 69 = .ok (.aload_n 0, 1) := by decide +kernel
theorem dX7_read_70 : decode cX7_read 70 = .ok (.getfield 25, 3) := by decide +kernel
theorem dX7_read_73 : decode cX7_read 73 = .ok (.iload_n 3, 1) := by decide +kernel
theorem dX7_read_74 : decode cX7_read 74 = .ok (.aload_n 1, 1) := by decide +kernel
theorem dX7_read_75 : decode cX7_read 75 = .ok (.iload 4, 2) := by decide +kernel
theorem dX7_read_77 : decode cX7_read 77 = .ok (.iconst 2, 1) := by decide +kernel
theorem dX7_read_78 : decode cX7_read 78 = .ok (.iadd, 1) := by decide +kernel
theorem dX7_read_79 : decode cX7_read 79 = .ok (.iaload, 1) := by decide +kernel
theorem dX7_read_80 : decode cX7_read 80 = .ok (.iastore, 1) := by decide +kernel
theorem dX7_read_81 : decode cX7_read 81 = .ok (.aload_n 0, 1) := by decide +kernel
theorem dX7_read_82 : decode cX7_read 82 = .ok (.getfield 28, 3) := by decide +kernel
theorem dX7_read_85 : decode cX7_read 85 = .ok (.iload_n 3, 1) := by decide +kernel
theorem dX7_read_86 : decode cX7_read 86 = .ok (.aload_n 1, 1) := by decide +kernel
theorem dX7_read_87 : decode cX7_read 87 = .ok (.iload 4, 2) := by decide +kernel
theorem dX7_read_89 : decode cX7_read 89 = .ok (.iconst 3, 1) := by decide +kernel
theorem dX7_read_90 : decode cX7_read 90 = .ok (.iadd, 1) := by decide +kernel
theorem dX7_read_91 : decode cX7_read 91 = .ok (.iaload, 1) := by decide +kernel
theorem dX7_read_92 : decode cX7_read 92 = .ok (.iastore, 1) := by decide +kernel
theorem dX7_read_93 : decode cX7_read 93 = .ok (.iinc 3 1, 3) := by decide +kernel
theorem dX7_read_96 : decode cX7_read 96 = .ok (.goto (-64), 3) := by decide +kernel
theorem dX7_read_99 : decode cX7_read 99 = .ok (.return_, 1) := by decide +kernel
theorem dX7_isDrained_0 : decode cX7_isDrained 0 = .ok (.aload_n 0, 1) := by decide +kernel
theorem dX7_isDrained_1 : decode cX7_isDrained 1 = .ok (.getfield 15, 3) := by decide +kernel
theorem dX7_isDrained_4 : decode cX7_isDrained 4 = .ok (.iload_n 1, 1) := by decide +kernel
theorem dX7_isDrained_5 : decode cX7_isDrained 5 = .ok (.invokestatic 39, 3) := by decide +kernel
theorem dX7_isDrained_8 : decode cX7_isDrained 8 = .ok (.ireturn, 1) := by decide +kernel
theorem dX7_turn_0 : decode cX7_turn 0 = .ok (.aload_n 0, 1) := by decide +kernel
theorem dX7_turn_1 : decode cX7_turn 1 = .ok (.dup, 1) := by decide +kernel
theorem dX7_turn_2 : decode cX7_turn 2 = .ok (.getfield 15, 3) := by decide +kernel
theorem dX7_turn_5 : decode cX7_turn 5 = .ok (.iconst 1, 1) := by decide +kernel
theorem dX7_turn_6 : decode cX7_turn 6 = .ok (.iload_n 1, 1) := by decide +kernel
theorem dX7_turn_7 : decode cX7_turn 7 = .ok (.ishl, 1) := by decide +kernel
theorem dX7_turn_8 : decode cX7_turn 8 = .ok (.ixor, 1) := by decide +kernel
theorem dX7_turn_9 : decode cX7_turn 9 = .ok (.putfield 15, 3) := by decide +kernel
theorem dX7_turn_12 : decode cX7_turn 12 = .ok (.return_, 1) := by decide +kernel
theorem dX7_enrich_0 : decode cX7_enrich 0 = .ok (.iload_n 1, 1) := by decide +kernel
theorem dX7_enrich_1 : decode cX7_enrich 1 = .ok (.ifCond .lt 32, 3) := by decide +kernel
theorem dX7_enrich_4 : decode cX7_enrich 4 = .ok (.iload_n 1, 1) := by decide +kernel
theorem dX7_enrich_5 : decode cX7_enrich 5 = .ok (.aload_n 0, 1) := by decide +kernel
theorem dX7_enrich_6 : decode cX7_enrich 6 = .ok (.getfield 22, 3) := by decide +kernel
theorem dX7_enrich_9 : decode cX7_enrich 9 = .ok (.arraylength, 1) := by decide +kernel
theorem dX7_enrich_10 : decode cX7_enrich 10 = .ok (.if_icmp .ge 23, 3) := by decide +kernel
theorem dX7_enrich_13 : decode cX7_enrich 13 = .ok (.aload_n 0, 1) := by decide +kernel
theorem dX7_enrich_14 : decode cX7_enrich 14 = .ok (.getfield 22, 3) := by decide +kernel
theorem dX7_enrich_17 : decode cX7_enrich 17 = .ok (.iload_n 1, 1) := by decide +kernel
theorem dX7_enrich_18 : decode cX7_enrich 18 = .ok (.sipush 999, 3) := by decide +kernel
theorem dX7_enrich_21 : decode cX7_enrich 21 = .ok (.aload_n 0, 1) := by decide +kernel
theorem dX7_enrich_22 : decode cX7_enrich 22 = .ok (.getfield 22, 3) := by decide +kernel
theorem dX7_enrich_25 : decode cX7_enrich 25 = .ok (.iload_n 1, 1) := by decide +kernel
theorem dX7_enrich_26 : decode cX7_enrich 26 = .ok (.iaload, 1) := by decide +kernel
theorem dX7_enrich_27 : decode cX7_enrich 27 = .ok (.iload_n 2, 1) := by decide +kernel
theorem dX7_enrich_28 : decode cX7_enrich 28 = .ok (.iadd, 1) := by decide +kernel
theorem dX7_enrich_29 : decode cX7_enrich 29 = .ok (.invokestatic 43, 3) := by decide +kernel
theorem dX7_enrich_32 : decode cX7_enrich 32 = .ok (.iastore, 1) := by decide +kernel
theorem dX7_enrich_33 : decode cX7_enrich 33 = .ok (.return_, 1) := by decide +kernel
theorem dX7_holderOf_0 : decode cX7_holderOf 0 = .ok (.iconst 0, 1) := by decide +kernel
theorem dX7_holderOf_1 : decode cX7_holderOf 1 = .ok (.istore_n 3, 1) := by decide +kernel
theorem dX7_holderOf_2 : decode cX7_holderOf 2 = .ok (.iload_n 3, 1) := by decide +kernel
theorem dX7_holderOf_3 : decode cX7_holderOf 3 = .ok (.aload_n 1, 1) := by decide +kernel
theorem dX7_holderOf_4 : decode cX7_holderOf 4 = .ok (.getfield 31, 3) := by decide +kernel
theorem dX7_holderOf_7 : decode cX7_holderOf 7 = .ok (.if_icmp .ge 21, 3) := by decide +kernel
theorem dX7_holderOf_10 : decode cX7_holderOf 10 = .ok (.aload_n 0, 1) := by decide +kernel
theorem dX7_holderOf_11 : decode cX7_holderOf 11 = .ok (.getfield 28, 3) := by decide +kernel
theorem dX7_holderOf_14 : decode cX7_holderOf 14 = .ok (.iload_n 3, 1) := by decide +kernel
theorem dX7_holderOf_15 : decode cX7_holderOf 15 = .ok (.iaload, 1) := by decide +kernel
theorem dX7_holderOf_16 : decode cX7_holderOf 16 = .ok (.iload_n 2, 1) := by decide +kernel
theorem dX7_holderOf_17 : decode cX7_holderOf 17 = .ok (.if_icmp .ne 5, 3) := by decide +kernel
theorem dX7_holderOf_20 : decode cX7_holderOf 20 = .ok (.iload_n 3, 1) := by decide +kernel
theorem dX7_holderOf_21 : decode cX7_holderOf 21 = .ok (.ireturn, 1) := by decide +kernel
theorem dX7_holderOf_22 : decode cX7_holderOf 22 = .ok (.iinc 3 1, 3) := by decide +kernel
theorem dX7_holderOf_25 : decode cX7_holderOf 25 = .ok (.goto (-23), 3) := by decide +kernel
theorem dX7_holderOf_28 : decode cX7_holderOf 28 = .ok (.iconst (-1), 1) := by decide +kernel
theorem dX7_holderOf_29 : decode cX7_holderOf 29 = .ok (.ireturn, 1) := by decide +kernel
theorem dX7_hiredBits_0 : decode cX7_hiredBits 0 = .ok (.iconst 0, 1) := by decide +kernel
theorem dX7_hiredBits_1 : decode cX7_hiredBits 1 = .ok (.istore_n 2, 1) := by decide +kernel
theorem dX7_hiredBits_2 : decode cX7_hiredBits 2 = .ok (.iconst 0, 1) := by decide +kernel
theorem dX7_hiredBits_3 : decode cX7_hiredBits 3 = .ok (.istore_n 3, 1) := by decide +kernel
theorem dX7_hiredBits_4 : decode cX7_hiredBits 4 = .ok (.iload_n 3, 1) := by decide +kernel
theorem dX7_hiredBits_5 : decode cX7_hiredBits 5 = .ok (.aload_n 1, 1) := by decide +kernel
theorem dX7_hiredBits_6 : decode cX7_hiredBits 6 = .ok (.getfield 31, 3) := by decide +kernel
theorem dX7_hiredBits_9 : decode cX7_hiredBits 9 = .ok (.if_icmp .ge 30, 3) := by decide +kernel
theorem dX7_hiredBits_12 : decode cX7_hiredBits 12 = .ok (.aload_n 0, 1) := by decide +kernel
theorem dX7_hiredBits_13 : decode cX7_hiredBits 13 = .ok (.getfield 28, 3) := by decide +kernel
theorem dX7_hiredBits_16 : decode cX7_hiredBits 16 = .ok (.iload_n 3, 1) := by decide +kernel
theorem dX7_hiredBits_17 : decode cX7_hiredBits 17 = .ok (.iaload, 1) := by decide +kernel
theorem dX7_hiredBits_18 : decode cX7_hiredBits 18 = .ok (.iconst (-1), 1) := by decide +kernel
theorem dX7_hiredBits_19 : decode cX7_hiredBits 19 = .ok (.if_icmp .eq 14, 3) := by decide +kernel
theorem dX7_hiredBits_22 : decode cX7_hiredBits 22 = .ok (.iload_n 2, 1) := by decide +kernel
theorem dX7_hiredBits_23 : decode cX7_hiredBits 23 = .ok (.iconst 1, 1) := by decide +kernel
theorem dX7_hiredBits_24 : decode cX7_hiredBits 24 = .ok (.aload_n 0, 1) := by decide +kernel
theorem dX7_hiredBits_25 : decode cX7_hiredBits 25 = .ok (.getfield 28, 3) := by decide +kernel
theorem dX7_hiredBits_28 : decode cX7_hiredBits 28 = .ok (.iload_n 3, 1) := by decide +kernel
theorem dX7_hiredBits_29 : decode cX7_hiredBits 29 = .ok (.iaload, 1) := by decide +kernel
theorem dX7_hiredBits_30 : decode cX7_hiredBits 30 = .ok (.ishl, 1) := by decide +kernel
theorem dX7_hiredBits_31 : decode cX7_hiredBits 31 = .ok (.ior, 1) := by decide +kernel
theorem dX7_hiredBits_32 : decode cX7_hiredBits 32 = .ok (.istore_n 2, 1) := by decide +kernel
theorem dX7_hiredBits_33 : decode cX7_hiredBits 33 = .ok (.iinc 3 1, 3) := by decide +kernel
theorem dX7_hiredBits_36 : decode cX7_hiredBits 36 = .ok (.goto (-32), 3) := by decide +kernel
theorem dX7_hiredBits_39 : decode cX7_hiredBits 39 = .ok (.iload_n 2, 1) := by decide +kernel
theorem dX7_hiredBits_40 : decode cX7_hiredBits 40 = .ok (.ireturn, 1) := by decide +kernel
theorem dX7_purses_0 : decode cX7_purses 0 = .ok (.iconst 0, 1) := by decide +kernel
theorem dX7_purses_1 : decode cX7_purses 1 = .ok (.istore_n 2, 1) := by decide +kernel
theorem dX7_purses_2 : decode cX7_purses 2 = .ok (.iconst 0, 1) := by decide +kernel
theorem dX7_purses_3 : decode cX7_purses 3 = .ok (.istore_n 3, 1) := by decide +kernel
theorem dX7_purses_4 : decode cX7_purses 4 = .ok (.iload_n 3, 1) := by decide +kernel
theorem dX7_purses_5 : decode cX7_purses 5 = .ok (.aload_n 1, 1) := by decide +kernel
theorem dX7_purses_6 : decode cX7_purses 6 = .ok (.getfield 31, 3) := by decide +kernel
theorem dX7_purses_9 : decode cX7_purses 9 = .ok (.if_icmp .ge 18, 3) := by decide +kernel
theorem dX7_purses_12 : decode cX7_purses 12 = .ok (.iload_n 2, 1) := by decide +kernel
theorem dX7_purses_13 : decode cX7_purses 13 = .ok (.aload_n 0, 1) := by decide +kernel
theorem dX7_purses_14 : decode cX7_purses 14 = .ok (.getfield 22, 3) := by decide +kernel
theorem dX7_purses_17 : decode cX7_purses 17 = .ok (.iload_n 3, 1) := by decide +kernel
theorem dX7_purses_18 : decode cX7_purses 18 = .ok (.iaload, 1) := by decide +kernel
theorem dX7_purses_19 : decode cX7_purses 19 = .ok (.iadd, 1) := by decide +kernel
theorem dX7_purses_20 : decode cX7_purses 20 = .ok (.istore_n 2, 1) := by decide +kernel
theorem dX7_purses_21 : decode cX7_purses 21 = .ok (.iinc 3 1, 3) := by decide +kernel
theorem dX7_purses_24 : decode cX7_purses 24 = .ok (.goto (-20), 3) := by decide +kernel
theorem dX7_purses_27 : decode cX7_purses 27 = .ok (.iload_n 2, 1) := by decide +kernel
theorem dX7_purses_28 : decode cX7_purses 28 = .ok (.ireturn, 1) := by decide +kernel
theorem dX7_sins_0 : decode cX7_sins 0 = .ok (.iconst 0, 1) := by decide +kernel
theorem dX7_sins_1 : decode cX7_sins 1 = .ok (.istore_n 2, 1) := by decide +kernel
theorem dX7_sins_2 : decode cX7_sins 2 = .ok (.iconst 0, 1) := by decide +kernel
theorem dX7_sins_3 : decode cX7_sins 3 = .ok (.istore_n 3, 1) := by decide +kernel
theorem dX7_sins_4 : decode cX7_sins 4 = .ok (.iload_n 3, 1) := by decide +kernel
theorem dX7_sins_5 : decode cX7_sins 5 = .ok (.aload_n 1, 1) := by decide +kernel
theorem dX7_sins_6 : decode cX7_sins 6 = .ok (.getfield 31, 3) := by decide +kernel
theorem dX7_sins_9 : decode cX7_sins 9 = .ok (.if_icmp .ge 18, 3) := by decide +kernel
theorem dX7_sins_12 : decode cX7_sins 12 = .ok (.iload_n 2, 1) := by decide +kernel
theorem dX7_sins_13 : decode cX7_sins 13 = .ok (.aload_n 0, 1) := by decide +kernel
theorem dX7_sins_14 : decode cX7_sins 14 = .ok (.getfield 18, 3) := by decide +kernel
theorem dX7_sins_17 : decode cX7_sins 17 = .ok (.iload_n 3, 1) := by decide +kernel
theorem dX7_sins_18 : decode cX7_sins 18 = .ok (.iaload, 1) := by decide +kernel
theorem dX7_sins_19 : decode cX7_sins 19 = .ok (.iadd, 1) := by decide +kernel
theorem dX7_sins_20 : decode cX7_sins 20 = .ok (.istore_n 2, 1) := by decide +kernel
theorem dX7_sins_21 : decode cX7_sins 21 = .ok (.iinc 3 1, 3) := by decide +kernel
theorem dX7_sins_24 : decode cX7_sins 24 = .ok (.goto (-20), 3) := by decide +kernel
theorem dX7_sins_27 : decode cX7_sins 27 = .ok (.iload_n 2, 1) := by decide +kernel
theorem dX7_sins_28 : decode cX7_sins 28 = .ok (.ireturn, 1) := by decide +kernel
theorem dX8_init_0 : decode cX8_init 0 = .ok (.aload_n 0, 1) := by decide +kernel
theorem dX8_init_1 : decode cX8_init 1 = .ok (.invokespecial 3, 3) := by decide +kernel
theorem dX8_init_4 : decode cX8_init 4 = .ok (.aload_n 0, 1) := by decide +kernel
theorem dX8_init_5 : decode cX8_init 5 = .ok (.sipush 700, 3) := by decide +kernel
theorem dX8_init_8 : decode cX8_init 8 = .ok (.newarray .byte, 2) := by decide +kernel
theorem dX8_init_10 : decode cX8_init 10 = .ok (.putfield 9, 3) := by decide +kernel
theorem dX8_init_13 : decode cX8_init 13 = .ok (.aload_n 0, 1) := by decide +kernel
theorem dX8_init_14 : decode cX8_init 14 = .ok (.iconst 0, 1) := by decide +kernel
theorem dX8_init_15 : decode cX8_init 15 = .ok (.putfield 15, 3) := by decide +kernel
theorem dX8_init_18 : decode cX8_init 18 = .ok (.aload_n 0, 1) := by decide +kernel
theorem dX8_init_19 : decode cX8_init 19 = .ok (.iconst 0, 1) := by decide +kernel
theorem dX8_init_20 : decode cX8_init 20 = .ok (.putfield 19, 3) := by decide +kernel
theorem dX8_init_23 : decode cX8_init 23 = .ok (.aload_n 0, 1) := by decide +kernel
theorem dX8_init_24 : decode cX8_init 24 = .ok (.iconst 0, 1) := by decide +kernel
theorem dX8_init_25 : decode cX8_init 25 = .ok (.putfield 22, 3) := by decide +kernel
theorem dX8_init_28 : decode cX8_init 28 = .ok (.aload_n 0, 1) := by decide +kernel
theorem dX8_init_29 : decode cX8_init 29 = .ok (.iconst 0, 1) := by decide +kernel
theorem dX8_init_30 : decode cX8_init 30 = .ok (.putfield 25, 3) := by decide +kernel
theorem dX8_init_33 : decode cX8_init 33 = .ok (.aload_n 0, 1) := by decide +kernel
theorem dX8_init_34 : decode cX8_init 34 = .ok (.iconst 0, 1) := by decide +kernel
theorem dX8_init_35 : decode cX8_init 35 = .ok (.putfield 28, 3) := by decide +kernel
theorem dX8_init_38 : decode cX8_init 38 = .ok (.aload_n 0, 1) := by decide +kernel
theorem dX8_init_39 : decode cX8_init 39 = .ok (.iconst 0, 1) := by decide +kernel
theorem dX8_init_40 : decode cX8_init 40 = .ok (.putfield 31, 3) := by decide +kernel
theorem dX8_init_43 : decode cX8_init 43 = .ok (.return_, 1) := by decide +kernel
theorem dX8_add_0 : decode cX8_add 0 = .ok (.bipush 24, 2) := by decide +kernel
theorem dX8_add_2 : decode cX8_add 2 = .ok (.istore_n 2, 1) := by decide +kernel
theorem dX8_add_3 : decode cX8_add 3 = .ok (.iload_n 2, 1) := by decide +kernel
theorem dX8_add_4 : decode cX8_add 4 = .ok (.ifCond .lt 44, 3) := by decide +kernel
theorem dX8_add_7 : decode cX8_add 7 = .ok (.aload_n 0, 1) := by decide +kernel
theorem dX8_add_8 : decode cX8_add 8 = .ok (.getfield 15, 3) := by decide +kernel
theorem dX8_add_11 : decode cX8_add 11 = .ok (.aload_n 0, 1) := by decide +kernel
theorem dX8_add_12 : decode cX8_add 12 = .ok (.getfield 9, 3) := by decide +kernel
theorem dX8_add_15 : decode cX8_add 15 = .ok (.arraylength, 1) := by decide +kernel
theorem dX8_add_16 : decode cX8_add 16 = .ok (.if_icmp .ge 26, 3) := by decide +kernel
theorem dX8_add_19 : decode cX8_add 19 = .ok (.aload_n 0, 1) := by decide +kernel
theorem dX8_add_20 : decode cX8_add 20 = .ok (.getfield 9, 3) := by decide +kernel
theorem dX8_add_23 : decode cX8_add 23 = .ok (.aload_n 0, 1) := by decide +kernel
theorem dX8_add_24 : decode cX8_add 24 = .ok (.getfield 15, 3) := by decide +kernel
theorem dX8_add_27 : decode cX8_add 27 = .ok (.iload_n 1, 1) := by decide +kernel
theorem dX8_add_28 : decode cX8_add 28 = .ok (.iload_n 2, 1) := by decide +kernel
theorem dX8_add_29 : decode cX8_add 29 = .ok (.ishr, 1) := by decide +kernel
theorem dX8_add_30 : decode cX8_add 30 = .ok (.i2b, 1) := by decide +kernel
theorem dX8_add_31 : decode cX8_add 31 = .ok (.bastore, 1) := by decide +kernel
theorem dX8_add_32 : decode cX8_add 32 = .ok (.aload_n 0, 1) := by decide +kernel
theorem dX8_add_33 : decode cX8_add 33 = .ok (.dup, 1) := by decide +kernel
theorem dX8_add_34 : decode cX8_add 34 = .ok (.getfield 15, 3) := by decide +kernel
theorem dX8_add_37 : decode cX8_add 37 = .ok (.iconst 1, 1) := by decide +kernel
theorem dX8_add_38 : decode cX8_add 38 = .ok (.iadd, 1) := by decide +kernel
theorem dX8_add_39 : decode cX8_add 39 = .ok (.putfield 15, 3) := by decide +kernel
theorem dX8_add_42 : decode cX8_add 42 = .ok (.iinc 2 (-8), 3) := by decide +kernel
theorem dX8_add_45 : decode cX8_add 45 = .ok (.goto (-42), 3) := by decide +kernel
theorem dX8_add_48 : decode cX8_add 48 = .ok (.return_, 1) := by decide +kernel
theorem dX8_open_0 : decode cX8_open 0 = .ok (.aload_n 0, 1) := by decide +kernel
theorem dX8_open_1 : decode cX8_open 1 = .ok (.iload_n 1, 1) := by decide +kernel
theorem dX8_open_2 : decode cX8_open 2 = .ok (.aload_n 0, 1) := by decide +kernel
theorem dX8_open_3 : decode cX8_open 3 = .ok (.getfield 15, 3) := by decide +kernel
theorem dX8_open_6 : decode cX8_open 6 = .ok (.invokestatic 34, 3) := by decide +kernel
theorem dX8_open_9 : decode cX8_open 9 = .ok (.putfield 19, 3) := by decide +kernel
theorem dX8_open_12 : decode cX8_open 12 = .ok (.aload_n 0, 1) := by decide +kernel
theorem dX8_open_13 : decode cX8_open 13 = .ok (.iconst 0, 1) := by decide +kernel
theorem dX8_open_14 : decode cX8_open 14 = .ok (.putfield 22, 3) := by decide +kernel
theorem dX8_open_17 : decode cX8_open 17 = .ok (.aload_n 0, 1) := by decide +kernel
theorem dX8_open_18 : decode cX8_open 18 = .ok (.invokevirtual 40, 3) := by decide +kernel
theorem dX8_open_21 : decode cX8_open 21 = .ok (.return_, 1) := by decide +kernel
theorem dX8_advance_0 : decode cX8_advance 0 = .ok (.aload_n 0, 1) := by decide +kernel
theorem dX8_advance_1 : decode cX8_advance 1 = .ok (.getfield 22, 3) := by decide +kernel
theorem dX8_advance_4 : decode cX8_advance 4 = .ok (.aload_n 0, 1) := by decide +kernel
theorem dX8_advance_5 : decode cX8_advance 5 = .ok (.getfield 19, 3) := by decide +kernel
theorem dX8_advance_8 : decode cX8_advance 8 = .ok (.if_icmp .ge 31, 3) := by decide +kernel
theorem dX8_advance_11 : decode cX8_advance 11 = .ok (.aload_n 0, 1) := by decide +kernel
theorem dX8_advance_12 : decode cX8_advance 12 = .ok (.aload_n 0, 1) := by decide +kernel
theorem dX8_advance_13 : decode cX8_advance 13 = .ok (.getfield 22, 3) := by decide +kernel
theorem dX8_advance_16 : decode cX8_advance 16 = .ok (.invokevirtual 43, 3) := by decide +kernel
theorem dX8_advance_19 : decode cX8_advance 19 = .ok (.invokestatic 47, 3) := by decide +kernel
theorem dX8_advance_22 : decode cX8_advance 22 = .ok (.iconst 5, 1) := by decide +kernel
theorem dX8_advance_23 : decode cX8_advance 23 = .ok (.if_icmp .ne 16, 3) := by decide +kernel
theorem dX8_advance_26 : decode cX8_advance 26 = .ok (.aload_n 0, 1) := by decide +kernel
theorem dX8_advance_27 : decode cX8_advance 27 = .ok (.dup, 1) := by decide +kernel
theorem dX8_advance_28 : decode cX8_advance 28 = .ok (.getfield 22, 3) := by decide +kernel
theorem dX8_advance_31 : decode cX8_advance 31 = .ok (.iconst 1, 1) := by decide +kernel
theorem dX8_advance_32 : decode cX8_advance 32 = .ok (.iadd, 1) := by decide +kernel
theorem dX8_advance_33 : decode cX8_advance 33 = .ok (.putfield 22, 3) := by decide +kernel
theorem dX8_advance_36 : decode cX8_advance 36 = .ok (.goto (-36), 3) := by decide +kernel
theorem dX8_advance_39 : decode cX8_advance 39 = .ok (.aload_n 0, 1) := by decide +kernel
theorem dX8_advance_40 : decode cX8_advance 40 = .ok (.aload_n 0, 1) := by decide +kernel
theorem dX8_advance_41 : decode cX8_advance 41 = .ok (.getfield 22, 3) := by decide +kernel
theorem dX8_advance_44 : decode cX8_advance 44 = .ok (.putfield 28, 3) := by decide +kernel
theorem dX8_advance_47 : decode cX8_advance 47 = .ok (.aload_n 0, 1) := by decide +kernel
theorem dX8_advance_48 : decode cX8_advance 48 = .ok (.aload_n 0, 1) := by decide +kernel
theorem dX8_advance_49 : decode cX8_advance 49 = .ok (.getfield 22, 3) := by decide +kernel
theorem dX8_advance_52 : decode cX8_advance 52 = .ok (.aload_n 0, 1) := by decide +kernel
theorem dX8_advance_53 : decode cX8_advance 53 = .ok (.getfield 19, 3) := by decide +kernel
theorem dX8_advance_56 : decode cX8_advance 56 = .ok (.if_icmp .ge 17, 3) := by decide +kernel
theorem dX8_advance_59 : decode cX8_advance 59 = .ok (.aload_n 0, 1) := by decide +kernel
theorem dX8_advance_60 : decode cX8_advance 60 = .ok (.aload_n 0, 1) := by decide +kernel
theorem dX8_advance_61 : decode cX8_advance 61 = .ok (.getfield 22, 3) := by decide +kernel
theorem dX8_advance_64 : decode cX8_advance 64 = .ok (.invokevirtual 43, 3) := by decide +kernel
theorem dX8_advance_67 : decode cX8_advance 67 = .ok (.invokestatic 47, 3) := by decide +kernel
theorem dX8_advance_70 : decode cX8_advance 70 = .ok (.goto 4, 3) := by decide +kernel
theorem dX8_advance_73 : decode cX8_advance 73 = .ok (.iconst 0, 1) := by decide +kernel
theorem dX8_advance_74 : decode cX8_advance 74 = .ok (.putfield 25, 3) := by decide +kernel
theorem dX8_advance_77 : decode cX8_advance 77 = .ok (.aload_n 0, 1) := by decide +kernel
theorem dX8_advance_78 : decode cX8_advance 78 = .ok (.getfield 25, 3) := by decide +kernel
theorem dX8_advance_81 : decode cX8_advance 81 = .ok (.iconst 1, 1) := by decide +kernel
theorem dX8_advance_82 : decode cX8_advance 82 = .ok (.if_icmp .eq 11, 3) := by decide +kernel
theorem dX8_advance_85 : decode cX8_advance 85 = .ok (.aload_n 0, 1) := by decide +kernel
theorem dX8_advance_86 : decode cX8_advance 86 = .ok (.getfield 25, 3) := by decide +kernel
theorem dX8_advance_89 : decode cX8_advance 89 = .ok (.iconst 2, 1) := by decide +kernel
theorem dX8_advance_90 : decode cX8_advance 90 = .ok (.if_icmp .ne 7, 3) := by decide +kernel
theorem dX8_advance_93 : decode cX8_advance 93 = .ok (.iconst 1, 1) := by decide +kernel
theorem dX8_advance_94 : decode cX8_advance 94 = .ok (.goto 4, 3) := by decide +kernel
theorem dX8_advance_97 : decode cX8_advance 97 = .ok (.iconst 0, 1) := by decide +kernel
theorem dX8_advance_98 : decode cX8_advance 98 = .ok (.istore_n 1, 1) := by decide +kernel
theorem dX8_advance_99 : decode cX8_advance 99 = .ok (.aload_n 0, 1) := by decide +kernel
theorem dX8_advance_100 : decode cX8_advance 100 = .ok (.iconst 0, 1) := by decide +kernel
theorem dX8_advance_101 : decode cX8_advance 101 = .ok (.putfield 31, 3) := by decide +kernel
theorem dX8_advance_104 : decode cX8_advance 104 = .ok (.aload_n 0, 1) := by decide +kernel
theorem dX8_advance_105 : decode cX8_advance 105 = .ok (.getfield 22, 3) := by decide +kernel
theorem dX8_advance_108 : decode cX8_advance 108 = .ok (.aload_n 0, 1) := by decide +kernel
theorem dX8_advance_109 : decode cX8_advance 109 = .ok (.getfield 19, 3) := by decide +kernel
theorem dX8_advance_112 : decode cX8_advance 112 = .ok (.if_icmp .ge 78, 3) := by decide +kernel
theorem dX8_advance_115 : decode cX8_advance 115 = .ok (.aload_n 0, 1) := by decide +kernel
theorem dX8_advance_116 : decode cX8_advance 116 = .ok (.getfield 22, 3) := by decide +kernel
theorem dX8_advance_119 : decode cX8_advance 119 = .ok (.aload_n 0, 1) := by decide +kernel
theorem dX8_advance_120 : decode cX8_advance 120 = .ok (.getfield 28, 3) := by decide +kernel
theorem dX8_advance_123 : decode cX8_advance 123 = .ok (.if_icmp .eq 25, 3) := by decide +kernel
theorem dX8_advance_126 : decode cX8_advance 126 = .ok (.iload_n 1, 1) := by decide +kernel
theorem dX8_advance_127 : decode cX8_advance 127 = .ok (.ifCond .eq 63, 3) := by decide +kernel
theorem dX8_advance_130 : decode cX8_advance 130 = .ok (.aload_n 0, 1) := by decide +kernel
theorem dX8_advance_131 : decode cX8_advance 131 = .ok (.aload_n 0, 1) := by decide +kernel
theorem dX8_advance_132 : decode cX8_advance 132 = .ok (.getfield 22, 3) := by decide +kernel
theorem dX8_advance_135 : decode cX8_advance 135 = .ok (.invokevirtual 43, 3) := by decide +kernel
theorem dX8_advance_138 : decode cX8_advance 138 = .ok (.invokestatic 47, 3) := by decide +kernel
theorem dX8_advance_141 : decode cX8_advance 141 = .ok (.aload_n 0, 1) := by decide +kernel
theorem dX8_advance_142 : decode cX8_advance 142 = .ok (.getfield 25, 3) := by decide +kernel
theorem dX8_advance_145 : decode cX8_advance 145 = .ok (.if_icmp .ne 45, 3) := by decide +kernel
theorem dX8_advance_148 : decode cX8_advance 148 = .ok (.aload_n 0, 1) := by decide +kernel
theorem dX8_advance_149 : decode cX8_advance 149 = .ok (.sipush 9999, 3) := by decide +kernel
theorem dX8_advance_152 : decode cX8_advance 152 = .ok (.aload_n 0, 1) := by decide +kernel
theorem dX8_advance_153 : decode cX8_advance 153 = .ok (.getfield 31, 3) := by decide +kernel
theorem dX8_advance_156 : decode cX8_advance 156 = .ok (.invokestatic 34, 3) := by decide +kernel
theorem dX8_advance_159 : decode cX8_advance 159 = .ok (.bipush 10, 2) := by decide +kernel
theorem dX8_advance_161 : decode cX8_advance 161 = .ok (.imul, 1) := by decide +kernel
theorem dX8_advance_162 : decode cX8_advance 162 = .ok (.aload_n 0, 1) := by decide +kernel
theorem dX8_advance_163 : decode cX8_advance 163 = .ok (.aload_n 0, 1) := by decide +kernel
theorem dX8_advance_164 : decode cX8_advance 164 = .ok (.getfield 22, 3) := by decide +kernel
theorem dX8_advance_167 : decode cX8_advance 167 = .ok (.invokevirtual 43, 3) := by decide +kernel
theorem dX8_advance_170 : decode cX8_advance 170 = .ok (.iadd, 1) := by decide +kernel
theorem dX8_advance_171 : decode cX8_advance 171 = .ok (.bipush 48, 2) := by decide +kernel
theorem dX8_advance_173 : decode cX8_advance 173 = .ok (.isub, 1) := by decide +kernel
theorem dX8_advance_174 : decode cX8_advance 174 = .ok (.putfield 31, 3) := by decide +kernel
theorem dX8_advance_177 : decode cX8_advance 177 = .ok (.aload_n 0, 1) := by decide +kernel
theorem dX8_advance_178 : decode cX8_advance 178 = .ok (.dup, 1) := by decide +kernel
theorem dX8_advance_179 : decode cX8_advance 179 = .ok (.getfield 22, 3) := by decide +kernel
theorem dX8_advance_182 : decode cX8_advance 182 = .ok (.iconst 1, 1) := by decide +kernel
theorem dX8_advance_183 : decode cX8_advance 183 = .ok (.iadd, 1) := by decide +kernel
theorem dX8_advance_184 : decode cX8_advance 184 = .ok (.putfield 22, 3) := by decide +kernel
theorem dX8_advance_187 : decode cX8_advance 187 = .ok (.goto (-83), 3) := by decide +kernel
theorem dX8_advance_190 : decode cX8_advance 190 = .ok (.aload_n 0, 1) := by decide +kernel
theorem dX8_advance_191 : decode cX8_advance 191 = .ok (.getfield 22, 3) := by decide +kernel
theorem dX8_advance_194 : decode cX8_advance 194 = .ok (.aload_n 0, 1) := by decide +kernel
theorem dX8_advance_195 : decode cX8_advance 195 = .ok (.getfield 28, 3) := by decide +kernel
theorem dX8_advance_198 : decode cX8_advance 198 = .ok (.isub, 1) := by decide +kernel
theorem dX8_advance_199 : decode cX8_advance 199 = .ok (.iconst 4, 1) := by decide +kernel
theorem dX8_advance_200 : decode cX8_advance 200 = .ok (.if_icmp .le 10, 3) := by decide +kernel
theorem dX8_advance_203 : decode cX8_advance 203 = .ok (.aload_n 0, 1) := by decide +kernel
theorem dX8_advance_204 : decode cX8_advance 204 = .ok (.sipush 10000, 3) := by decide +kernel
theorem dX8_advance_207 : decode cX8_advance 207 = .ok (.putfield 31, 3) := by decide +kernel
theorem dX8_advance_210 : decode cX8_advance 210 = .ok (.return_, 1) := by decide +kernel
theorem dX8_isAtWord_0 : decode cX8_isAtWord 0 = .ok (.aload_n 0, 1) := by decide +kernel
theorem dX8_isAtWord_1 : decode cX8_isAtWord 1 = .ok (.getfield 25, 3) := by decide +kernel
theorem dX8_isAtWord_4 : decode cX8_isAtWord 4 = .ok (.iconst 1, 1) := by decide +kernel
theorem dX8_isAtWord_5 : decode cX8_isAtWord 5 = .ok (.if_icmp .ne 19, 3) := by decide +kernel
theorem dX8_isAtWord_8 : decode cX8_isAtWord 8 = .ok (.aload_n 0, 1) := by decide +kernel
theorem dX8_isAtWord_9 : decode cX8_isAtWord 9 = .ok (.getfield 22, 3) := by decide +kernel
theorem dX8_isAtWord_12 : decode cX8_isAtWord 12 = .ok (.aload_n 0, 1) := by decide +kernel
theorem dX8_isAtWord_13 : decode cX8_isAtWord 13 = .ok (.getfield 28, 3) := by decide +kernel
theorem dX8_isAtWord_16 : decode cX8_isAtWord 16 = .ok (.isub, 1) := by decide +kernel
theorem dX8_isAtWord_17 : decode cX8_isAtWord 17 = .ok (.aload_n 1, 1) := by decide +kernel
theorem dX8_isAtWord_18 : decode cX8_isAtWord 18 = .ok (.invokevirtual 50, 3) := by decide +kernel
theorem dX8_isAtWord_21 : decode cX8_isAtWord 21 = .ok (.if_icmp .eq 5, 3) := by decide +kernel
theorem dX8_isAtWord_24 : decode cX8_isAtWord 24 = .ok (.iconst 0, 1) := by decide +kernel
theorem dX8_isAtWord_25 : decode cX8_isAtWord 25 = .ok (.ireturn, 1) := by decide +kernel
theorem dX8_isAtWord_26 : decode cX8_isAtWord 26 = .ok (.iconst 0, 1) := by decide +kernel
theorem dX8_isAtWord_27 : decode cX8_isAtWord 27 = .ok (.istore_n 2, 1) := by decide +kernel
theorem dX8_isAtWord_28 : decode cX8_isAtWord 28 = .ok (.iload_n 2, 1) := by decide +kernel
theorem dX8_isAtWord_29 : decode cX8_isAtWord 29 = .ok (.aload_n 1, 1) := by decide +kernel
theorem dX8_isAtWord_30 : decode cX8_isAtWord 30 = .ok (.invokevirtual 50, 3) := by decide +kernel
theorem dX8_isAtWord_33 : decode cX8_isAtWord 33 = .ok (.if_icmp .ge 29, 3) := by decide +kernel
theorem dX8_isAtWord_36 : decode cX8_isAtWord 36 = .ok (.aload_n 0, 1) := by decide +kernel
theorem dX8_isAtWord_37 : decode cX8_isAtWord 37 = .ok (.aload_n 0, 1) := by decide +kernel
theorem dX8_isAtWord_38 : decode cX8_isAtWord 38 = .ok (.getfield 28, 3) := by decide +kernel
theorem dX8_isAtWord_41 : decode cX8_isAtWord 41 = .ok (.iload_n 2, 1) := by decide +kernel
theorem dX8_isAtWord_42 : decode cX8_isAtWord 42 = .ok (.iadd, 1) := by decide +kernel
theorem dX8_isAtWord_43 : decode cX8_isAtWord 43 = .ok (.invokevirtual 43, 3) := by decide +kernel
theorem dX8_isAtWord_46 : decode cX8_isAtWord 46 = .ok (.aload_n 1, 1) := by decide +kernel
theorem dX8_isAtWord_47 : decode cX8_isAtWord 47 = .ok (.iload_n 2, 1) := by decide +kernel
theorem dX8_isAtWord_48 : decode cX8_isAtWord 48 = .ok (.invokevirtual 55, 3) := by decide +kernel
theorem dX8_isAtWord_51 : decode cX8_isAtWord 51 = .ok (.if_icmp .eq 5, 3) := by decide +kernel
theorem dX8_isAtWord_54 : decode cX8_isAtWord 54 = .ok (.iconst 0, 1) := by decide +kernel
theorem dX8_isAtWord_55 : decode cX8_isAtWord 55 = .ok (.ireturn, 1) := by decide +kernel
theorem dX8_isAtWord_56 : decode cX8_isAtWord 56 = .ok (.iinc 2 1, 3) := by decide +kernel
theorem dX8_isAtWord_59 : decode cX8_isAtWord 59 = .ok (.goto (-31), 3) := by decide +kernel
theorem dX8_isAtWord_62 : decode cX8_isAtWord 62 = .ok (.iconst 1, 1) := by decide +kernel
theorem dX8_isAtWord_63 : decode cX8_isAtWord 63 = .ok (.ireturn, 1) := by decide +kernel
theorem dX8_isAtSign_0 : decode cX8_isAtSign 0 = .ok (.aload_n 0, 1) := by decide +kernel
theorem dX8_isAtSign_1 : decode cX8_isAtSign 1 = .ok (.getfield 25, 3) := by decide +kernel
theorem dX8_isAtSign_4 : decode cX8_isAtSign 4 = .ok (.iconst 3, 1) := by decide +kernel
theorem dX8_isAtSign_5 : decode cX8_isAtSign 5 = .ok (.if_icmp .ne 19, 3) := by decide +kernel
theorem dX8_isAtSign_8 : decode cX8_isAtSign 8 = .ok (.aload_n 0, 1) := by decide +kernel
theorem dX8_isAtSign_9 : decode cX8_isAtSign 9 = .ok (.aload_n 0, 1) := by decide +kernel
theorem dX8_isAtSign_10 : decode cX8_isAtSign 10 = .ok (.getfield 28, 3) := by decide +kernel
theorem dX8_isAtSign_13 : decode cX8_isAtSign 13 = .ok (.invokevirtual 43, 3) := by decide +kernel
theorem dX8_isAtSign_16 : decode cX8_isAtSign 16 = .ok (.iload_n 1, 1) := by decide +kernel
theorem dX8_isAtSign_17 : decode cX8_isAtSign 17 = .ok (.if_icmp .ne 7, 3) := by decide +kernel
theorem dX8_isAtSign_20 : decode cX8_isAtSign 20 = .ok (.iconst 1, 1) := by decide +kernel
theorem dX8_isAtSign_21 : decode cX8_isAtSign 21 = .ok (.goto 4, 3) := by decide +kernel
theorem dX8_isAtSign_24 : decode cX8_isAtSign 24 = .ok (.iconst 0, 1) := by decide +kernel
theorem dX8_isAtSign_25 : decode cX8_isAtSign 25 = .ok (.ireturn, 1) := by decide +kernel
theorem dX8_at_0 : decode cX8_at 0 = .ok (.iload_n 1, 1) := by decide +kernel
theorem dX8_at_1 : decode cX8_at 1 = .ok (.ifCond .lt 25, 3) := by decide +kernel
theorem dX8_at_4 : decode cX8_at 4 = .ok (.iload_n 1, 1) := by decide +kernel
theorem dX8_at_5 : decode cX8_at 5 = .ok (.aload_n 0, 1) := by decide +kernel
theorem dX8_at_6 : decode cX8_at 6 = .ok (.getfield 9, 3) := by decide +kernel
theorem dX8_at_9 : decode cX8_at 9 = .ok (.arraylength, 1) := by decide +kernel
theorem dX8_at_10 : decode cX8_at 10 = .ok (.if_icmp .ge 16, 3) := by decide +kernel
theorem dX8_at_13 : decode cX8_at 13 = .ok (.aload_n 0, 1) := by decide +kernel
theorem dX8_at_14 : decode cX8_at 14 = .ok (.getfield 9, 3) := by decide +kernel
theorem dX8_at_17 : decode cX8_at 17 = .ok (.iload_n 1, 1) := by decide +kernel
theorem dX8_at_18 : decode cX8_at 18 = .ok (.baload, 1) := by decide +kernel
theorem dX8_at_19 : decode cX8_at 19 = .ok (.sipush 255, 3) := by decide +kernel
theorem dX8_at_22 : decode cX8_at 22 = .ok (.iand, 1) := by decide +kernel
theorem dX8_at_23 : decode cX8_at 23 = .ok (.goto 4, 3) := by decide +kernel
theorem dX8_at_26 : decode cX8_at 26 = .ok (.iconst 0, 1) := by decide +kernel
theorem dX8_at_27 : decode cX8_at 27 = .ok (.ireturn, 1) := by decide +kernel
theorem dX8_kindOf_0 : decode cX8_kindOf 0 = .ok (.iload_n 0, 1) := by decide +kernel
theorem dX8_kindOf_1 : decode cX8_kindOf 1 = .ok (.bipush 32, 2) := by decide +kernel
theorem dX8_kindOf_3 : decode cX8_kindOf 3 = .ok (.if_icmp .eq 9, 3) := by decide +kernel
theorem dX8_kindOf_6 : decode cX8_kindOf 6 = .ok (.iload_n 0, 1) := by decide +kernel
theorem dX8_kindOf_7 : decode cX8_kindOf 7 = .ok (.bipush 10, 2) := by decide +kernel
theorem dX8_kindOf_9 : decode cX8_kindOf 9 = .ok (.if_icmp .ne 5, 3) := by decide +kernel
theorem dX8_kindOf_12 : decode cX8_kindOf 12 = .ok (.iconst 5, 1) := by decide +kernel
theorem dX8_kindOf_13 : decode cX8_kindOf 13 = .ok (.ireturn, 1) := by decide +kernel
theorem dX8_kindOf_14 : decode cX8_kindOf 14 = .ok (.iload_n 0, 1) := by decide +kernel
theorem dX8_kindOf_15 : decode cX8_kindOf 15 = .ok (.bipush 97, 2) := by decide +kernel
theorem dX8_kindOf_17 : decode cX8_kindOf 17 = .ok (.if_icmp .lt 11, 3) := by decide +kernel
theorem dX8_kindOf_20 : decode cX8_kindOf 20 = .ok (.iload_n 0, 1) := by decide +kernel
theorem dX8_kindOf_21 : decode cX8_kindOf 21 = .ok (.bipush 122, 2) := by decide +kernel
theorem dX8_kindOf_23 : decode cX8_kindOf 23 = .ok (.if_icmp .gt 5, 3) := by decide +kernel
theorem dX8_kindOf_26 : decode cX8_kindOf 26 = .ok (.iconst 1, 1) := by decide +kernel
theorem dX8_kindOf_27 : decode cX8_kindOf 27 = .ok (.ireturn, 1) := by decide +kernel
theorem dX8_kindOf_28 : decode cX8_kindOf 28 = .ok (.iload_n 0, 1) := by decide +kernel
theorem dX8_kindOf_29 : decode cX8_kindOf 29 = .ok (.bipush 48, 2) := by decide +kernel
theorem dX8_kindOf_31 : decode cX8_kindOf 31 = .ok (.if_icmp .lt 11, 3) := by decide +kernel
theorem dX8_kindOf_34 : decode cX8_kindOf 34 = .ok (.iload_n 0, 1) := by decide +kernel
theorem dX8_kindOf_35 : decode cX8_kindOf 35 = .ok (.bipush 57, 2) := by decide +kernel
theorem dX8_kindOf_37 : decode cX8_kindOf 37 = .ok (.if_icmp .gt 5, 3) := by decide +kernel
theorem dX8_kindOf_40 : decode cX8_kindOf 40 = .ok (.iconst 2, 1) := by decide +kernel
theorem dX8_kindOf_41 : decode cX8_kindOf 41 = .ok (.ireturn, 1) := by decide +kernel
theorem dX8_kindOf_42 : decode cX8_kindOf 42 = .ok (.ldc 59, 2) := by decide +kernel
theorem dX8_kindOf_44 : decode cX8_kindOf 44 = .ok (.iload_n 0, 1) := by decide +kernel
theorem dX8_kindOf_45 : decode cX8_kindOf 45 = .ok (.i2c, 1) := by decide +kernel
theorem dX8_kindOf_46 : decode cX8_kindOf 46 = .ok (.invokevirtual 61, 3) := by decide +kernel
theorem dX8_kindOf_49 : decode cX8_kindOf 49 = .ok (.ifCond .lt 7, 3) := by decide +kernel
theorem dX8_kindOf_52 : decode cX8_kindOf 52 = .ok (.iconst 3, 1) := by decide +kernel
theorem dX8_kindOf_53 : decode cX8_kindOf 53 = .ok (.goto 4, 3) := by decide +kernel
theorem dX8_kindOf_56 : decode cX8_kindOf 56 = .ok (.iconst 4, 1) := by decide +kernel
theorem dX8_kindOf_57 : decode cX8_kindOf 57 = .ok (.ireturn, 1) := by decide +kernel
theorem dX9_init_0 : decode cX9_init 0 = .ok (.aload_n 0, 1) := by decide +kernel
theorem dX9_init_1 : decode cX9_init 1 = .ok (.invokespecial 3, 3) := by decide +kernel
theorem dX9_init_4 : decode cX9_init 4 = .ok (.aload_n 0, 1) := by decide +kernel
theorem dX9_init_5 : decode cX9_init 5 = .ok (.iconst 0, 1) := by decide +kernel
theorem dX9_init_6 : decode cX9_init 6 = .ok (.putfield 9, 3) := by decide +kernel
theorem dX9_init_9 : decode cX9_init 9 = .ok (.aload_n 0, 1) := by decide +kernel
theorem dX9_init_10 : decode cX9_init 10 = .ok (.bipush 8, 2) := by decide +kernel
theorem dX9_init_12 : decode cX9_init 12 = .ok (.newarray .int, 2) := by decide +kernel
theorem dX9_init_14 : decode cX9_init 14 = .ok (.putfield 15, 3) := by decide +kernel
theorem dX9_init_17 : decode cX9_init 17 = .ok (.aload_n 0, 1) := by decide +kernel
theorem dX9_init_18 : decode cX9_init 18 = .ok (.bipush 8, 2) := by decide +kernel
theorem dX9_init_20 : decode cX9_init 20 = .ok (.newarray .int, 2) := by decide +kernel
theorem dX9_init_22 : decode cX9_init 22 = .ok (.putfield 19, 3) := by decide +kernel
theorem dX9_init_25 : decode cX9_init 25 = .ok (.aload_n 0, 1) := by decide +kernel
theorem dX9_init_26 : decode cX9_init 26 = .ok (.bipush 8, 2) := by decide +kernel
theorem dX9_init_28 : decode cX9_init 28 = .ok (.newarray .int, 2) := by decide +kernel
theorem dX9_init_30 : decode cX9_init 30 = .ok (.putfield 22, 3) := by decide +kernel
theorem dX9_init_33 : decode cX9_init 33 = .ok (.aload_n 0, 1) := by decide +kernel
theorem dX9_init_34 : decode cX9_init 34 = .ok (.bipush 8, 2) := by decide +kernel
theorem dX9_init_36 : decode cX9_init 36 = .ok (.newarray .boolean, 2) := by decide +kernel
theorem dX9_init_38 : decode cX9_init 38 = .ok (.putfield 25, 3) := by decide +kernel
theorem dX9_init_41 : decode cX9_init 41 = .ok (.aload_n 0, 1) := by decide +kernel
theorem dX9_init_42 : decode cX9_init 42 = .ok (.iconst 0, 1) := by decide +kernel
theorem dX9_init_43 : decode cX9_init 43 = .ok (.putfield 29, 3) := by decide +kernel
theorem dX9_init_46 : decode cX9_init 46 = .ok (.aload_n 0, 1) := by decide +kernel
theorem dX9_init_47 : decode cX9_init 47 = .ok (.bipush 6, 2) := by decide +kernel
theorem dX9_init_49 : decode cX9_init 49 = .ok (.newarray .int, 2) := by decide +kernel
theorem dX9_init_51 : decode cX9_init 51 = .ok (.putfield 32, 3) := by decide +kernel
theorem dX9_init_54 : decode cX9_init 54 = .ok (.aload_n 0, 1) := by decide +kernel
theorem dX9_init_55 : decode cX9_init 55 = .ok (.bipush 6, 2) := by decide +kernel
theorem dX9_init_57 : decode cX9_init 57 = .ok (.newarray .int, 2) := by decide +kernel
theorem dX9_init_59 : decode cX9_init 59 = .ok (.putfield 35, 3) := by decide +kernel
theorem dX9_init_62 : decode cX9_init 62 = .ok (.aload_n 0, 1) := by decide +kernel
theorem dX9_init_63 : decode cX9_init 63 = .ok (.bipush 6, 2) := by decide +kernel
theorem dX9_init_65 : decode cX9_init 65 = .ok (.newarray .int, 2) := by decide +kernel
theorem dX9_init_67 : decode cX9_init 67 = .ok (.putfield 38, 3) := by decide +kernel
theorem dX9_init_70 : decode cX9_init 70 = .ok (.aload_n 0, 1) := by decide +kernel
theorem dX9_init_71 : decode cX9_init 71 = .ok (.bipush 6, 2) := by decide +kernel
theorem dX9_init_73 : decode cX9_init 73 = .ok (.newarray .int, 2) := by decide +kernel
theorem dX9_init_75 : decode cX9_init 75 = .ok (.putfield 41, 3) := by decide +kernel
theorem dX9_init_78 : decode cX9_init 78 = .ok (.aload_n 0, 1) := by decide +kernel
theorem dX9_init_79 : decode cX9_init 79 = .ok (.iconst 0, 1) := by decide +kernel
theorem dX9_init_80 : decode cX9_init 80 = .ok (.putfield 44, 3) := by decide +kernel
theorem dX9_init_83 : decode cX9_init 83 = .ok (.aload_n 0, 1) := by decide +kernel
theorem dX9_init_84 : decode cX9_init 84 = .ok (.bipush 8, 2) := by decide +kernel
theorem dX9_init_86 : decode cX9_init 86 = .ok (.newarray .int, 2) := by decide +kernel
theorem dX9_init_88 : decode cX9_init 88 = .ok (.putfield 47, 3) := by decide +kernel
theorem dX9_init_91 : decode cX9_init 91 = .ok (.aload_n 0, 1) := by decide +kernel
theorem dX9_init_92 : decode cX9_init 92 = .ok (.iconst 0, 1) := by decide +kernel
theorem dX9_init_93 : decode cX9_init 93 = .ok (.putfield 50, 3) := by decide +kernel
theorem dX9_init_96 : decode cX9_init 96 = .ok (.aload_n 0, 1) := by decide +kernel
theorem dX9_init_97 : decode cX9_init 97 = .ok (.new 53, 3) := by decide +kernel
theorem dX9_init_100 : decode cX9_init 100 = .ok (.dup, 1) := by decide +kernel
theorem dX9_init_101 : decode cX9_init 101 = .ok (.iconst 0, 1) := by decide +kernel
theorem dX9_init_102 : decode cX9_init 102 = .ok (.invokespecial 55, 3) := by decide +kernel
theorem dX9_init_105 : decode cX9_init 105 = .ok (.putfield 58, 3) := by decide +kernel
theorem dX9_init_108 : decode cX9_init 108 = .ok (.aload_n 0, 1) := by decide +kernel
theorem dX9_init_109 : decode cX9_init 109 = .ok (.new 53, 3) := by decide +kernel
theorem dX9_init_112 : decode cX9_init 112 = .ok (.dup, 1) := by decide +kernel
theorem dX9_init_113 : decode cX9_init 113 = .ok (.iconst 1, 1) := by decide +kernel
theorem dX9_init_114 : decode cX9_init 114 = .ok (.invokespecial 55, 3) := by decide +kernel
theorem dX9_init_117 : decode cX9_init 117 = .ok (.putfield 62, 3) := by decide +kernel
theorem dX9_init_120 : decode cX9_init 120 = .ok (.return_, 1) := by decide +kernel
theorem dX9_clear_0 : decode cX9_clear 0 = .ok (.aload_n 0, 1) := by decide +kernel
theorem dX9_clear_1 : decode cX9_clear 1 = .ok (.iconst 0, 1) := by decide +kernel
theorem dX9_clear_2 : decode cX9_clear 2 = .ok (.putfield 9, 3) := by decide +kernel
theorem dX9_clear_5 : decode cX9_clear 5 = .ok (.aload_n 0, 1) := by decide +kernel
theorem dX9_clear_6 : decode cX9_clear 6 = .ok (.iconst 0, 1) := by decide +kernel
theorem dX9_clear_7 : decode cX9_clear 7 = .ok (.putfield 29, 3) := by decide +kernel
theorem dX9_clear_10 : decode cX9_clear 10 = .ok (.aload_n 0, 1) := by decide +kernel
theorem dX9_clear_11 : decode cX9_clear 11 = .ok (.iconst 0, 1) := by decide +kernel
theorem dX9_clear_12 : decode cX9_clear 12 = .ok (.putfield 44, 3) := by decide +kernel
theorem dX9_clear_15 : decode cX9_clear 15 = .ok (.aload_n 0, 1) := by decide +kernel
theorem dX9_clear_16 : decode cX9_clear 16 = .ok (.iconst 0, 1) := by decide +kernel
theorem dX9_clear_17 : decode cX9_clear 17 = .ok (.putfield 50, 3) := by decide +kernel
theorem dX9_clear_20 : decode cX9_clear 20 = .ok (.aload_n 0, 1) := by decide +kernel
theorem dX9_clear_21 : decode cX9_clear 21 = .ok (.getfield 58, 3) := by decide +kernel
theorem dX9_clear_24 : decode cX9_clear 24 = .ok (.invokevirtual 65, 3) := by decide +kernel
theorem dX9_clear_27 : decode cX9_clear 27 = .ok (.aload_n 0, 1) := by decide +kernel
theorem dX9_clear_28 : decode cX9_clear 28 = .ok (.getfield 62, 3) := by decide +kernel
theorem dX9_clear_31 : decode cX9_clear 31 = .ok (.invokevirtual 65, 3) := by decide +kernel
theorem dX9_clear_34 : decode cX9_clear 34 = .ok (.return_, 1) := by decide +kernel
theorem dX9_isGrotto_0 : decode cX9_isGrotto 0 = .ok (.iload_n 1, 1) := by decide +kernel
theorem dX9_isGrotto_1 : decode cX9_isGrotto 1 = .ok (.ifCond .lt 15, 3) := by decide +kernel
theorem dX9_isGrotto_4 : decode cX9_isGrotto 4 = .ok (.iload_n 1, 1) := by decide +kernel
theorem dX9_isGrotto_5 : decode cX9_isGrotto 5 = .ok (.aload_n 0, 1) := by decide +kernel
theorem dX9_isGrotto_6 : decode cX9_isGrotto 6 = .ok (.getfield 9, 3) := by decide +kernel
theorem dX9_isGrotto_9 : decode cX9_isGrotto 9 = .ok (.if_icmp .ge 7, 3) := by decide +kernel
theorem dX9_isGrotto_12 : decode cX9_isGrotto 12 = .ok (.iconst 1, 1) := by decide +kernel
theorem dX9_isGrotto_13 : decode cX9_isGrotto 13 = .ok (.goto 4, 3) := by decide +kernel
theorem dX9_isGrotto_16 : decode cX9_isGrotto 16 = .ok (.iconst 0, 1) := by decide +kernel
theorem dX9_isGrotto_17 : decode cX9_isGrotto 17 = .ok (.ireturn, 1) := by decide +kernel
theorem dX9_isGuild_0 : decode cX9_isGuild 0 = .ok (.iload_n 1, 1) := by decide +kernel
theorem dX9_isGuild_1 : decode cX9_isGuild 1 = .ok (.ifCond .lt 15, 3) := by decide +kernel
theorem dX9_isGuild_4 : decode cX9_isGuild 4 = .ok (.iload_n 1, 1) := by decide +kernel
theorem dX9_isGuild_5 : decode cX9_isGuild 5 = .ok (.aload_n 0, 1) := by decide +kernel
theorem dX9_isGuild_6 : decode cX9_isGuild 6 = .ok (.getfield 29, 3) := by decide +kernel
theorem dX9_isGuild_9 : decode cX9_isGuild 9 = .ok (.if_icmp .ge 7, 3) := by decide +kernel
theorem dX9_isGuild_12 : decode cX9_isGuild 12 = .ok (.iconst 1, 1) := by decide +kernel
theorem dX9_isGuild_13 : decode cX9_isGuild 13 = .ok (.goto 4, 3) := by decide +kernel
theorem dX9_isGuild_16 : decode cX9_isGuild 16 = .ok (.iconst 0, 1) := by decide +kernel
theorem dX9_isGuild_17 : decode cX9_isGuild 17 = .ok (.ireturn, 1) := by decide +kernel
theorem dX9_isBoundTold_0 : decode cX9_isBoundTold 0 = .ok (.aload_n 0, 1) := by decide +kernel
theorem dX9_isBoundTold_1 : decode cX9_isBoundTold 1 = .ok (.getfield 50, 3) := by decide +kernel
theorem dX9_isBoundTold_4 : decode cX9_isBoundTold 4 = .ok (.ifCond .eq 7, 3) := by decide +kernel
theorem dX9_isBoundTold_7 : decode cX9_isBoundTold 7 = .ok (.iconst 1, 1) := by decide +kernel
theorem dX9_isBoundTold_8 : decode cX9_isBoundTold 8 = .ok (.goto 4, 3) := by decide +kernel
theorem dX9_isBoundTold_11 : decode cX9_isBoundTold 11 = .ok (.iconst 0, 1) := by decide +kernel
theorem dX9_isBoundTold_12 : decode cX9_isBoundTold 12 = .ok (.ireturn, 1) := by decide +kernel
theorem dX9_mostSin_0 : decode cX9_mostSin 0 = .ok (.aload_n 0, 1) := by decide +kernel
theorem dX9_mostSin_1 : decode cX9_mostSin 1 = .ok (.invokevirtual 68, 3) := by decide +kernel
theorem dX9_mostSin_4 : decode cX9_mostSin 4 = .ok (.ifCond .eq 10, 3) := by decide +kernel
theorem dX9_mostSin_7 : decode cX9_mostSin 7 = .ok (.aload_n 0, 1) := by decide +kernel
theorem dX9_mostSin_8 : decode cX9_mostSin 8 = .ok (.getfield 50, 3) := by decide +kernel
theorem dX9_mostSin_11 : decode cX9_mostSin 11 = .ok (.goto 5, 3) := by decide +kernel
theorem dX9_mostSin_14 : decode cX9_mostSin 14 = .ok (.bipush 70, 2) := by decide +kernel
theorem dX9_mostSin_16 : decode cX9_mostSin 16 = .ok (.ireturn, 1) := by decide +kernel
theorem dX9_wetOf_0 : decode cX9_wetOf 0 = .ok (.aload_n 0, 1) := by decide +kernel
theorem dX9_wetOf_1 : decode cX9_wetOf 1 = .ok (.getfield 44, 3) := by decide +kernel
theorem dX9_wetOf_4 : decode cX9_wetOf 4 = .ok (.iconst 1, 1) := by decide +kernel
theorem dX9_wetOf_5 : decode cX9_wetOf 5 = .ok (.if_icmp .lt 7, 3) := by decide +kernel
theorem dX9_wetOf_8 : decode cX9_wetOf 8 = .ok (.iload_n 1, 1) := by decide +kernel
theorem dX9_wetOf_9 : decode cX9_wetOf 9 = .ok (.ifCond .ge 7, 3) := by decide +kernel
theorem dX9_wetOf_12 : decode cX9_wetOf 12 = .ok (.iconst 5, 1) := by decide +kernel
theorem dX9_wetOf_13 : decode cX9_wetOf 13 = .ok (.goto 14, 3) := by decide +kernel
theorem dX9_wetOf_16 : decode cX9_wetOf 16 = .ok (.aload_n 0, 1) := by decide +kernel
theorem dX9_wetOf_17 : decode cX9_wetOf 17 = .ok (.getfield 47, 3) := by decide +kernel
theorem dX9_wetOf_20 : decode cX9_wetOf 20 = .ok (.iload_n 1, 1) := by decide +kernel
theorem dX9_wetOf_21 : decode cX9_wetOf 21 = .ok (.aload_n 0, 1) := by decide +kernel
theorem dX9_wetOf_22 : decode cX9_wetOf 22 = .ok (.getfield 44, 3) := by decide +kernel
theorem dX9_wetOf_25 : decode cX9_wetOf 25 = .ok (.irem, 1) := by decide +kernel
theorem dX9_wetOf_26 : decode cX9_wetOf 26 = .ok (.iaload, 1) := by decide +kernel
theorem dX9_wetOf_27 : decode cX9_wetOf 27 = .ok (.ireturn, 1) := by decide +kernel
theorem dX9_comesRound_0 : decode cX9_comesRound 0 = .ok (.aload_n 0, 1) := by decide +kernel
theorem dX9_comesRound_1 : decode cX9_comesRound 1 = .ok (.iload_n 1, 1) := by decide +kernel
theorem dX9_comesRound_2 : decode cX9_comesRound 2 = .ok (.invokevirtual 72, 3) := by decide +kernel
theorem dX9_comesRound_5 : decode cX9_comesRound 5 = .ok (.ifCond .eq 35, 3) := by decide +kernel
theorem dX9_comesRound_8 : decode cX9_comesRound 8 = .ok (.aload_n 0, 1) := by decide +kernel
theorem dX9_comesRound_9 : decode cX9_comesRound 9 = .ok (.getfield 15, 3) := by decide +kernel
theorem dX9_comesRound_12 : decode cX9_comesRound 12 = .ok (.iload_n 1, 1) := by decide +kernel
theorem dX9_comesRound_13 : decode cX9_comesRound 13 = .ok (.iaload, 1) := by decide +kernel
theorem dX9_comesRound_14 : decode cX9_comesRound 14 = .ok (.iconst 1, 1) := by decide +kernel
theorem dX9_comesRound_15 : decode cX9_comesRound 15 = .ok (.if_icmp .lt 25, 3) := by decide +kernel
theorem dX9_comesRound_18 : decode cX9_comesRound 18 = .ok (.iload_n 2, 1) := by decide +kernel
theorem dX9_comesRound_19 : decode cX9_comesRound 19 = .ok (.aload_n 0, 1) := by decide +kernel
theorem dX9_comesRound_20 : decode cX9_comesRound 20 = .ok (.getfield 19, 3) := by decide +kernel
theorem dX9_comesRound_23 : decode cX9_comesRound 23 = .ok (.iload_n 1, 1) := by decide +kernel
theorem dX9_comesRound_24 : decode cX9_comesRound 24 = .ok (.iaload, 1) := by decide +kernel
theorem dX9_comesRound_25 : decode cX9_comesRound 25 = .ok (.iadd, 1) := by decide +kernel
theorem dX9_comesRound_26 : decode cX9_comesRound 26 = .ok (.aload_n 0, 1) := by decide +kernel
theorem dX9_comesRound_27 : decode cX9_comesRound 27 = .ok (.getfield 15, 3) := by decide +kernel
theorem dX9_comesRound_30 : decode cX9_comesRound 30 = .ok (.iload_n 1, 1) := by decide +kernel
theorem dX9_comesRound_31 : decode cX9_comesRound 31 = .ok (.iaload, 1) := by decide +kernel
theorem dX9_comesRound_32 : decode cX9_comesRound 32 = .ok (.irem, 1) := by decide +kernel
theorem dX9_comesRound_33 : decode cX9_comesRound 33 = .ok (.ifCond .ne 7, 3) := by decide +kernel
theorem dX9_comesRound_36 : decode cX9_comesRound 36 = .ok (.iconst 1, 1) := by decide +kernel
theorem dX9_comesRound_37 : decode cX9_comesRound 37 = .ok (.goto 4, 3) := by decide +kernel
theorem dX9_comesRound_40 : decode cX9_comesRound 40 = .ok (.iconst 0, 1) := by decide +kernel
theorem dX9_comesRound_41 : decode cX9_comesRound 41 = .ok (.ireturn, 1) := by decide +kernel
theorem dX9_drips_0 : decode cX9_drips 0 = .ok (.iload_n 3, 1) := by decide +kernel
theorem dX9_drips_1 : decode cX9_drips 1 = .ok (.ifCond .eq 25, 3) := by decide +kernel
theorem dX9_drips_4 : decode cX9_drips 4 = .ok (.iload 4, 2) := by decide +kernel
theorem dX9_drips_6 : decode cX9_drips 6 = .ok (.iload_n 1, 1) := by decide +kernel
theorem dX9_drips_7 : decode cX9_drips 7 = .ok (.invokestatic 76, 3) := by decide +kernel
theorem dX9_drips_10 : decode cX9_drips 10 = .ok (.ifCond .ne 16, 3) := by decide +kernel
theorem dX9_drips_13 : decode cX9_drips 13 = .ok (.aload_n 0, 1) := by decide +kernel
theorem dX9_drips_14 : decode cX9_drips 14 = .ok (.iload_n 1, 1) := by decide +kernel
theorem dX9_drips_15 : decode cX9_drips 15 = .ok (.iload_n 2, 1) := by decide +kernel
theorem dX9_drips_16 : decode cX9_drips 16 = .ok (.invokevirtual 80, 3) := by decide +kernel
theorem dX9_drips_19 : decode cX9_drips 19 = .ok (.ifCond .eq 7, 3) := by decide +kernel
theorem dX9_drips_22 : decode cX9_drips 22 = .ok (.iconst 1, 1) := by decide +kernel
theorem dX9_drips_23 : decode cX9_drips 23 = .ok (.goto 4, 3) := by decide +kernel
theorem dX9_drips_26 : decode cX9_drips 26 = .ok (.iconst 0, 1) := by decide +kernel
theorem dX9_drips_27 : decode cX9_drips 27 = .ok (.ireturn, 1) := by decide +kernel
theorem dX9_isHired_0 : decode cX9_isHired 0 = .ok (.iconst 0, 1) := by decide +kernel
theorem dX9_isHired_1 : decode cX9_isHired 1 = .ok (.istore_n 2, 1) := by decide +kernel
theorem dX9_isHired_2 : decode cX9_isHired 2 = .ok (.iload_n 2, 1) := by decide +kernel
theorem dX9_isHired_3 : decode cX9_isHired 3 = .ok (.aload_n 0, 1) := by decide +kernel
theorem dX9_isHired_4 : decode cX9_isHired 4 = .ok (.getfield 29, 3) := by decide +kernel
theorem dX9_isHired_7 : decode cX9_isHired 7 = .ok (.if_icmp .ge 21, 3) := by decide +kernel
theorem dX9_isHired_10 : decode cX9_isHired 10 = .ok (.aload_n 0, 1) := by decide +kernel
theorem dX9_isHired_11 : decode cX9_isHired 11 = .ok (.getfield 41, 3) := by decide +kernel
theorem dX9_isHired_14 : decode cX9_isHired 14 = .ok (.iload_n 2, 1) := by decide +kernel
theorem dX9_isHired_15 : decode cX9_isHired 15 = .ok (.iaload, 1) := by decide +kernel
theorem dX9_isHired_16 : decode cX9_isHired 16 = .ok (.iload_n 1, 1) := by decide +kernel
theorem dX9_isHired_17 : decode cX9_isHired 17 = .ok (.if_icmp .ne 5, 3) := by decide +kernel
theorem dX9_isHired_20 : decode cX9_isHired 20 = .ok (.iconst 1, 1) := by decide +kernel
theorem dX9_isHired_21 : decode cX9_isHired 21 = .ok (.ireturn, 1) := by decide +kernel
theorem dX9_isHired_22 : decode cX9_isHired 22 = .ok (.iinc 2 1, 3) := by decide +kernel
theorem dX9_isHired_25 : decode cX9_isHired 25 = .ok (.goto (-23), 3) := by decide +kernel
theorem dX9_isHired_28 : decode cX9_isHired 28 = .ok (.iconst 0, 1) := by decide +kernel
theorem dX9_isHired_29 : decode cX9_isHired 29 = .ok (.ireturn, 1) := by decide +kernel
theorem dX10_init_0 : decode cX10_init 0 = .ok (.aload_n 0, 1) := by decide +kernel
theorem dX10_init_1 : decode cX10_init 1 = .ok (.invokespecial 3, 3) := by decide +kernel
theorem dX10_init_4 : decode cX10_init 4 = .ok (.aload_n 0, 1) := by decide +kernel
theorem dX10_init_5 : decode cX10_init 5 = .ok (.iconst 0, 1) := by decide +kernel
theorem dX10_init_6 : decode cX10_init 6 = .ok (.putfield 9, 3) := by decide +kernel
theorem dX10_init_9 : decode cX10_init 9 = .ok (.aload_n 0, 1) := by decide +kernel
theorem dX10_init_10 : decode cX10_init 10 = .ok (.iconst 0, 1) := by decide +kernel
theorem dX10_init_11 : decode cX10_init 11 = .ok (.putfield 15, 3) := by decide +kernel
theorem dX10_init_14 : decode cX10_init 14 = .ok (.aload_n 0, 1) := by decide +kernel
theorem dX10_init_15 : decode cX10_init 15 = .ok (.iconst 0, 1) := by decide +kernel
theorem dX10_init_16 : decode cX10_init 16 = .ok (.putfield 18, 3) := by decide +kernel
theorem dX10_init_19 : decode cX10_init 19 = .ok (.aload_n 0, 1) := by decide +kernel
theorem dX10_init_20 : decode cX10_init 20 = .ok (.iconst 0, 1) := by decide +kernel
theorem dX10_init_21 : decode cX10_init 21 = .ok (.putfield 21, 3) := by decide +kernel
theorem dX10_init_24 : decode cX10_init 24 = .ok (.aload_n 0, 1) := by decide +kernel
theorem dX10_init_25 : decode cX10_init 25 = .ok (.iconst (-1), 1) := by decide +kernel
theorem dX10_init_26 : decode cX10_init 26 = .ok (.putfield 24, 3) := by decide +kernel
theorem dX10_init_29 : decode cX10_init 29 = .ok (.aload_n 0, 1) := by decide +kernel
theorem dX10_init_30 : decode cX10_init 30 = .ok (.iconst 0, 1) := by decide +kernel
theorem dX10_init_31 : decode cX10_init 31 = .ok (.putfield 27, 3) := by decide +kernel
theorem dX10_init_34 : decode cX10_init 34 = .ok (.aload_n 0, 1) := by decide +kernel
theorem dX10_init_35 : decode cX10_init 35 = .ok (.iconst 0, 1) := by decide +kernel
theorem dX10_init_36 : decode cX10_init 36 = .ok (.putfield 30, 3) := by decide +kernel
theorem dX10_init_39 : decode cX10_init 39 = .ok (.aload_n 0, 1) := by decide +kernel
theorem dX10_init_40 : decode cX10_init 40 = .ok (.iconst 0, 1) := by decide +kernel
theorem dX10_init_41 : decode cX10_init 41 = .ok (.putfield 33, 3) := by decide +kernel
theorem dX10_init_44 : decode cX10_init 44 = .ok (.return_, 1) := by decide +kernel
theorem dX10_begin_0 : decode cX10_begin 0 = .ok (.aload_n 1, 1) := by decide +kernel
theorem dX10_begin_1 : decode cX10_begin 1 = .ok (.iload_n 3, 1) := by decide +kernel
theorem dX10_begin_2 : decode cX10_begin 2 = .ok (.invokevirtual 36, 3) := by decide +kernel
theorem dX10_begin_5 : decode cX10_begin 5 = .ok (.ifCond .ne 4, 3) := by decide +kernel
