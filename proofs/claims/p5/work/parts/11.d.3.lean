theorem dX11_confessing_29 : decode cX11_confessing 29 = .ok (.iconst 0, 1) := by decide +kernel
theorem dX11_confessing_30 : decode cX11_confessing 30 = .ok (.ireturn, 1) := by decide +kernel
theorem dX11_confessing_31 : decode cX11_confessing 31 = .ok (.aload_n 0, 1) := by decide +kernel
theorem dX11_confessing_32 : decode cX11_confessing 32 = .ok (.getfield 36, 3) := by decide +kernel
theorem dX11_confessing_35 : decode cX11_confessing 35 = .ok (.aload_n 0, 1) := by decide +kernel
theorem dX11_confessing_36 : decode cX11_confessing 36 = .ok (.getfield 57, 3) := by decide +kernel
theorem dX11_confessing_39 : decode cX11_confessing 39 = .ok (.aload_n 0, 1) := by decide +kernel
theorem dX11_confessing_40 : decode cX11_confessing 40 = .ok (.getfield 19, 3) := by decide +kernel
theorem dX11_confessing_43 : decode cX11_confessing 43 = .ok (.getfield 105, 3) := by decide +kernel
theorem dX11_confessing_46 : decode cX11_confessing 46 = .ok (.iload_n 1, 1) := by decide +kernel
theorem dX11_confessing_47 : decode cX11_confessing 47 = .ok (.invokevirtual 243, 3) := by decide +kernel
theorem dX11_confessing_50 : decode cX11_confessing 50 = .ok (.aload_n 0, 1) := by decide +kernel
theorem dX11_confessing_51 : decode cX11_confessing 51 = .ok (.getfield 36, 3) := by decide +kernel
theorem dX11_confessing_54 : decode cX11_confessing 54 = .ok (.aload_n 0, 1) := by decide +kernel
theorem dX11_confessing_55 : decode cX11_confessing 55 = .ok (.getfield 57, 3) := by decide +kernel
theorem dX11_confessing_58 : decode cX11_confessing 58 = .ok (.iload_n 2, 1) := by decide +kernel
theorem dX11_confessing_59 : decode cX11_confessing 59 = .ok (.invokevirtual 246, 3) := by decide +kernel
theorem dX11_confessing_62 : decode cX11_confessing 62 = .ok (.aload_n 0, 1) := by decide +kernel
theorem dX11_confessing_63 : decode cX11_confessing 63 = .ok (.getfield 36, 3) := by decide +kernel
theorem dX11_confessing_66 : decode cX11_confessing 66 = .ok (.getfield 250, 3) := by decide +kernel
theorem dX11_confessing_69 : decode cX11_confessing 69 = .ok (.istore_n 3, 1) := by decide +kernel
theorem dX11_confessing_70 : decode cX11_confessing 70 = .ok (.aload_n 0, 1) := by decide +kernel
theorem dX11_confessing_71 : decode cX11_confessing 71 = .ok (.getfield 36, 3) := by decide +kernel
theorem dX11_confessing_74 : decode cX11_confessing 74 = .ok (.aload_n 0, 1) := by decide +kernel
theorem dX11_confessing_75 : decode cX11_confessing 75 = .ok (.getfield 57, 3) := by decide +kernel
theorem dX11_confessing_78 : decode cX11_confessing 78 = .ok (.aload_n 0, 1) := by decide +kernel
theorem dX11_confessing_79 : decode cX11_confessing 79 = .ok (.getfield 19, 3) := by decide +kernel
theorem dX11_confessing_82 : decode cX11_confessing 82 = .ok (.getfield 105, 3) := by decide +kernel
theorem dX11_confessing_85 : decode cX11_confessing 85 = .ok (.iload_n 1, 1) := by decide +kernel
theorem dX11_confessing_86 : decode cX11_confessing 86 = .ok (.invokevirtual 243, 3) := by decide +kernel
theorem dX11_confessing_89 : decode cX11_confessing 89 = .ok (.aload_n 0, 1) := by decide +kernel
theorem dX11_confessing_90 : decode cX11_confessing 90 = .ok (.getfield 36, 3) := by decide +kernel
theorem dX11_confessing_93 : decode cX11_confessing 93 = .ok (.invokevirtual 322, 3) := by decide +kernel
theorem dX11_confessing_96 : decode cX11_confessing 96 = .ok (.aload_n 0, 1) := by decide +kernel
theorem dX11_confessing_97 : decode cX11_confessing 97 = .ok (.getfield 36, 3) := by decide +kernel
theorem dX11_confessing_100 : decode cX11_confessing 100 = .ok (.aload_n 0, 1) := by decide +kernel
theorem dX11_confessing_101 : decode cX11_confessing 101 = .ok (.getfield 57, 3) := by decide +kernel
theorem dX11_confessing_104 : decode cX11_confessing 104 = .ok (.iload_n 2, 1) := by decide +kernel
theorem dX11_confessing_105 : decode cX11_confessing 105 = .ok (.invokevirtual 246, 3) := by decide +kernel
theorem dX11_confessing_108 : decode cX11_confessing 108 = .ok (.iload_n 3, 1) := by decide +kernel
theorem dX11_confessing_109 : decode cX11_confessing 109 = .ok (.aload_n 0, 1) := by decide +kernel
theorem dX11_confessing_110 : decode cX11_confessing 110 = .ok (.getfield 36, 3) := by decide +kernel
theorem dX11_confessing_113 : decode cX11_confessing 113 = .ok (.getfield 250, 3) := by decide +kernel
theorem dX11_confessing_116 : decode cX11_confessing 116 = .ok (.isub, 1) := by decide +kernel
theorem dX11_confessing_117 : decode cX11_confessing 117 = .ok (.ireturn, 1) := by decide +kernel
theorem dX11_see_0 : decode cX11_see 0 = .ok (.aload_n 0, 1) := by decide +kernel
theorem dX11_see_1 : decode cX11_see 1 = .ok (.iload_n 1, 1) := by decide +kernel
theorem dX11_see_2 : decode cX11_see 2 = .ok (.invokevirtual 191, 3) := by decide +kernel
theorem dX11_see_5 : decode cX11_see 5 = .ok (.aload_n 0, 1) := by decide +kernel
theorem dX11_see_6 : decode cX11_see 6 = .ok (.getfield 19, 3) := by decide +kernel
theorem dX11_see_9 : decode cX11_see 9 = .ok (.getfield 146, 3) := by decide +kernel
theorem dX11_see_12 : decode cX11_see 12 = .ok (.astore 4, 2) := by decide +kernel
theorem dX11_see_14 : decode cX11_see 14 = .ok (.iload_n 2, 1) := by decide +kernel
theorem dX11_see_15 : decode cX11_see 15 = .ok (.iconst 0, 1) := by decide +kernel
theorem dX11_see_16 : decode cX11_see 16 = .ok (.bipush 20, 2) := by decide +kernel
theorem dX11_see_18 : decode cX11_see 18 = .ok (.invokestatic 214, 3) := by decide +kernel
theorem dX11_see_21 : decode cX11_see 21 = .ok (.ifCond .eq 17, 3) := by decide +kernel
theorem dX11_see_24 : decode cX11_see 24 = .ok (.iload_n 3, 1) := by decide +kernel
theorem dX11_see_25 : decode cX11_see 25 = .ok (.iconst 0, 1) := by decide +kernel
theorem dX11_see_26 : decode cX11_see 26 = .ok (.bipush 99, 2) := by decide +kernel
theorem dX11_see_28 : decode cX11_see 28 = .ok (.invokestatic 214, 3) := by decide +kernel
theorem dX11_see_31 : decode cX11_see 31 = .ok (.ifCond .eq 7, 3) := by decide +kernel
theorem dX11_see_34 : decode cX11_see 34 = .ok (.iconst 1, 1) := by decide +kernel
theorem dX11_see_35 : decode cX11_see 35 = .ok (.goto 4, 3) := by decide +kernel
theorem dX11_see_38 : decode cX11_see 38 = .ok (.iconst 0, 1) := by decide +kernel
theorem dX11_see_39 : decode cX11_see 39 = .ok (.istore 5, 2) := by decide +kernel
theorem dX11_see_41 : decode cX11_see 41 = .ok (.iload 5, 2) := by decide +kernel
theorem dX11_see_43 : decode cX11_see 43 = .ok (.ifCond .eq 13, 3) := by decide +kernel
theorem dX11_see_46 : decode cX11_see 46 = .ok (.aload 4, 2) := by decide +kernel
theorem dX11_see_48 : decode cX11_see 48 = .ok (.getfield 150, 3) := by decide +kernel
theorem dX11_see_51 : decode cX11_see 51 = .ok (.bipush 8, 2) := by decide +kernel
theorem dX11_see_53 : decode cX11_see 53 = .ok (.if_icmp .lt 12, 3) := by decide +kernel
theorem dX11_see_56 : decode cX11_see 56 = .ok (.aload_n 0, 1) := by decide +kernel
theorem dX11_see_57 : decode cX11_see 57 = .ok (.getfield 19, 3) := by decide +kernel
theorem dX11_see_60 : decode cX11_see 60 = .ok (.iconst 2, 1) := by decide +kernel
theorem dX11_see_61 : decode cX11_see 61 = .ok (.invokevirtual 93, 3) := by decide +kernel
theorem dX11_see_64 : decode cX11_see 64 = .ok (.ireturn, 1) := by decide +kernel
theorem dX11_see_65 : decode cX11_see 65 = .ok (.aload 4, 2) := by decide +kernel
theorem dX11_see_67 : decode cX11_see 67 = .ok (.iload_n 1, 1) := by decide +kernel
theorem dX11_see_68 : decode cX11_see 68 = .ok (.iload_n 2, 1) := by decide +kernel
theorem dX11_see_69 : decode cX11_see 69 = .ok (.iload_n 3, 1) := by decide +kernel
theorem dX11_see_70 : decode cX11_see 70 = .ok (.invokevirtual 325, 3) := by decide +kernel
theorem dX11_see_73 : decode cX11_see 73 = .ok (.aload 4, 2) := by decide +kernel
theorem dX11_see_75 : decode cX11_see 75 = .ok (.getfield 150, 3) := by decide +kernel
theorem dX11_see_78 : decode cX11_see 78 = .ok (.ireturn, 1) := by decide +kernel
theorem dX11_greedy_0 : decode cX11_greedy 0 = .ok (.iload_n 1, 1) := by decide +kernel
theorem dX11_greedy_1 : decode cX11_greedy 1 = .ok (.iconst 2, 1) := by decide +kernel
theorem dX11_greedy_2 : decode cX11_greedy 2 = .ok (.invokestatic 236, 3) := by decide +kernel
theorem dX11_greedy_5 : decode cX11_greedy 5 = .ok (.aload_n 0, 1) := by decide +kernel
theorem dX11_greedy_6 : decode cX11_greedy 6 = .ok (.getfield 50, 3) := by decide +kernel
theorem dX11_greedy_9 : decode cX11_greedy 9 = .ok (.aload_n 0, 1) := by decide +kernel
theorem dX11_greedy_10 : decode cX11_greedy 10 = .ok (.getfield 57, 3) := by decide +kernel
theorem dX11_greedy_13 : decode cX11_greedy 13 = .ok (.aload_n 0, 1) := by decide +kernel
theorem dX11_greedy_14 : decode cX11_greedy 14 = .ok (.getfield 19, 3) := by decide +kernel
theorem dX11_greedy_17 : decode cX11_greedy 17 = .ok (.aload_n 0, 1) := by decide +kernel
theorem dX11_greedy_18 : decode cX11_greedy 18 = .ok (.getfield 36, 3) := by decide +kernel
theorem dX11_greedy_21 : decode cX11_greedy 21 = .ok (.invokevirtual 327, 3) := by decide +kernel
theorem dX11_greedy_24 : decode cX11_greedy 24 = .ok (.iload_n 1, 1) := by decide +kernel
theorem dX11_greedy_25 : decode cX11_greedy 25 = .ok (.lookupswitch 43 #[(0, 27), (1, 35)], 27) := by decide +kernel
theorem dX11_greedy_52 : decode cX11_greedy 52 = .ok (.aload_n 0, 1) := by decide +kernel
theorem dX11_greedy_53 : decode cX11_greedy 53 = .ok (.getfield 50, 3) := by decide +kernel
theorem dX11_greedy_56 : decode cX11_greedy 56 = .ok (.getfield 331, 3) := by decide +kernel
theorem dX11_greedy_59 : decode cX11_greedy 59 = .ok (.ireturn, 1) := by decide +kernel
theorem dX11_greedy_60 : decode cX11_greedy 60 = .ok (.aload_n 0, 1) := by decide +kernel
theorem dX11_greedy_61 : decode cX11_greedy 61 = .ok (.getfield 50, 3) := by decide +kernel
theorem dX11_greedy_64 : decode cX11_greedy 64 = .ok (.getfield 332, 3) := by decide +kernel
theorem dX11_greedy_67 : decode cX11_greedy 67 = .ok (.ireturn, 1) := by decide +kernel
theorem dX11_greedy_68 : decode cX11_greedy 68 = .ok (.aload_n 0, 1) := by decide +kernel
theorem dX11_greedy_69 : decode cX11_greedy 69 = .ok (.getfield 50, 3) := by decide +kernel
theorem dX11_greedy_72 : decode cX11_greedy 72 = .ok (.getfield 335, 3) := by decide +kernel
theorem dX11_greedy_75 : decode cX11_greedy 75 = .ok (.ifCond .eq 7, 3) := by decide +kernel
theorem dX11_greedy_78 : decode cX11_greedy 78 = .ok (.iconst 1, 1) := by decide +kernel
theorem dX11_greedy_79 : decode cX11_greedy 79 = .ok (.goto 4, 3) := by decide +kernel
theorem dX11_greedy_82 : decode cX11_greedy 82 = .ok (.iconst 0, 1) := by decide +kernel
theorem dX11_greedy_83 : decode cX11_greedy 83 = .ok (.ireturn, 1) := by decide +kernel
theorem dX11_look_0 : decode cX11_look 0 = .ok (.iload_n 1, 1) := by decide +kernel
theorem dX11_look_1 : decode cX11_look 1 = .ok (.iconst 1, 1) := by decide +kernel
theorem dX11_look_2 : decode cX11_look 2 = .ok (.invokestatic 236, 3) := by decide +kernel
theorem dX11_look_5 : decode cX11_look 5 = .ok (.aload_n 0, 1) := by decide +kernel
theorem dX11_look_6 : decode cX11_look 6 = .ok (.getfield 50, 3) := by decide +kernel
theorem dX11_look_9 : decode cX11_look 9 = .ok (.aload_n 0, 1) := by decide +kernel
theorem dX11_look_10 : decode cX11_look 10 = .ok (.getfield 57, 3) := by decide +kernel
theorem dX11_look_13 : decode cX11_look 13 = .ok (.aload_n 0, 1) := by decide +kernel
theorem dX11_look_14 : decode cX11_look 14 = .ok (.getfield 19, 3) := by decide +kernel
theorem dX11_look_17 : decode cX11_look 17 = .ok (.aload_n 0, 1) := by decide +kernel
theorem dX11_look_18 : decode cX11_look 18 = .ok (.getfield 36, 3) := by decide +kernel
theorem dX11_look_21 : decode cX11_look 21 = .ok (.invokevirtual 327, 3) := by decide +kernel
theorem dX11_look_24 : decode cX11_look 24 = .ok (.aload_n 0, 1) := by decide +kernel
theorem dX11_look_25 : decode cX11_look 25 = .ok (.getfield 50, 3) := by decide +kernel
theorem dX11_look_28 : decode cX11_look 28 = .ok (.invokevirtual 338, 3) := by decide +kernel
theorem dX11_look_31 : decode cX11_look 31 = .ok (.istore_n 2, 1) := by decide +kernel
theorem dX11_look_32 : decode cX11_look 32 = .ok (.iload_n 1, 1) := by decide +kernel
theorem dX11_look_33 : decode cX11_look 33 = .ok (.ifCond .ne 5, 3) := by decide +kernel
theorem dX11_look_36 : decode cX11_look 36 = .ok (.iload_n 2, 1) := by decide +kernel
theorem dX11_look_37 : decode cX11_look 37 = .ok (.ireturn, 1) := by decide +kernel
theorem dX11_look_38 : decode cX11_look 38 = .ok (.iload_n 2, 1) := by decide +kernel
theorem dX11_look_39 : decode cX11_look 39 = .ok (.iconst (-1), 1) := by decide +kernel
theorem dX11_look_40 : decode cX11_look 40 = .ok (.if_icmp .ne 7, 3) := by decide +kernel
theorem dX11_look_43 : decode cX11_look 43 = .ok (.iconst 0, 1) := by decide +kernel
theorem dX11_look_44 : decode cX11_look 44 = .ok (.goto 11, 3) := by decide +kernel
theorem dX11_look_47 : decode cX11_look 47 = .ok (.aload_n 0, 1) := by decide +kernel
theorem dX11_look_48 : decode cX11_look 48 = .ok (.getfield 50, 3) := by decide +kernel
theorem dX11_look_51 : decode cX11_look 51 = .ok (.iload_n 2, 1) := by decide +kernel
theorem dX11_look_52 : decode cX11_look 52 = .ok (.invokevirtual 341, 3) := by decide +kernel
theorem dX11_look_55 : decode cX11_look 55 = .ok (.ireturn, 1) := by decide +kernel
theorem dX11_forget_0 : decode cX11_forget 0 = .ok (.aload_n 0, 1) := by decide +kernel
theorem dX11_forget_1 : decode cX11_forget 1 = .ok (.getfield 19, 3) := by decide +kernel
theorem dX11_forget_4 : decode cX11_forget 4 = .ok (.getfield 146, 3) := by decide +kernel
theorem dX11_forget_7 : decode cX11_forget 7 = .ok (.iconst 0, 1) := by decide +kernel
theorem dX11_forget_8 : decode cX11_forget 8 = .ok (.putfield 150, 3) := by decide +kernel
theorem dX11_forget_11 : decode cX11_forget 11 = .ok (.return_, 1) := by decide +kernel
theorem dX11_drought_0 : decode cX11_drought 0 = .ok (.aload_n 0, 1) := by decide +kernel
theorem dX11_drought_1 : decode cX11_drought 1 = .ok (.iload_n 1, 1) := by decide +kernel
theorem dX11_drought_2 : decode cX11_drought 2 = .ok (.invokevirtual 191, 3) := by decide +kernel
theorem dX11_drought_5 : decode cX11_drought 5 = .ok (.iload_n 2, 1) := by decide +kernel
theorem dX11_drought_6 : decode cX11_drought 6 = .ok (.iconst 1, 1) := by decide +kernel
theorem dX11_drought_7 : decode cX11_drought 7 = .ok (.iconst 5, 1) := by decide +kernel
theorem dX11_drought_8 : decode cX11_drought 8 = .ok (.invokestatic 239, 3) := by decide +kernel
theorem dX11_drought_11 : decode cX11_drought 11 = .ok (.iload_n 3, 1) := by decide +kernel
theorem dX11_drought_12 : decode cX11_drought 12 = .ok (.iconst 0, 1) := by decide +kernel
theorem dX11_drought_13 : decode cX11_drought 13 = .ok (.bipush 10, 2) := by decide +kernel
theorem dX11_drought_15 : decode cX11_drought 15 = .ok (.invokestatic 239, 3) := by decide +kernel
theorem dX11_drought_18 : decode cX11_drought 18 = .ok (.iconst 0, 1) := by decide +kernel
theorem dX11_drought_19 : decode cX11_drought 19 = .ok (.istore 4, 2) := by decide +kernel
theorem dX11_drought_21 : decode cX11_drought 21 = .ok (.iconst 0, 1) := by decide +kernel
theorem dX11_drought_22 : decode cX11_drought 22 = .ok (.istore 5, 2) := by decide +kernel
theorem dX11_drought_24 : decode cX11_drought 24 = .ok (.iload 5, 2) := by decide +kernel
theorem dX11_drought_26 : decode cX11_drought 26 = .ok (.iconst 1, 1) := by decide +kernel
theorem dX11_drought_27 : decode cX11_drought 27 = .ok (.iload_n 2, 1) := by decide +kernel
theorem dX11_drought_28 : decode cX11_drought 28 = .ok (.ishl, 1) := by decide +kernel
theorem dX11_drought_29 : decode cX11_drought 29 = .ok (.if_icmp .ge 116, 3) := by decide +kernel
theorem dX11_drought_32 : decode cX11_drought 32 = .ok (.iconst 1, 1) := by decide +kernel
theorem dX11_drought_33 : decode cX11_drought 33 = .ok (.istore 6, 2) := by decide +kernel
theorem dX11_drought_35 : decode cX11_drought 35 = .ok (.iconst 0, 1) := by decide +kernel
theorem dX11_drought_36 : decode cX11_drought 36 = .ok (.istore 7, 2) := by decide +kernel
theorem dX11_drought_38 : decode cX11_drought 38 = .ok (.aload_n 0, 1) := by decide +kernel
theorem dX11_drought_39 : decode cX11_drought 39 = .ok (.getfield 36, 3) := by decide +kernel
theorem dX11_drought_42 : decode cX11_drought 42 = .ok (.aload_n 0, 1) := by decide +kernel
theorem dX11_drought_43 : decode cX11_drought 43 = .ok (.getfield 57, 3) := by decide +kernel
theorem dX11_drought_46 : decode cX11_drought 46 = .ok (.aload_n 0, 1) := by decide +kernel
theorem dX11_drought_47 : decode cX11_drought 47 = .ok (.getfield 19, 3) := by decide +kernel
theorem dX11_drought_50 : decode cX11_drought 50 = .ok (.getfield 105, 3) := by decide +kernel
theorem dX11_drought_53 : decode cX11_drought 53 = .ok (.iload_n 1, 1) := by decide +kernel
theorem dX11_drought_54 : decode cX11_drought 54 = .ok (.invokevirtual 243, 3) := by decide +kernel
theorem dX11_drought_57 : decode cX11_drought 57 = .ok (.iconst 0, 1) := by decide +kernel
theorem dX11_drought_58 : decode cX11_drought 58 = .ok (.istore 8, 2) := by decide +kernel
theorem dX11_drought_60 : decode cX11_drought 60 = .ok (.iload 8, 2) := by decide +kernel
theorem dX11_drought_62 : decode cX11_drought 62 = .ok (.iload_n 2, 1) := by decide +kernel
theorem dX11_drought_63 : decode cX11_drought 63 = .ok (.if_icmp .ge 64, 3) := by decide +kernel
theorem dX11_drought_66 : decode cX11_drought 66 = .ok (.iload 5, 2) := by decide +kernel
theorem dX11_drought_68 : decode cX11_drought 68 = .ok (.iload 8, 2) := by decide +kernel
theorem dX11_drought_70 : decode cX11_drought 70 = .ok (.invokestatic 279, 3) := by decide +kernel
theorem dX11_drought_73 : decode cX11_drought 73 = .ok (.istore 9, 2) := by decide +kernel
theorem dX11_drought_75 : decode cX11_drought 75 = .ok (.iload 6, 2) := by decide +kernel
theorem dX11_drought_77 : decode cX11_drought 77 = .ok (.iload 9, 2) := by decide +kernel
theorem dX11_drought_79 : decode cX11_drought 79 = .ok (.ifCond .eq 7, 3) := by decide +kernel
theorem dX11_drought_82 : decode cX11_drought 82 = .ok (.iload_n 3, 1) := by decide +kernel
theorem dX11_drought_83 : decode cX11_drought 83 = .ok (.goto 7, 3) := by decide +kernel
theorem dX11_drought_86 : decode cX11_drought 86 = .ok (.bipush 10, 2) := by decide +kernel
theorem dX11_drought_88 : decode cX11_drought 88 = .ok (.iload_n 3, 1) := by decide +kernel
theorem dX11_drought_89 : decode cX11_drought 89 = .ok (.isub, 1) := by decide +kernel
theorem dX11_drought_90 : decode cX11_drought 90 = .ok (.imul, 1) := by decide +kernel
theorem dX11_drought_91 : decode cX11_drought 91 = .ok (.istore 6, 2) := by decide +kernel
theorem dX11_drought_93 : decode cX11_drought 93 = .ok (.aload_n 0, 1) := by decide +kernel
theorem dX11_drought_94 : decode cX11_drought 94 = .ok (.getfield 36, 3) := by decide +kernel
theorem dX11_drought_97 : decode cX11_drought 97 = .ok (.aload_n 0, 1) := by decide +kernel
theorem dX11_drought_98 : decode cX11_drought 98 = .ok (.getfield 57, 3) := by decide +kernel
theorem dX11_drought_101 : decode cX11_drought 101 = .ok (.iload 9, 2) := by decide +kernel
theorem dX11_drought_103 : decode cX11_drought 103 = .ok (.ifCond .eq 7, 3) := by decide +kernel
theorem dX11_drought_106 : decode cX11_drought 106 = .ok (.iconst 0, 1) := by decide +kernel
theorem dX11_drought_107 : decode cX11_drought 107 = .ok (.goto 5, 3) := by decide +kernel
theorem dX11_drought_110 : decode cX11_drought 110 = .ok (.bipush 9, 2) := by decide +kernel
theorem dX11_drought_112 : decode cX11_drought 112 = .ok (.invokevirtual 262, 3) := by decide +kernel
theorem dX11_drought_115 : decode cX11_drought 115 = .ok (.ifCond .eq 6, 3) := by decide +kernel
theorem dX11_drought_118 : decode cX11_drought 118 = .ok (.iconst 1, 1) := by decide +kernel
theorem dX11_drought_119 : decode cX11_drought 119 = .ok (.istore 7, 2) := by decide +kernel
theorem dX11_drought_121 : decode cX11_drought 121 = .ok (.iinc 8 1, 3) := by decide +kernel
theorem dX11_drought_124 : decode cX11_drought 124 = .ok (.goto (-64), 3) := by decide +kernel
theorem dX11_drought_127 : decode cX11_drought 127 = .ok (.iload 7, 2) := by decide +kernel
theorem dX11_drought_129 : decode cX11_drought 129 = .ok (.ifCond .eq 10, 3) := by decide +kernel
theorem dX11_drought_132 : decode cX11_drought 132 = .ok (.iload 4, 2) := by decide +kernel
theorem dX11_drought_134 : decode cX11_drought 134 = .ok (.iload 6, 2) := by decide +kernel
theorem dX11_drought_136 : decode cX11_drought 136 = .ok (.iadd, 1) := by decide +kernel
theorem dX11_drought_137 : decode cX11_drought 137 = .ok (.istore 4, 2) := by decide +kernel
theorem dX11_drought_139 : decode cX11_drought 139 = .ok (.iinc 5 1, 3) := by decide +kernel
theorem dX11_drought_142 : decode cX11_drought 142 = .ok (.goto (-118), 3) := by decide +kernel
theorem dX11_drought_145 : decode cX11_drought 145 = .ok (.iload 4, 2) := by decide +kernel
theorem dX11_drought_147 : decode cX11_drought 147 = .ok (.ireturn, 1) := by decide +kernel
theorem dX11_game_0 : decode cX11_game 0 = .ok (.aload_n 0, 1) := by decide +kernel
theorem dX11_game_1 : decode cX11_game 1 = .ok (.iload_n 1, 1) := by decide +kernel
theorem dX11_game_2 : decode cX11_game 2 = .ok (.invokevirtual 191, 3) := by decide +kernel
theorem dX11_game_5 : decode cX11_game 5 = .ok (.aload_n 0, 1) := by decide +kernel
theorem dX11_game_6 : decode cX11_game 6 = .ok (.iload_n 2, 1) := by decide +kernel
theorem dX11_game_7 : decode cX11_game 7 = .ok (.invokevirtual 191, 3) := by decide +kernel
theorem dX11_game_10 : decode cX11_game 10 = .ok (.iload_n 3, 1) := by decide +kernel
theorem dX11_game_11 : decode cX11_game 11 = .ok (.iconst 1, 1) := by decide +kernel
theorem dX11_game_12 : decode cX11_game 12 = .ok (.invokestatic 236, 3) := by decide +kernel
theorem dX11_game_15 : decode cX11_game 15 = .ok (.iload_n 1, 1) := by decide +kernel
theorem dX11_game_16 : decode cX11_game 16 = .ok (.iload_n 2, 1) := by decide +kernel
theorem dX11_game_17 : decode cX11_game 17 = .ok (.if_icmp .ne 14, 3) := by decide +kernel
theorem dX11_game_20 : decode cX11_game 20 = .ok (.new 82, 3) := by decide +kernel
theorem dX11_game_23 : decode cX11_game 23 = .ok (.dup, 1) := by decide +kernel
theorem dX11_game_24 : decode cX11_game 24 = .ok (.ldc_w 344, 3) := by decide +kernel
theorem dX11_game_27 : decode cX11_game 27 = .ok (.invokespecial 86, 3) := by decide +kernel
theorem dX11_game_30 : decode cX11_game 30 = .ok (.athrow, 1) := by decide +kernel
theorem dX11_game_31 : decode cX11_game 31 = .ok (.iconst 0, 1) := by decide +kernel
theorem dX11_game_32 : decode cX11_game 32 = .ok (.istore 4, 2) := by decide +kernel
theorem dX11_game_34 : decode cX11_game 34 = .ok (.iconst (-1), 1) := by decide +kernel
theorem dX11_game_35 : decode cX11_game 35 = .ok (.istore 5, 2) := by decide +kernel
theorem dX11_game_37 : decode cX11_game 37 = .ok (.iconst 0, 1) := by decide +kernel
theorem dX11_game_38 : decode cX11_game 38 = .ok (.istore 6, 2) := by decide +kernel
theorem dX11_game_40 : decode cX11_game 40 = .ok (.iload 6, 2) := by decide +kernel
theorem dX11_game_42 : decode cX11_game 42 = .ok (.aload_n 0, 1) := by decide +kernel
theorem dX11_game_43 : decode cX11_game 43 = .ok (.iload_n 1, 1) := by decide +kernel
theorem dX11_game_44 : decode cX11_game 44 = .ok (.invokevirtual 346, 3) := by decide +kernel
theorem dX11_game_47 : decode cX11_game 47 = .ok (.if_icmp .gt 78, 3) := by decide +kernel
theorem dX11_game_50 : decode cX11_game 50 = .ok (.iconst 0, 1) := by decide +kernel
theorem dX11_game_51 : decode cX11_game 51 = .ok (.istore 7, 2) := by decide +kernel
theorem dX11_game_53 : decode cX11_game 53 = .ok (.iload 7, 2) := by decide +kernel
theorem dX11_game_55 : decode cX11_game 55 = .ok (.aload_n 0, 1) := by decide +kernel
theorem dX11_game_56 : decode cX11_game 56 = .ok (.iload_n 2, 1) := by decide +kernel
theorem dX11_game_57 : decode cX11_game 57 = .ok (.invokevirtual 346, 3) := by decide +kernel
theorem dX11_game_60 : decode cX11_game 60 = .ok (.if_icmp .gt 59, 3) := by decide +kernel
theorem dX11_game_63 : decode cX11_game 63 = .ok (.aload_n 0, 1) := by decide +kernel
theorem dX11_game_64 : decode cX11_game 64 = .ok (.iload_n 1, 1) := by decide +kernel
theorem dX11_game_65 : decode cX11_game 65 = .ok (.iload 6, 2) := by decide +kernel
theorem dX11_game_67 : decode cX11_game 67 = .ok (.iload_n 2, 1) := by decide +kernel
theorem dX11_game_68 : decode cX11_game 68 = .ok (.iload 7, 2) := by decide +kernel
theorem dX11_game_70 : decode cX11_game 70 = .ok (.invokevirtual 349, 3) := by decide +kernel
theorem dX11_game_73 : decode cX11_game 73 = .ok (.ifCond .eq 40, 3) := by decide +kernel
theorem dX11_game_76 : decode cX11_game 76 = .ok (.aload_n 0, 1) := by decide +kernel
theorem dX11_game_77 : decode cX11_game 77 = .ok (.iload_n 2, 1) := by decide +kernel
theorem dX11_game_78 : decode cX11_game 78 = .ok (.iload 7, 2) := by decide +kernel
theorem dX11_game_80 : decode cX11_game 80 = .ok (.iload_n 1, 1) := by decide +kernel
theorem dX11_game_81 : decode cX11_game 81 = .ok (.iload 6, 2) := by decide +kernel
theorem dX11_game_83 : decode cX11_game 83 = .ok (.invokevirtual 349, 3) := by decide +kernel
theorem dX11_game_86 : decode cX11_game 86 = .ok (.ifCond .eq 27, 3) := by decide +kernel
theorem dX11_game_89 : decode cX11_game 89 = .ok (.iinc 4 1, 3) := by decide +kernel
theorem dX11_game_92 : decode cX11_game 92 = .ok (.iload 5, 2) := by decide +kernel
theorem dX11_game_94 : decode cX11_game 94 = .ok (.iconst (-1), 1) := by decide +kernel
theorem dX11_game_95 : decode cX11_game 95 = .ok (.if_icmp .ne 14, 3) := by decide +kernel
theorem dX11_game_98 : decode cX11_game 98 = .ok (.bipush 10, 2) := by decide +kernel
theorem dX11_game_100 : decode cX11_game 100 = .ok (.iload 6, 2) := by decide +kernel
theorem dX11_game_102 : decode cX11_game 102 = .ok (.imul, 1) := by decide +kernel
theorem dX11_game_103 : decode cX11_game 103 = .ok (.iload 7, 2) := by decide +kernel
theorem dX11_game_105 : decode cX11_game 105 = .ok (.iadd, 1) := by decide +kernel
theorem dX11_game_106 : decode cX11_game 106 = .ok (.goto 5, 3) := by decide +kernel
theorem dX11_game_109 : decode cX11_game 109 = .ok (.iload 5, 2) := by decide +kernel
theorem dX11_game_111 : decode cX11_game 111 = .ok (.istore 5, 2) := by decide +kernel
theorem dX11_game_113 : decode cX11_game 113 = .ok (.iinc 7 1, 3) := by decide +kernel
theorem dX11_game_116 : decode cX11_game 116 = .ok (.goto (-63), 3) := by decide +kernel
theorem dX11_game_119 : decode cX11_game 119 = .ok (.iinc 6 1, 3) := by decide +kernel
theorem dX11_game_122 : decode cX11_game 122 = .ok (.goto (-82), 3) := by decide +kernel
theorem dX11_game_125 : decode cX11_game 125 = .ok (.iload_n 3, 1) := by decide +kernel
theorem dX11_game_126 : decode cX11_game 126 = .ok (.ifCond .ne 8, 3) := by decide +kernel
theorem dX11_game_129 : decode cX11_game 129 = .ok (.iload 4, 2) := by decide +kernel
theorem dX11_game_131 : decode cX11_game 131 = .ok (.goto 5, 3) := by decide +kernel
theorem dX11_game_134 : decode cX11_game 134 = .ok (.iload 5, 2) := by decide +kernel
theorem dX11_game_136 : decode cX11_game 136 = .ok (.ireturn, 1) := by decide +kernel
theorem dX11_years_0 : decode cX11_years 0 = .ok (.iload_n 3, 1) := by decide +kernel
theorem dX11_years_1 : decode cX11_years 1 = .ok (.iconst 2, 1) := by decide +kernel
theorem dX11_years_2 : decode cX11_years 2 = .ok (.invokestatic 236, 3) := by decide +kernel
theorem dX11_years_5 : decode cX11_years 5 = .ok (.iload_n 2, 1) := by decide +kernel
theorem dX11_years_6 : decode cX11_years 6 = .ok (.iconst 0, 1) := by decide +kernel
theorem dX11_years_7 : decode cX11_years 7 = .ok (.bipush 60, 2) := by decide +kernel
theorem dX11_years_9 : decode cX11_years 9 = .ok (.invokestatic 239, 3) := by decide +kernel
theorem dX11_years_12 : decode cX11_years 12 = .ok (.aload_n 0, 1) := by decide +kernel
theorem dX11_years_13 : decode cX11_years 13 = .ok (.getfield 29, 3) := by decide +kernel
theorem dX11_years_16 : decode cX11_years 16 = .ok (.aload_n 0, 1) := by decide +kernel
theorem dX11_years_17 : decode cX11_years 17 = .ok (.getfield 19, 3) := by decide +kernel
theorem dX11_years_20 : decode cX11_years 20 = .ok (.getfield 105, 3) := by decide +kernel
theorem dX11_years_23 : decode cX11_years 23 = .ok (.invokevirtual 353, 3) := by decide +kernel
theorem dX11_years_26 : decode cX11_years 26 = .ok (.aload_n 0, 1) := by decide +kernel
theorem dX11_years_27 : decode cX11_years 27 = .ok (.iload_n 1, 1) := by decide +kernel
theorem dX11_years_28 : decode cX11_years 28 = .ok (.putfield 65, 3) := by decide +kernel
theorem dX11_years_31 : decode cX11_years 31 = .ok (.iconst 0, 1) := by decide +kernel
theorem dX11_years_32 : decode cX11_years 32 = .ok (.istore 4, 2) := by decide +kernel
theorem dX11_years_34 : decode cX11_years 34 = .ok (.iconst 0, 1) := by decide +kernel
theorem dX11_years_35 : decode cX11_years 35 = .ok (.istore 5, 2) := by decide +kernel
theorem dX11_years_37 : decode cX11_years 37 = .ok (.iload 5, 2) := by decide +kernel
theorem dX11_years_39 : decode cX11_years 39 = .ok (.iload_n 2, 1) := by decide +kernel
theorem dX11_years_40 : decode cX11_years 40 = .ok (.if_icmp .ge 37, 3) := by decide +kernel
theorem dX11_years_43 : decode cX11_years 43 = .ok (.aload_n 0, 1) := by decide +kernel
theorem dX11_years_44 : decode cX11_years 44 = .ok (.aload_n 0, 1) := by decide +kernel
theorem dX11_years_45 : decode cX11_years 45 = .ok (.bipush 7, 2) := by decide +kernel
theorem dX11_years_47 : decode cX11_years 47 = .ok (.invokevirtual 357, 3) := by decide +kernel
theorem dX11_years_50 : decode cX11_years 50 = .ok (.invokevirtual 360, 3) := by decide +kernel
theorem dX11_years_53 : decode cX11_years 53 = .ok (.iload 4, 2) := by decide +kernel
theorem dX11_years_55 : decode cX11_years 55 = .ok (.aload_n 0, 1) := by decide +kernel
theorem dX11_years_56 : decode cX11_years 56 = .ok (.aload_n 0, 1) := by decide +kernel
theorem dX11_years_57 : decode cX11_years 57 = .ok (.getfield 29, 3) := by decide +kernel
theorem dX11_years_60 : decode cX11_years 60 = .ok (.aload_n 0, 1) := by decide +kernel
theorem dX11_years_61 : decode cX11_years 61 = .ok (.iconst 4, 1) := by decide +kernel
theorem dX11_years_62 : decode cX11_years 62 = .ok (.invokevirtual 357, 3) := by decide +kernel
theorem dX11_years_65 : decode cX11_years 65 = .ok (.invokevirtual 221, 3) := by decide +kernel
theorem dX11_years_68 : decode cX11_years 68 = .ok (.iadd, 1) := by decide +kernel
theorem dX11_years_69 : decode cX11_years 69 = .ok (.istore 4, 2) := by decide +kernel
theorem dX11_years_71 : decode cX11_years 71 = .ok (.iinc 5 1, 3) := by decide +kernel
theorem dX11_years_74 : decode cX11_years 74 = .ok (.goto (-37), 3) := by decide +kernel
theorem dX11_years_77 : decode cX11_years 77 = .ok (.iload_n 3, 1) := by decide +kernel
theorem dX11_years_78 : decode cX11_years 78 = .ok (.lookupswitch 41 #[(0, 26), (1, 29)], 26) := by decide +kernel
theorem dX11_years_104 : decode cX11_years 104 = .ok (.iload 4, 2) := by decide +kernel
theorem dX11_years_106 : decode cX11_years 106 = .ok (.ireturn, 1) := by decide +kernel
theorem dX11_years_107 : decode cX11_years 107 = .ok (.aload_n 0, 1) := by decide +kernel
theorem dX11_years_108 : decode cX11_years 108 = .ok (.getfield 29, 3) := by decide +kernel
theorem dX11_years_111 : decode cX11_years 111 = .ok (.aload_n 0, 1) := by decide +kernel
theorem dX11_years_112 : decode cX11_years 112 = .ok (.getfield 57, 3) := by decide +kernel
theorem dX11_years_115 : decode cX11_years 115 = .ok (.invokevirtual 131, 3) := by decide +kernel
theorem dX11_years_118 : decode cX11_years 118 = .ok (.ireturn, 1) := by decide +kernel
theorem dX11_years_119 : decode cX11_years 119 = .ok (.aload_n 0, 1) := by decide +kernel
theorem dX11_years_120 : decode cX11_years 120 = .ok (.getfield 29, 3) := by decide +kernel
theorem dX11_years_123 : decode cX11_years 123 = .ok (.aload_n 0, 1) := by decide +kernel
theorem dX11_years_124 : decode cX11_years 124 = .ok (.getfield 57, 3) := by decide +kernel
theorem dX11_years_127 : decode cX11_years 127 = .ok (.invokevirtual 124, 3) := by decide +kernel
theorem dX11_years_130 : decode cX11_years 130 = .ok (.invokestatic 271, 3) := by decide +kernel
theorem dX11_years_133 : decode cX11_years 133 = .ok (.ireturn, 1) := by decide +kernel
theorem dX11_image_0 : decode cX11_image 0 = .ok (.aload_n 0, 1) := by decide +kernel
theorem dX11_image_1 : decode cX11_image 1 = .ok (.getfield 23, 3) := by decide +kernel
theorem dX11_image_4 : decode cX11_image 4 = .ok (.aload_n 0, 1) := by decide +kernel
theorem dX11_image_5 : decode cX11_image 5 = .ok (.getfield 19, 3) := by decide +kernel
theorem dX11_image_8 : decode cX11_image 8 = .ok (.invokevirtual 363, 3) := by decide +kernel
theorem dX11_image_11 : decode cX11_image 11 = .ok (.aload_n 0, 1) := by decide +kernel
theorem dX11_image_12 : decode cX11_image 12 = .ok (.iconst 1, 1) := by decide +kernel
theorem dX11_image_13 : decode cX11_image 13 = .ok (.putfield 61, 3) := by decide +kernel
theorem dX11_image_16 : decode cX11_image 16 = .ok (.return_, 1) := by decide +kernel
theorem dX11_restore_0 : decode cX11_restore 0 = .ok (.aload_n 0, 1) := by decide +kernel
theorem dX11_restore_1 : decode cX11_restore 1 = .ok (.getfield 61, 3) := by decide +kernel
theorem dX11_restore_4 : decode cX11_restore 4 = .ok (.ifCond .eq 14, 3) := by decide +kernel
theorem dX11_restore_7 : decode cX11_restore 7 = .ok (.aload_n 0, 1) := by decide +kernel
theorem dX11_restore_8 : decode cX11_restore 8 = .ok (.getfield 19, 3) := by decide +kernel
theorem dX11_restore_11 : decode cX11_restore 11 = .ok (.aload_n 0, 1) := by decide +kernel
theorem dX11_restore_12 : decode cX11_restore 12 = .ok (.getfield 23, 3) := by decide +kernel
theorem dX11_restore_15 : decode cX11_restore 15 = .ok (.invokevirtual 363, 3) := by decide +kernel
theorem dX11_restore_18 : decode cX11_restore 18 = .ok (.aload_n 0, 1) := by decide +kernel
theorem dX11_restore_19 : decode cX11_restore 19 = .ok (.getfield 61, 3) := by decide +kernel
theorem dX11_restore_22 : decode cX11_restore 22 = .ok (.ireturn, 1) := by decide +kernel
theorem dX11_needGrotto_0 : decode cX11_needGrotto 0 = .ok (.aload_n 0, 1) := by decide +kernel
theorem dX11_needGrotto_1 : decode cX11_needGrotto 1 = .ok (.getfield 57, 3) := by decide +kernel
theorem dX11_needGrotto_4 : decode cX11_needGrotto 4 = .ok (.iload_n 1, 1) := by decide +kernel
theorem dX11_needGrotto_5 : decode cX11_needGrotto 5 = .ok (.invokevirtual 366, 3) := by decide +kernel
theorem dX11_needGrotto_8 : decode cX11_needGrotto 8 = .ok (.ifCond .ne 14, 3) := by decide +kernel
theorem dX11_needGrotto_11 : decode cX11_needGrotto 11 = .ok (.new 157, 3) := by decide +kernel
theorem dX11_needGrotto_14 : decode cX11_needGrotto 14 = .ok (.dup, 1) := by decide +kernel
theorem dX11_needGrotto_15 : decode cX11_needGrotto 15 = .ok (.ldc_w 369, 3) := by decide +kernel
theorem dX11_needGrotto_18 : decode cX11_needGrotto 18 = .ok (.invokespecial 161, 3) := by decide +kernel
theorem dX11_needGrotto_21 : decode cX11_needGrotto 21 = .ok (.athrow, 1) := by decide +kernel
theorem dX11_needGrotto_22 : decode cX11_needGrotto 22 = .ok (.return_, 1) := by decide +kernel
theorem dX11_needGuild_0 : decode cX11_needGuild 0 = .ok (.aload_n 0, 1) := by decide +kernel
theorem dX11_needGuild_1 : decode cX11_needGuild 1 = .ok (.getfield 57, 3) := by decide +kernel
theorem dX11_needGuild_4 : decode cX11_needGuild 4 = .ok (.iload_n 1, 1) := by decide +kernel
theorem dX11_needGuild_5 : decode cX11_needGuild 5 = .ok (.invokevirtual 371, 3) := by decide +kernel
theorem dX11_needGuild_8 : decode cX11_needGuild 8 = .ok (.ifCond .ne 14, 3) := by decide +kernel
theorem dX11_needGuild_11 : decode cX11_needGuild 11 = .ok (.new 157, 3) := by decide +kernel
theorem dX11_needGuild_14 : decode cX11_needGuild 14 = .ok (.dup, 1) := by decide +kernel
theorem dX11_needGuild_15 : decode cX11_needGuild 15 = .ok (.ldc_w 374, 3) := by decide +kernel
theorem dX11_needGuild_18 : decode cX11_needGuild 18 = .ok (.invokespecial 161, 3) := by decide +kernel
theorem dX11_needGuild_21 : decode cX11_needGuild 21 = .ok (.athrow, 1) := by decide +kernel
theorem dX11_needGuild_22 : decode cX11_needGuild 22 = .ok (.return_, 1) := by decide +kernel
theorem dX11_needWhat_0 : decode cX11_needWhat 0 = .ok (.iload_n 0, 1) := by decide +kernel
theorem dX11_needWhat_1 : decode cX11_needWhat 1 = .ok (.iconst 0, 1) := by decide +kernel
theorem dX11_needWhat_2 : decode cX11_needWhat 2 = .ok (.iload_n 1, 1) := by decide +kernel
theorem dX11_needWhat_3 : decode cX11_needWhat 3 = .ok (.invokestatic 214, 3) := by decide +kernel
theorem dX11_needWhat_6 : decode cX11_needWhat 6 = .ok (.ifCond .ne 14, 3) := by decide +kernel
theorem dX11_needWhat_9 : decode cX11_needWhat 9 = .ok (.new 157, 3) := by decide +kernel
theorem dX11_needWhat_12 : decode cX11_needWhat 12 = .ok (.dup, 1) := by decide +kernel
theorem dX11_needWhat_13 : decode cX11_needWhat 13 = .ok (.ldc_w 376, 3) := by decide +kernel
theorem dX11_needWhat_16 : decode cX11_needWhat 16 = .ok (.invokespecial 161, 3) := by decide +kernel
theorem dX11_needWhat_19 : decode cX11_needWhat 19 = .ok (.athrow, 1) := by decide +kernel
theorem dX11_needWhat_20 : decode cX11_needWhat 20 = .ok (.return_, 1) := by decide +kernel
theorem dX11_needWithin_0 : decode cX11_needWithin 0 = .ok (.iload_n 0, 1) := by decide +kernel
theorem dX11_needWithin_1 : decode cX11_needWithin 1 = .ok (.iload_n 1, 1) := by decide +kernel
theorem dX11_needWithin_2 : decode cX11_needWithin 2 = .ok (.iload_n 2, 1) := by decide +kernel
theorem dX11_needWithin_3 : decode cX11_needWithin 3 = .ok (.invokestatic 214, 3) := by decide +kernel
theorem dX11_needWithin_6 : decode cX11_needWithin 6 = .ok (.ifCond .ne 14, 3) := by decide +kernel
theorem dX11_needWithin_9 : decode cX11_needWithin 9 = .ok (.new 82, 3) := by decide +kernel
theorem dX11_needWithin_12 : decode cX11_needWithin 12 = .ok (.dup, 1) := by decide +kernel
theorem dX11_needWithin_13 : decode cX11_needWithin 13 = .ok (.ldc_w 378, 3) := by decide +kernel
theorem dX11_needWithin_16 : decode cX11_needWithin 16 = .ok (.invokespecial 86, 3) := by decide +kernel
theorem dX11_needWithin_19 : decode cX11_needWithin 19 = .ok (.athrow, 1) := by decide +kernel
theorem dX11_needWithin_20 : decode cX11_needWithin 20 = .ok (.return_, 1) := by decide +kernel
theorem dX11_needGrottoes_0 : decode cX11_needGrottoes 0 = .ok (.iload_n 1, 1) := by decide +kernel
theorem dX11_needGrottoes_1 : decode cX11_needGrottoes 1 = .ok (.ifCond .lt 16, 3) := by decide +kernel
theorem dX11_needGrottoes_4 : decode cX11_needGrottoes 4 = .ok (.iload_n 1, 1) := by decide +kernel
theorem dX11_needGrottoes_5 : decode cX11_needGrottoes 5 = .ok (.iconst 1, 1) := by decide +kernel
theorem dX11_needGrottoes_6 : decode cX11_needGrottoes 6 = .ok (.aload_n 0, 1) := by decide +kernel
theorem dX11_needGrottoes_7 : decode cX11_needGrottoes 7 = .ok (.getfield 57, 3) := by decide +kernel
theorem dX11_needGrottoes_10 : decode cX11_needGrottoes 10 = .ok (.getfield 108, 3) := by decide +kernel
theorem dX11_needGrottoes_13 : decode cX11_needGrottoes 13 = .ok (.ishl, 1) := by decide +kernel
theorem dX11_needGrottoes_14 : decode cX11_needGrottoes 14 = .ok (.if_icmp .lt 14, 3) := by decide +kernel
theorem dX11_needGrottoes_17 : decode cX11_needGrottoes 17 = .ok (.new 82, 3) := by decide +kernel
theorem dX11_needGrottoes_20 : decode cX11_needGrottoes 20 = .ok (.dup, 1) := by decide +kernel
theorem dX11_needGrottoes_21 : decode cX11_needGrottoes 21 = .ok (.ldc_w 380, 3) := by decide +kernel
theorem dX11_needGrottoes_24 : decode cX11_needGrottoes 24 = .ok (.invokespecial 86, 3) := by decide +kernel
theorem dX11_needGrottoes_27 : decode cX11_needGrottoes 27 = .ok (.athrow, 1) := by decide +kernel
theorem dX11_needGrottoes_28 : decode cX11_needGrottoes 28 = .ok (.return_, 1) := by decide +kernel
theorem dX11_isWithin_0 : decode cX11_isWithin 0 = .ok (.iload_n 0, 1) := by decide +kernel
theorem dX11_isWithin_1 : decode cX11_isWithin 1 = .ok (.iload_n 1, 1) := by decide +kernel
theorem dX11_isWithin_2 : decode cX11_isWithin 2 = .ok (.if_icmp .lt 12, 3) := by decide +kernel
theorem dX11_isWithin_5 : decode cX11_isWithin 5 = .ok (.iload_n 0, 1) := by decide +kernel
theorem dX11_isWithin_6 : decode cX11_isWithin 6 = .ok (.iload_n 2, 1) := by decide +kernel
theorem dX11_isWithin_7 : decode cX11_isWithin 7 = .ok (.if_icmp .gt 7, 3) := by decide +kernel
theorem dX11_isWithin_10 : decode cX11_isWithin 10 = .ok (.iconst 1, 1) := by decide +kernel
theorem dX11_isWithin_11 : decode cX11_isWithin 11 = .ok (.goto 4, 3) := by decide +kernel
theorem dX11_isWithin_14 : decode cX11_isWithin 14 = .ok (.iconst 0, 1) := by decide +kernel
theorem dX11_isWithin_15 : decode cX11_isWithin 15 = .ok (.ireturn, 1) := by decide +kernel
theorem dX11_isOneOf_0 : decode cX11_isOneOf 0 = .ok (.iload_n 0, 1) := by decide +kernel
theorem dX11_isOneOf_1 : decode cX11_isOneOf 1 = .ok (.iload_n 1, 1) := by decide +kernel
theorem dX11_isOneOf_2 : decode cX11_isOneOf 2 = .ok (.ishr, 1) := by decide +kernel
theorem dX11_isOneOf_3 : decode cX11_isOneOf 3 = .ok (.iconst 1, 1) := by decide +kernel
theorem dX11_isOneOf_4 : decode cX11_isOneOf 4 = .ok (.iand, 1) := by decide +kernel
theorem dX11_isOneOf_5 : decode cX11_isOneOf 5 = .ok (.ifCond .eq 7, 3) := by decide +kernel
theorem dX11_isOneOf_8 : decode cX11_isOneOf 8 = .ok (.iconst 1, 1) := by decide +kernel
theorem dX11_isOneOf_9 : decode cX11_isOneOf 9 = .ok (.goto 4, 3) := by decide +kernel
theorem dX11_isOneOf_12 : decode cX11_isOneOf 12 = .ok (.iconst 0, 1) := by decide +kernel
theorem dX11_isOneOf_13 : decode cX11_isOneOf 13 = .ok (.ireturn, 1) := by decide +kernel
theorem dX11_dripsAhead_0 : decode cX11_dripsAhead 0 = .ok (.aload_n 0, 1) := by decide +kernel
theorem dX11_dripsAhead_1 : decode cX11_dripsAhead 1 = .ok (.getfield 19, 3) := by decide +kernel
theorem dX11_dripsAhead_4 : decode cX11_dripsAhead 4 = .ok (.getfield 105, 3) := by decide +kernel
theorem dX11_dripsAhead_7 : decode cX11_dripsAhead 7 = .ok (.getfield 114, 3) := by decide +kernel
theorem dX11_dripsAhead_10 : decode cX11_dripsAhead 10 = .ok (.iload_n 2, 1) := by decide +kernel
theorem dX11_dripsAhead_11 : decode cX11_dripsAhead 11 = .ok (.iadd, 1) := by decide +kernel
theorem dX11_dripsAhead_12 : decode cX11_dripsAhead 12 = .ok (.iconst 1, 1) := by decide +kernel
theorem dX11_dripsAhead_13 : decode cX11_dripsAhead 13 = .ok (.isub, 1) := by decide +kernel
theorem dX11_dripsAhead_14 : decode cX11_dripsAhead 14 = .ok (.istore_n 3, 1) := by decide +kernel
theorem dX11_dripsAhead_15 : decode cX11_dripsAhead 15 = .ok (.aload_n 0, 1) := by decide +kernel
theorem dX11_dripsAhead_16 : decode cX11_dripsAhead 16 = .ok (.getfield 57, 3) := by decide +kernel
theorem dX11_dripsAhead_19 : decode cX11_dripsAhead 19 = .ok (.iload_n 1, 1) := by decide +kernel
theorem dX11_dripsAhead_20 : decode cX11_dripsAhead 20 = .ok (.iload_n 3, 1) := by decide +kernel
theorem dX11_dripsAhead_21 : decode cX11_dripsAhead 21 = .ok (.aload_n 0, 1) := by decide +kernel
theorem dX11_dripsAhead_22 : decode cX11_dripsAhead 22 = .ok (.getfield 57, 3) := by decide +kernel
theorem dX11_dripsAhead_25 : decode cX11_dripsAhead 25 = .ok (.iload_n 3, 1) := by decide +kernel
theorem dX11_dripsAhead_26 : decode cX11_dripsAhead 26 = .ok (.invokevirtual 117, 3) := by decide +kernel
theorem dX11_dripsAhead_29 : decode cX11_dripsAhead 29 = .ok (.aload_n 0, 1) := by decide +kernel
theorem dX11_dripsAhead_30 : decode cX11_dripsAhead 30 = .ok (.getfield 19, 3) := by decide +kernel
theorem dX11_dripsAhead_33 : decode cX11_dripsAhead 33 = .ok (.getfield 105, 3) := by decide +kernel
theorem dX11_dripsAhead_36 : decode cX11_dripsAhead 36 = .ok (.getfield 128, 3) := by decide +kernel
theorem dX11_dripsAhead_39 : decode cX11_dripsAhead 39 = .ok (.invokevirtual 382, 3) := by decide +kernel
theorem dX11_dripsAhead_42 : decode cX11_dripsAhead 42 = .ok (.ireturn, 1) := by decide +kernel
theorem dX11_dripBits_0 : decode cX11_dripBits 0 = .ok (.iconst 0, 1) := by decide +kernel
theorem dX11_dripBits_1 : decode cX11_dripBits 1 = .ok (.istore_n 2, 1) := by decide +kernel
theorem dX11_dripBits_2 : decode cX11_dripBits 2 = .ok (.iconst 0, 1) := by decide +kernel
theorem dX11_dripBits_3 : decode cX11_dripBits 3 = .ok (.istore_n 3, 1) := by decide +kernel
theorem dX11_dripBits_4 : decode cX11_dripBits 4 = .ok (.iload_n 3, 1) := by decide +kernel
theorem dX11_dripBits_5 : decode cX11_dripBits 5 = .ok (.aload_n 0, 1) := by decide +kernel
theorem dX11_dripBits_6 : decode cX11_dripBits 6 = .ok (.getfield 57, 3) := by decide +kernel
theorem dX11_dripBits_9 : decode cX11_dripBits 9 = .ok (.getfield 108, 3) := by decide +kernel
theorem dX11_dripBits_12 : decode cX11_dripBits 12 = .ok (.if_icmp .ge 24, 3) := by decide +kernel
theorem dX11_dripBits_15 : decode cX11_dripBits 15 = .ok (.aload_n 0, 1) := by decide +kernel
theorem dX11_dripBits_16 : decode cX11_dripBits 16 = .ok (.iload_n 3, 1) := by decide +kernel
theorem dX11_dripBits_17 : decode cX11_dripBits 17 = .ok (.iload_n 1, 1) := by decide +kernel
theorem dX11_dripBits_18 : decode cX11_dripBits 18 = .ok (.invokevirtual 290, 3) := by decide +kernel
theorem dX11_dripBits_21 : decode cX11_dripBits 21 = .ok (.ifCond .eq 9, 3) := by decide +kernel
theorem dX11_dripBits_24 : decode cX11_dripBits 24 = .ok (.iload_n 2, 1) := by decide +kernel
theorem dX11_dripBits_25 : decode cX11_dripBits 25 = .ok (.iconst 1, 1) := by decide +kernel
theorem dX11_dripBits_26 : decode cX11_dripBits 26 = .ok (.iload_n 3, 1) := by decide +kernel
theorem dX11_dripBits_27 : decode cX11_dripBits 27 = .ok (.ishl, 1) := by decide +kernel
theorem dX11_dripBits_28 : decode cX11_dripBits 28 = .ok (.ior, 1) := by decide +kernel
theorem dX11_dripBits_29 : decode cX11_dripBits 29 = .ok (.istore_n 2, 1) := by decide +kernel
theorem dX11_dripBits_30 : decode cX11_dripBits 30 = .ok (.iinc 3 1, 3) := by decide +kernel
theorem dX11_dripBits_33 : decode cX11_dripBits 33 = .ok (.goto (-29), 3) := by decide +kernel
theorem dX11_dripBits_36 : decode cX11_dripBits 36 = .ok (.iload_n 2, 1) := by decide +kernel
theorem dX11_dripBits_37 : decode cX11_dripBits 37 = .ok (.ireturn, 1) := by decide +kernel
theorem dX11_nextDrip_0 : decode cX11_nextDrip 0 = .ok (.iconst 1, 1) := by decide +kernel
theorem dX11_nextDrip_1 : decode cX11_nextDrip 1 = .ok (.istore_n 2, 1) := by decide +kernel
theorem dX11_nextDrip_2 : decode cX11_nextDrip 2 = .ok (.iload_n 2, 1) := by decide +kernel
theorem dX11_nextDrip_3 : decode cX11_nextDrip 3 = .ok (.bipush 60, 2) := by decide +kernel
theorem dX11_nextDrip_5 : decode cX11_nextDrip 5 = .ok (.if_icmp .gt 20, 3) := by decide +kernel
theorem dX11_nextDrip_8 : decode cX11_nextDrip 8 = .ok (.aload_n 0, 1) := by decide +kernel
theorem dX11_nextDrip_9 : decode cX11_nextDrip 9 = .ok (.iload_n 1, 1) := by decide +kernel
theorem dX11_nextDrip_10 : decode cX11_nextDrip 10 = .ok (.iload_n 2, 1) := by decide +kernel
theorem dX11_nextDrip_11 : decode cX11_nextDrip 11 = .ok (.invokevirtual 290, 3) := by decide +kernel
theorem dX11_nextDrip_14 : decode cX11_nextDrip 14 = .ok (.ifCond .eq 5, 3) := by decide +kernel
theorem dX11_nextDrip_17 : decode cX11_nextDrip 17 = .ok (.iload_n 2, 1) := by decide +kernel
theorem dX11_nextDrip_18 : decode cX11_nextDrip 18 = .ok (.ireturn, 1) := by decide +kernel
theorem dX11_nextDrip_19 : decode cX11_nextDrip 19 = .ok (.iinc 2 1, 3) := by decide +kernel
theorem dX11_nextDrip_22 : decode cX11_nextDrip 22 = .ok (.goto (-20), 3) := by decide +kernel
theorem dX11_nextDrip_25 : decode cX11_nextDrip 25 = .ok (.iconst (-1), 1) := by decide +kernel
theorem dX11_nextDrip_26 : decode cX11_nextDrip 26 = .ok (.ireturn, 1) := by decide +kernel
theorem dX11_costNow_0 : decode cX11_costNow 0 = .ok (.aload_n 0, 1) := by decide +kernel
theorem dX11_costNow_1 : decode cX11_costNow 1 = .ok (.getfield 36, 3) := by decide +kernel
theorem dX11_costNow_4 : decode cX11_costNow 4 = .ok (.aload_n 0, 1) := by decide +kernel
theorem dX11_costNow_5 : decode cX11_costNow 5 = .ok (.getfield 57, 3) := by decide +kernel
theorem dX11_costNow_8 : decode cX11_costNow 8 = .ok (.aload_n 0, 1) := by decide +kernel
theorem dX11_costNow_9 : decode cX11_costNow 9 = .ok (.getfield 19, 3) := by decide +kernel
theorem dX11_costNow_12 : decode cX11_costNow 12 = .ok (.getfield 105, 3) := by decide +kernel
theorem dX11_costNow_15 : decode cX11_costNow 15 = .ok (.iload_n 1, 1) := by decide +kernel
theorem dX11_costNow_16 : decode cX11_costNow 16 = .ok (.invokevirtual 243, 3) := by decide +kernel
theorem dX11_costNow_19 : decode cX11_costNow 19 = .ok (.aload_n 0, 1) := by decide +kernel
theorem dX11_costNow_20 : decode cX11_costNow 20 = .ok (.getfield 36, 3) := by decide +kernel
theorem dX11_costNow_23 : decode cX11_costNow 23 = .ok (.aload_n 0, 1) := by decide +kernel
theorem dX11_costNow_24 : decode cX11_costNow 24 = .ok (.getfield 57, 3) := by decide +kernel
theorem dX11_costNow_27 : decode cX11_costNow 27 = .ok (.invokevirtual 385, 3) := by decide +kernel
theorem dX11_costNow_30 : decode cX11_costNow 30 = .ok (.ireturn, 1) := by decide +kernel
theorem dX11_passHour_0 : decode cX11_passHour 0 = .ok (.iconst 0, 1) := by decide +kernel
theorem dX11_passHour_1 : decode cX11_passHour 1 = .ok (.istore_n 3, 1) := by decide +kernel
theorem dX11_passHour_2 : decode cX11_passHour 2 = .ok (.iconst 0, 1) := by decide +kernel
theorem dX11_passHour_3 : decode cX11_passHour 3 = .ok (.istore 4, 2) := by decide +kernel
theorem dX11_passHour_5 : decode cX11_passHour 5 = .ok (.iload 4, 2) := by decide +kernel
theorem dX11_passHour_7 : decode cX11_passHour 7 = .ok (.aload_n 0, 1) := by decide +kernel
theorem dX11_passHour_8 : decode cX11_passHour 8 = .ok (.getfield 57, 3) := by decide +kernel
theorem dX11_passHour_11 : decode cX11_passHour 11 = .ok (.getfield 111, 3) := by decide +kernel
theorem dX11_passHour_14 : decode cX11_passHour 14 = .ok (.if_icmp .ge 51, 3) := by decide +kernel
theorem dX11_passHour_17 : decode cX11_passHour 17 = .ok (.aload_n 0, 1) := by decide +kernel
theorem dX11_passHour_18 : decode cX11_passHour 18 = .ok (.getfield 36, 3) := by decide +kernel
theorem dX11_passHour_21 : decode cX11_passHour 21 = .ok (.aload_n 0, 1) := by decide +kernel
theorem dX11_passHour_22 : decode cX11_passHour 22 = .ok (.getfield 57, 3) := by decide +kernel
theorem dX11_passHour_25 : decode cX11_passHour 25 = .ok (.aload_n 1, 1) := by decide +kernel
theorem dX11_passHour_26 : decode cX11_passHour 26 = .ok (.iload 4, 2) := by decide +kernel
theorem dX11_passHour_28 : decode cX11_passHour 28 = .ok (.invokevirtual 243, 3) := by decide +kernel
theorem dX11_passHour_31 : decode cX11_passHour 31 = .ok (.aload_n 0, 1) := by decide +kernel
theorem dX11_passHour_32 : decode cX11_passHour 32 = .ok (.getfield 36, 3) := by decide +kernel
theorem dX11_passHour_35 : decode cX11_passHour 35 = .ok (.aload_n 0, 1) := by decide +kernel
theorem dX11_passHour_36 : decode cX11_passHour 36 = .ok (.getfield 57, 3) := by decide +kernel
theorem dX11_passHour_39 : decode cX11_passHour 39 = .ok (.iload_n 2, 1) := by decide +kernel
theorem dX11_passHour_40 : decode cX11_passHour 40 = .ok (.invokevirtual 262, 3) := by decide +kernel
theorem dX11_passHour_43 : decode cX11_passHour 43 = .ok (.ifCond .eq 6, 3) := by decide +kernel
theorem dX11_passHour_46 : decode cX11_passHour 46 = .ok (.iinc 3 1, 3) := by decide +kernel
theorem dX11_passHour_49 : decode cX11_passHour 49 = .ok (.aload_n 0, 1) := by decide +kernel
theorem dX11_passHour_50 : decode cX11_passHour 50 = .ok (.getfield 36, 3) := by decide +kernel
theorem dX11_passHour_53 : decode cX11_passHour 53 = .ok (.aload_n 1, 1) := by decide +kernel
theorem dX11_passHour_54 : decode cX11_passHour 54 = .ok (.iload 4, 2) := by decide +kernel
theorem dX11_passHour_56 : decode cX11_passHour 56 = .ok (.invokevirtual 388, 3) := by decide +kernel
theorem dX11_passHour_59 : decode cX11_passHour 59 = .ok (.iinc 4 1, 3) := by decide +kernel
theorem dX11_passHour_62 : decode cX11_passHour 62 = .ok (.goto (-57), 3) := by decide +kernel
theorem dX11_passHour_65 : decode cX11_passHour 65 = .ok (.aload_n 1, 1) := by decide +kernel
theorem dX11_passHour_66 : decode cX11_passHour 66 = .ok (.dup, 1) := by decide +kernel
theorem dX11_passHour_67 : decode cX11_passHour 67 = .ok (.getfield 114, 3) := by decide +kernel
theorem dX11_passHour_70 : decode cX11_passHour 70 = .ok (.iconst 1, 1) := by decide +kernel
theorem dX11_passHour_71 : decode cX11_passHour 71 = .ok (.iadd, 1) := by decide +kernel
theorem dX11_passHour_72 : decode cX11_passHour 72 = .ok (.putfield 114, 3) := by decide +kernel
theorem dX11_passHour_75 : decode cX11_passHour 75 = .ok (.iload_n 3, 1) := by decide +kernel
theorem dX11_passHour_76 : decode cX11_passHour 76 = .ok (.ireturn, 1) := by decide +kernel
theorem dX11_nextOf_0 : decode cX11_nextOf 0 = .ok (.iconst 0, 1) := by decide +kernel
theorem dX11_nextOf_1 : decode cX11_nextOf 1 = .ok (.istore 4, 2) := by decide +kernel
theorem dX11_nextOf_3 : decode cX11_nextOf 3 = .ok (.iload 4, 2) := by decide +kernel
theorem dX11_nextOf_5 : decode cX11_nextOf 5 = .ok (.aload_n 0, 1) := by decide +kernel
theorem dX11_nextOf_6 : decode cX11_nextOf 6 = .ok (.getfield 57, 3) := by decide +kernel
theorem dX11_nextOf_9 : decode cX11_nextOf 9 = .ok (.getfield 165, 3) := by decide +kernel
theorem dX11_nextOf_12 : decode cX11_nextOf 12 = .ok (.iload_n 1, 1) := by decide +kernel
theorem dX11_nextOf_13 : decode cX11_nextOf 13 = .ok (.iaload, 1) := by decide +kernel
theorem dX11_nextOf_14 : decode cX11_nextOf 14 = .ok (.if_icmp .ge 46, 3) := by decide +kernel
theorem dX11_nextOf_17 : decode cX11_nextOf 17 = .ok (.iload_n 2, 1) := by decide +kernel
theorem dX11_nextOf_18 : decode cX11_nextOf 18 = .ok (.iload 4, 2) := by decide +kernel
theorem dX11_nextOf_20 : decode cX11_nextOf 20 = .ok (.iload_n 3, 1) := by decide +kernel
theorem dX11_nextOf_21 : decode cX11_nextOf 21 = .ok (.imul, 1) := by decide +kernel
theorem dX11_nextOf_22 : decode cX11_nextOf 22 = .ok (.iadd, 1) := by decide +kernel
theorem dX11_nextOf_23 : decode cX11_nextOf 23 = .ok (.istore 5, 2) := by decide +kernel
theorem dX11_nextOf_25 : decode cX11_nextOf 25 = .ok (.aload_n 0, 1) := by decide +kernel
theorem dX11_nextOf_26 : decode cX11_nextOf 26 = .ok (.getfield 57, 3) := by decide +kernel
theorem dX11_nextOf_29 : decode cX11_nextOf 29 = .ok (.iload_n 1, 1) := by decide +kernel
theorem dX11_nextOf_30 : decode cX11_nextOf 30 = .ok (.aload_n 0, 1) := by decide +kernel
theorem dX11_nextOf_31 : decode cX11_nextOf 31 = .ok (.getfield 19, 3) := by decide +kernel
theorem dX11_nextOf_34 : decode cX11_nextOf 34 = .ok (.getfield 105, 3) := by decide +kernel
theorem dX11_nextOf_37 : decode cX11_nextOf 37 = .ok (.getfield 114, 3) := by decide +kernel
theorem dX11_nextOf_40 : decode cX11_nextOf 40 = .ok (.iload 5, 2) := by decide +kernel
theorem dX11_nextOf_42 : decode cX11_nextOf 42 = .ok (.iadd, 1) := by decide +kernel
theorem dX11_nextOf_43 : decode cX11_nextOf 43 = .ok (.iconst 1, 1) := by decide +kernel
theorem dX11_nextOf_44 : decode cX11_nextOf 44 = .ok (.isub, 1) := by decide +kernel
theorem dX11_nextOf_45 : decode cX11_nextOf 45 = .ok (.invokevirtual 392, 3) := by decide +kernel
theorem dX11_nextOf_48 : decode cX11_nextOf 48 = .ok (.ifCond .eq 6, 3) := by decide +kernel
theorem dX11_nextOf_51 : decode cX11_nextOf 51 = .ok (.iload 5, 2) := by decide +kernel
theorem dX11_nextOf_53 : decode cX11_nextOf 53 = .ok (.ireturn, 1) := by decide +kernel
theorem dX11_nextOf_54 : decode cX11_nextOf 54 = .ok (.iinc 4 1, 3) := by decide +kernel
theorem dX11_nextOf_57 : decode cX11_nextOf 57 = .ok (.goto (-54), 3) := by decide +kernel
theorem dX11_nextOf_60 : decode cX11_nextOf 60 = .ok (.iconst (-1), 1) := by decide +kernel
theorem dX11_nextOf_61 : decode cX11_nextOf 61 = .ok (.ireturn, 1) := by decide +kernel
theorem dX11_leastCommon_0 : decode cX11_leastCommon 0 = .ok (.iload_n 0, 1) := by decide +kernel
theorem dX11_leastCommon_1 : decode cX11_leastCommon 1 = .ok (.istore_n 2, 1) := by decide +kernel
theorem dX11_leastCommon_2 : decode cX11_leastCommon 2 = .ok (.iconst 1, 1) := by decide +kernel
theorem dX11_leastCommon_3 : decode cX11_leastCommon 3 = .ok (.istore_n 3, 1) := by decide +kernel
theorem dX11_leastCommon_4 : decode cX11_leastCommon 4 = .ok (.iload_n 3, 1) := by decide +kernel
theorem dX11_leastCommon_5 : decode cX11_leastCommon 5 = .ok (.iload_n 1, 1) := by decide +kernel
theorem dX11_leastCommon_6 : decode cX11_leastCommon 6 = .ok (.if_icmp .ge 19, 3) := by decide +kernel
theorem dX11_leastCommon_9 : decode cX11_leastCommon 9 = .ok (.iload_n 2, 1) := by decide +kernel
theorem dX11_leastCommon_10 : decode cX11_leastCommon 10 = .ok (.iload_n 1, 1) := by decide +kernel
theorem dX11_leastCommon_11 : decode cX11_leastCommon 11 = .ok (.irem, 1) := by decide +kernel
theorem dX11_leastCommon_12 : decode cX11_leastCommon 12 = .ok (.ifCond .eq 13, 3) := by decide +kernel
theorem dX11_leastCommon_15 : decode cX11_leastCommon 15 = .ok (.iload_n 2, 1) := by decide +kernel
theorem dX11_leastCommon_16 : decode cX11_leastCommon 16 = .ok (.iload_n 0, 1) := by decide +kernel
theorem dX11_leastCommon_17 : decode cX11_leastCommon 17 = .ok (.iadd, 1) := by decide +kernel
theorem dX11_leastCommon_18 : decode cX11_leastCommon 18 = .ok (.istore_n 2, 1) := by decide +kernel
theorem dX11_leastCommon_19 : decode cX11_leastCommon 19 = .ok (.iinc 3 1, 3) := by decide +kernel
theorem dX11_leastCommon_22 : decode cX11_leastCommon 22 = .ok (.goto (-18), 3) := by decide +kernel
theorem dX11_leastCommon_25 : decode cX11_leastCommon 25 = .ok (.iload_n 2, 1) := by decide +kernel
theorem dX11_leastCommon_26 : decode cX11_leastCommon 26 = .ok (.ireturn, 1) := by decide +kernel
theorem dX11_keeps_0 : decode cX11_keeps 0 = .ok (.aload_n 0, 1) := by decide +kernel
theorem dX11_keeps_1 : decode cX11_keeps 1 = .ok (.getfield 36, 3) := by decide +kernel
theorem dX11_keeps_4 : decode cX11_keeps 4 = .ok (.aload_n 0, 1) := by decide +kernel
theorem dX11_keeps_5 : decode cX11_keeps 5 = .ok (.getfield 57, 3) := by decide +kernel
theorem dX11_keeps_8 : decode cX11_keeps 8 = .ok (.aload_n 0, 1) := by decide +kernel
theorem dX11_keeps_9 : decode cX11_keeps 9 = .ok (.getfield 19, 3) := by decide +kernel
theorem dX11_keeps_12 : decode cX11_keeps 12 = .ok (.getfield 105, 3) := by decide +kernel
theorem dX11_keeps_15 : decode cX11_keeps 15 = .ok (.iload_n 1, 1) := by decide +kernel
theorem dX11_keeps_16 : decode cX11_keeps 16 = .ok (.invokevirtual 243, 3) := by decide +kernel
theorem dX11_keeps_19 : decode cX11_keeps 19 = .ok (.aload_n 0, 1) := by decide +kernel
theorem dX11_keeps_20 : decode cX11_keeps 20 = .ok (.getfield 36, 3) := by decide +kernel
theorem dX11_keeps_23 : decode cX11_keeps 23 = .ok (.iload_n 3, 1) := by decide +kernel
theorem dX11_keeps_24 : decode cX11_keeps 24 = .ok (.putfield 252, 3) := by decide +kernel
theorem dX11_keeps_27 : decode cX11_keeps 27 = .ok (.iconst 0, 1) := by decide +kernel
theorem dX11_keeps_28 : decode cX11_keeps 28 = .ok (.istore 4, 2) := by decide +kernel
theorem dX11_keeps_30 : decode cX11_keeps 30 = .ok (.iload 4, 2) := by decide +kernel
theorem dX11_keeps_32 : decode cX11_keeps 32 = .ok (.iload_n 2, 1) := by decide +kernel
theorem dX11_keeps_33 : decode cX11_keeps 33 = .ok (.if_icmp .ge 46, 3) := by decide +kernel
theorem dX11_keeps_36 : decode cX11_keeps 36 = .ok (.aload_n 0, 1) := by decide +kernel
theorem dX11_keeps_37 : decode cX11_keeps 37 = .ok (.getfield 36, 3) := by decide +kernel
theorem dX11_keeps_40 : decode cX11_keeps 40 = .ok (.getfield 256, 3) := by decide +kernel
theorem dX11_keeps_43 : decode cX11_keeps 43 = .ok (.iconst (-1), 1) := by decide +kernel
theorem dX11_keeps_44 : decode cX11_keeps 44 = .ok (.if_icmp .eq 35, 3) := by decide +kernel
theorem dX11_keeps_47 : decode cX11_keeps 47 = .ok (.aload_n 0, 1) := by decide +kernel
theorem dX11_keeps_48 : decode cX11_keeps 48 = .ok (.getfield 36, 3) := by decide +kernel
theorem dX11_keeps_51 : decode cX11_keeps 51 = .ok (.aload_n 0, 1) := by decide +kernel
theorem dX11_keeps_52 : decode cX11_keeps 52 = .ok (.getfield 57, 3) := by decide +kernel
theorem dX11_keeps_55 : decode cX11_keeps 55 = .ok (.aload_n 0, 1) := by decide +kernel
theorem dX11_keeps_56 : decode cX11_keeps 56 = .ok (.getfield 57, 3) := by decide +kernel
theorem dX11_keeps_59 : decode cX11_keeps 59 = .ok (.aload_n 0, 1) := by decide +kernel
theorem dX11_keeps_60 : decode cX11_keeps 60 = .ok (.getfield 36, 3) := by decide +kernel
theorem dX11_keeps_63 : decode cX11_keeps 63 = .ok (.getfield 261, 3) := by decide +kernel
theorem dX11_keeps_66 : decode cX11_keeps 66 = .ok (.invokevirtual 117, 3) := by decide +kernel
theorem dX11_keeps_69 : decode cX11_keeps 69 = .ok (.invokevirtual 262, 3) := by decide +kernel
theorem dX11_keeps_72 : decode cX11_keeps 72 = .ok (.pop, 1) := by decide +kernel
theorem dX11_keeps_73 : decode cX11_keeps 73 = .ok (.iinc 4 1, 3) := by decide +kernel
theorem dX11_keeps_76 : decode cX11_keeps 76 = .ok (.goto (-46), 3) := by decide +kernel
theorem dX11_keeps_79 : decode cX11_keeps 79 = .ok (.aload_n 0, 1) := by decide +kernel
theorem dX11_keeps_80 : decode cX11_keeps 80 = .ok (.getfield 36, 3) := by decide +kernel
theorem dX11_keeps_83 : decode cX11_keeps 83 = .ok (.getfield 256, 3) := by decide +kernel
theorem dX11_keeps_86 : decode cX11_keeps 86 = .ok (.iconst (-1), 1) := by decide +kernel
theorem dX11_keeps_87 : decode cX11_keeps 87 = .ok (.if_icmp .eq 7, 3) := by decide +kernel
theorem dX11_keeps_90 : decode cX11_keeps 90 = .ok (.iconst 1, 1) := by decide +kernel
theorem dX11_keeps_91 : decode cX11_keeps 91 = .ok (.goto 4, 3) := by decide +kernel
theorem dX11_keeps_94 : decode cX11_keeps 94 = .ok (.iconst 0, 1) := by decide +kernel
theorem dX11_keeps_95 : decode cX11_keeps 95 = .ok (.ireturn, 1) := by decide +kernel
theorem dX11_leastOfAllPurses_0 : decode cX11_leastOfAllPurses 0 = .ok (.iconst 0, 1) := by decide +kernel
theorem dX11_leastOfAllPurses_1 : decode cX11_leastOfAllPurses 1 = .ok (.istore_n 3, 1) := by decide +kernel
theorem dX11_leastOfAllPurses_2 : decode cX11_leastOfAllPurses 2 = .ok (.iload_n 3, 1) := by decide +kernel
theorem dX11_leastOfAllPurses_3 : decode cX11_leastOfAllPurses 3 = .ok (.sipush 999, 3) := by decide +kernel
theorem dX11_leastOfAllPurses_6 : decode cX11_leastOfAllPurses 6 = .ok (.if_icmp .gt 21, 3) := by decide +kernel
theorem dX11_leastOfAllPurses_9 : decode cX11_leastOfAllPurses 9 = .ok (.aload_n 0, 1) := by decide +kernel
theorem dX11_leastOfAllPurses_10 : decode cX11_leastOfAllPurses 10 = .ok (.iload_n 1, 1) := by decide +kernel
theorem dX11_leastOfAllPurses_11 : decode cX11_leastOfAllPurses 11 = .ok (.iload_n 2, 1) := by decide +kernel
theorem dX11_leastOfAllPurses_12 : decode cX11_leastOfAllPurses 12 = .ok (.iload_n 3, 1) := by decide +kernel
theorem dX11_leastOfAllPurses_13 : decode cX11_leastOfAllPurses 13 = .ok (.invokevirtual 395, 3) := by decide +kernel
theorem dX11_leastOfAllPurses_16 : decode cX11_leastOfAllPurses 16 = .ok (.ifCond .eq 5, 3) := by decide +kernel
theorem dX11_leastOfAllPurses_19 : decode cX11_leastOfAllPurses 19 = .ok (.iload_n 3, 1) := by decide +kernel
theorem dX11_leastOfAllPurses_20 : decode cX11_leastOfAllPurses 20 = .ok (.ireturn, 1) := by decide +kernel
theorem dX11_leastOfAllPurses_21 : decode cX11_leastOfAllPurses 21 = .ok (.iinc 3 1, 3) := by decide +kernel
theorem dX11_leastOfAllPurses_24 : decode cX11_leastOfAllPurses 24 = .ok (.goto (-22), 3) := by decide +kernel
theorem dX11_leastOfAllPurses_27 : decode cX11_leastOfAllPurses 27 = .ok (.iconst (-1), 1) := by decide +kernel
theorem dX11_leastOfAllPurses_28 : decode cX11_leastOfAllPurses 28 = .ok (.ireturn, 1) := by decide +kernel
theorem dX11_leastByHalves_0 : decode cX11_leastByHalves 0 = .ok (.iconst 0, 1) := by decide +kernel
theorem dX11_leastByHalves_1 : decode cX11_leastByHalves 1 = .ok (.istore_n 3, 1) := by decide +kernel
theorem dX11_leastByHalves_2 : decode cX11_leastByHalves 2 = .ok (.sipush 1000, 3) := by decide +kernel
theorem dX11_leastByHalves_5 : decode cX11_leastByHalves 5 = .ok (.istore 4, 2) := by decide +kernel
theorem dX11_leastByHalves_7 : decode cX11_leastByHalves 7 = .ok (.iconst 0, 1) := by decide +kernel
theorem dX11_leastByHalves_8 : decode cX11_leastByHalves 8 = .ok (.istore 5, 2) := by decide +kernel
theorem dX11_leastByHalves_10 : decode cX11_leastByHalves 10 = .ok (.iload 5, 2) := by decide +kernel
theorem dX11_leastByHalves_12 : decode cX11_leastByHalves 12 = .ok (.sipush 999, 3) := by decide +kernel
theorem dX11_leastByHalves_15 : decode cX11_leastByHalves 15 = .ok (.if_icmp .gt 54, 3) := by decide +kernel
theorem dX11_leastByHalves_18 : decode cX11_leastByHalves 18 = .ok (.iload_n 3, 1) := by decide +kernel
theorem dX11_leastByHalves_19 : decode cX11_leastByHalves 19 = .ok (.iload 4, 2) := by decide +kernel
theorem dX11_leastByHalves_21 : decode cX11_leastByHalves 21 = .ok (.if_icmp .ge 48, 3) := by decide +kernel
theorem dX11_leastByHalves_24 : decode cX11_leastByHalves 24 = .ok (.iload_n 3, 1) := by decide +kernel
theorem dX11_leastByHalves_25 : decode cX11_leastByHalves 25 = .ok (.iload 4, 2) := by decide +kernel
theorem dX11_leastByHalves_27 : decode cX11_leastByHalves 27 = .ok (.iadd, 1) := by decide +kernel
theorem dX11_leastByHalves_28 : decode cX11_leastByHalves 28 = .ok (.iconst 2, 1) := by decide +kernel
theorem dX11_leastByHalves_29 : decode cX11_leastByHalves 29 = .ok (.idiv, 1) := by decide +kernel
theorem dX11_leastByHalves_30 : decode cX11_leastByHalves 30 = .ok (.istore 6, 2) := by decide +kernel
theorem dX11_leastByHalves_32 : decode cX11_leastByHalves 32 = .ok (.iload 6, 2) := by decide +kernel
theorem dX11_leastByHalves_34 : decode cX11_leastByHalves 34 = .ok (.sipush 999, 3) := by decide +kernel
theorem dX11_leastByHalves_37 : decode cX11_leastByHalves 37 = .ok (.if_icmp .gt 14, 3) := by decide +kernel
theorem dX11_leastByHalves_40 : decode cX11_leastByHalves 40 = .ok (.aload_n 0, 1) := by decide +kernel
theorem dX11_leastByHalves_41 : decode cX11_leastByHalves 41 = .ok (.iload_n 1, 1) := by decide +kernel
theorem dX11_leastByHalves_42 : decode cX11_leastByHalves 42 = .ok (.iload_n 2, 1) := by decide +kernel
theorem dX11_leastByHalves_43 : decode cX11_leastByHalves 43 = .ok (.iload 6, 2) := by decide +kernel
theorem dX11_leastByHalves_45 : decode cX11_leastByHalves 45 = .ok (.invokevirtual 395, 3) := by decide +kernel
theorem dX11_leastByHalves_48 : decode cX11_leastByHalves 48 = .ok (.ifCond .eq 10, 3) := by decide +kernel
theorem dX11_leastByHalves_51 : decode cX11_leastByHalves 51 = .ok (.iload 6, 2) := by decide +kernel
theorem dX11_leastByHalves_53 : decode cX11_leastByHalves 53 = .ok (.istore 4, 2) := by decide +kernel
theorem dX11_leastByHalves_55 : decode cX11_leastByHalves 55 = .ok (.goto 8, 3) := by decide +kernel
theorem dX11_leastByHalves_58 : decode cX11_leastByHalves 58 = .ok (.iload 6, 2) := by decide +kernel
theorem dX11_leastByHalves_60 : decode cX11_leastByHalves 60 = .ok (.iconst 1, 1) := by decide +kernel
theorem dX11_leastByHalves_61 : decode cX11_leastByHalves 61 = .ok (.iadd, 1) := by decide +kernel
theorem dX11_leastByHalves_62 : decode cX11_leastByHalves 62 = .ok (.istore_n 3, 1) := by decide +kernel
theorem dX11_leastByHalves_63 : decode cX11_leastByHalves 63 = .ok (.iinc 5 1, 3) := by decide +kernel
theorem dX11_leastByHalves_66 : decode cX11_leastByHalves 66 = .ok (.goto (-56), 3) := by decide +kernel
theorem dX11_leastByHalves_69 : decode cX11_leastByHalves 69 = .ok (.iload_n 3, 1) := by decide +kernel
theorem dX11_leastByHalves_70 : decode cX11_leastByHalves 70 = .ok (.sipush 999, 3) := by decide +kernel
theorem dX11_leastByHalves_73 : decode cX11_leastByHalves 73 = .ok (.if_icmp .le 7, 3) := by decide +kernel
theorem dX11_leastByHalves_76 : decode cX11_leastByHalves 76 = .ok (.iconst (-1), 1) := by decide +kernel
theorem dX11_leastByHalves_77 : decode cX11_leastByHalves 77 = .ok (.goto 4, 3) := by decide +kernel
theorem dX11_leastByHalves_80 : decode cX11_leastByHalves 80 = .ok (.iload_n 3, 1) := by decide +kernel
theorem dX11_leastByHalves_81 : decode cX11_leastByHalves 81 = .ok (.ireturn, 1) := by decide +kernel
theorem dX11_mostChoice_0 : decode cX11_mostChoice 0 = .ok (.aload_n 0, 1) := by decide +kernel
theorem dX11_mostChoice_1 : decode cX11_mostChoice 1 = .ok (.getfield 19, 3) := by decide +kernel
theorem dX11_mostChoice_4 : decode cX11_mostChoice 4 = .ok (.getfield 105, 3) := by decide +kernel
theorem dX11_mostChoice_7 : decode cX11_mostChoice 7 = .ok (.getfield 200, 3) := by decide +kernel
theorem dX11_mostChoice_10 : decode cX11_mostChoice 10 = .ok (.iload_n 1, 1) := by decide +kernel
theorem dX11_mostChoice_11 : decode cX11_mostChoice 11 = .ok (.iaload, 1) := by decide +kernel
theorem dX11_mostChoice_12 : decode cX11_mostChoice 12 = .ok (.bipush 50, 2) := by decide +kernel
theorem dX11_mostChoice_14 : decode cX11_mostChoice 14 = .ok (.if_icmp .ge 7, 3) := by decide +kernel
theorem dX11_mostChoice_17 : decode cX11_mostChoice 17 = .ok (.iconst 0, 1) := by decide +kernel
theorem dX11_mostChoice_18 : decode cX11_mostChoice 18 = .ok (.goto 4, 3) := by decide +kernel
theorem dX11_mostChoice_21 : decode cX11_mostChoice 21 = .ok (.iconst 1, 1) := by decide +kernel
theorem dX11_mostChoice_22 : decode cX11_mostChoice 22 = .ok (.ireturn, 1) := by decide +kernel
theorem dX11_isContent_0 : decode cX11_isContent 0 = .ok (.iconst 1, 1) := by decide +kernel
theorem dX11_isContent_1 : decode cX11_isContent 1 = .ok (.iload_n 2, 1) := by decide +kernel
theorem dX11_isContent_2 : decode cX11_isContent 2 = .ok (.isub, 1) := by decide +kernel
theorem dX11_isContent_3 : decode cX11_isContent 3 = .ok (.istore 5, 2) := by decide +kernel
theorem dX11_isContent_5 : decode cX11_isContent 5 = .ok (.iload 5, 2) := by decide +kernel
theorem dX11_isContent_7 : decode cX11_isContent 7 = .ok (.aload_n 0, 1) := by decide +kernel
theorem dX11_isContent_8 : decode cX11_isContent 8 = .ok (.iload_n 1, 1) := by decide +kernel
theorem dX11_isContent_9 : decode cX11_isContent 9 = .ok (.invokevirtual 346, 3) := by decide +kernel
theorem dX11_isContent_12 : decode cX11_isContent 12 = .ok (.if_icmp .gt 25, 3) := by decide +kernel
theorem dX11_isContent_15 : decode cX11_isContent 15 = .ok (.aload_n 0, 1) := by decide +kernel
theorem dX11_isContent_16 : decode cX11_isContent 16 = .ok (.iload_n 1, 1) := by decide +kernel
theorem dX11_isContent_17 : decode cX11_isContent 17 = .ok (.iload 5, 2) := by decide +kernel
theorem dX11_isContent_19 : decode cX11_isContent 19 = .ok (.iload_n 3, 1) := by decide +kernel
theorem dX11_isContent_20 : decode cX11_isContent 20 = .ok (.iload 4, 2) := by decide +kernel
theorem dX11_isContent_22 : decode cX11_isContent 22 = .ok (.invokevirtual 398, 3) := by decide +kernel
theorem dX11_isContent_25 : decode cX11_isContent 25 = .ok (.aload_n 0, 1) := by decide +kernel
theorem dX11_isContent_26 : decode cX11_isContent 26 = .ok (.iload_n 1, 1) := by decide +kernel
theorem dX11_isContent_27 : decode cX11_isContent 27 = .ok (.iload_n 2, 1) := by decide +kernel
theorem dX11_isContent_28 : decode cX11_isContent 28 = .ok (.iload_n 3, 1) := by decide +kernel
theorem dX11_isContent_29 : decode cX11_isContent 29 = .ok (.iload 4, 2) := by decide +kernel
theorem dX11_isContent_31 : decode cX11_isContent 31 = .ok (.invokevirtual 398, 3) := by decide +kernel
theorem dX11_isContent_34 : decode cX11_isContent 34 = .ok (.if_icmp .gt 7, 3) := by decide +kernel
theorem dX11_isContent_37 : decode cX11_isContent 37 = .ok (.iconst 1, 1) := by decide +kernel
theorem dX11_isContent_38 : decode cX11_isContent 38 = .ok (.goto 4, 3) := by decide +kernel
theorem dX11_isContent_41 : decode cX11_isContent 41 = .ok (.iconst 0, 1) := by decide +kernel
theorem dX11_isContent_42 : decode cX11_isContent 42 = .ok (.ireturn, 1) := by decide +kernel
theorem dX11_gain_0 : decode cX11_gain 0 = .ok (.iconst 5, 1) := by decide +kernel
theorem dX11_gain_1 : decode cX11_gain 1 = .ok (.aload_n 0, 1) := by decide +kernel
theorem dX11_gain_2 : decode cX11_gain 2 = .ok (.iload_n 1, 1) := by decide +kernel
theorem dX11_gain_3 : decode cX11_gain 3 = .ok (.iload_n 2, 1) := by decide +kernel
theorem dX11_gain_4 : decode cX11_gain 4 = .ok (.invokevirtual 402, 3) := by decide +kernel
theorem dX11_gain_7 : decode cX11_gain 7 = .ok (.imul, 1) := by decide +kernel
theorem dX11_gain_8 : decode cX11_gain 8 = .ok (.bipush 6, 2) := by decide +kernel
theorem dX11_gain_10 : decode cX11_gain 10 = .ok (.iload_n 2, 1) := by decide +kernel
theorem dX11_gain_11 : decode cX11_gain 11 = .ok (.imul, 1) := by decide +kernel
theorem dX11_gain_12 : decode cX11_gain 12 = .ok (.isub, 1) := by decide +kernel
theorem dX11_gain_13 : decode cX11_gain 13 = .ok (.iconst 3, 1) := by decide +kernel
theorem dX11_gain_14 : decode cX11_gain 14 = .ok (.aload_n 0, 1) := by decide +kernel
theorem dX11_gain_15 : decode cX11_gain 15 = .ok (.iload_n 3, 1) := by decide +kernel
theorem dX11_gain_16 : decode cX11_gain 16 = .ok (.iload 4, 2) := by decide +kernel
theorem dX11_gain_18 : decode cX11_gain 18 = .ok (.invokevirtual 402, 3) := by decide +kernel
theorem dX11_gain_21 : decode cX11_gain 21 = .ok (.imul, 1) := by decide +kernel
theorem dX11_gain_22 : decode cX11_gain 22 = .ok (.isub, 1) := by decide +kernel
theorem dX11_gain_23 : decode cX11_gain 23 = .ok (.ireturn, 1) := by decide +kernel
theorem dX11_quietHours_0 : decode cX11_quietHours 0 = .ok (.aload_n 0, 1) := by decide +kernel
theorem dX11_quietHours_1 : decode cX11_quietHours 1 = .ok (.getfield 36, 3) := by decide +kernel
theorem dX11_quietHours_4 : decode cX11_quietHours 4 = .ok (.aload_n 0, 1) := by decide +kernel
theorem dX11_quietHours_5 : decode cX11_quietHours 5 = .ok (.getfield 57, 3) := by decide +kernel
theorem dX11_quietHours_8 : decode cX11_quietHours 8 = .ok (.aload_n 0, 1) := by decide +kernel
theorem dX11_quietHours_9 : decode cX11_quietHours 9 = .ok (.getfield 19, 3) := by decide +kernel
theorem dX11_quietHours_12 : decode cX11_quietHours 12 = .ok (.getfield 105, 3) := by decide +kernel
theorem dX11_quietHours_15 : decode cX11_quietHours 15 = .ok (.iload_n 1, 1) := by decide +kernel
theorem dX11_quietHours_16 : decode cX11_quietHours 16 = .ok (.invokevirtual 243, 3) := by decide +kernel
theorem dX11_quietHours_19 : decode cX11_quietHours 19 = .ok (.iload_n 2, 1) := by decide +kernel
theorem dX11_quietHours_20 : decode cX11_quietHours 20 = .ok (.iconst 1, 1) := by decide +kernel
theorem dX11_quietHours_21 : decode cX11_quietHours 21 = .ok (.if_icmp .ne 10, 3) := by decide +kernel
theorem dX11_quietHours_24 : decode cX11_quietHours 24 = .ok (.aload_n 0, 1) := by decide +kernel
theorem dX11_quietHours_25 : decode cX11_quietHours 25 = .ok (.getfield 36, 3) := by decide +kernel
theorem dX11_quietHours_28 : decode cX11_quietHours 28 = .ok (.invokevirtual 322, 3) := by decide +kernel
theorem dX11_quietHours_31 : decode cX11_quietHours 31 = .ok (.iconst 0, 1) := by decide +kernel
theorem dX11_quietHours_32 : decode cX11_quietHours 32 = .ok (.istore_n 3, 1) := by decide +kernel
theorem dX11_quietHours_33 : decode cX11_quietHours 33 = .ok (.iconst 0, 1) := by decide +kernel
theorem dX11_quietHours_34 : decode cX11_quietHours 34 = .ok (.istore 4, 2) := by decide +kernel
theorem dX11_quietHours_36 : decode cX11_quietHours 36 = .ok (.iload 4, 2) := by decide +kernel
theorem dX11_quietHours_38 : decode cX11_quietHours 38 = .ok (.bipush 8, 2) := by decide +kernel
theorem dX11_quietHours_40 : decode cX11_quietHours 40 = .ok (.if_icmp .ge 40, 3) := by decide +kernel
theorem dX11_quietHours_43 : decode cX11_quietHours 43 = .ok (.aload_n 0, 1) := by decide +kernel
theorem dX11_quietHours_44 : decode cX11_quietHours 44 = .ok (.getfield 36, 3) := by decide +kernel
theorem dX11_quietHours_47 : decode cX11_quietHours 47 = .ok (.aload_n 0, 1) := by decide +kernel
theorem dX11_quietHours_48 : decode cX11_quietHours 48 = .ok (.getfield 57, 3) := by decide +kernel
theorem dX11_quietHours_51 : decode cX11_quietHours 51 = .ok (.aload_n 0, 1) := by decide +kernel
theorem dX11_quietHours_52 : decode cX11_quietHours 52 = .ok (.getfield 57, 3) := by decide +kernel
theorem dX11_quietHours_55 : decode cX11_quietHours 55 = .ok (.aload_n 0, 1) := by decide +kernel
theorem dX11_quietHours_56 : decode cX11_quietHours 56 = .ok (.getfield 36, 3) := by decide +kernel
theorem dX11_quietHours_59 : decode cX11_quietHours 59 = .ok (.getfield 261, 3) := by decide +kernel
theorem dX11_quietHours_62 : decode cX11_quietHours 62 = .ok (.invokevirtual 117, 3) := by decide +kernel
theorem dX11_quietHours_65 : decode cX11_quietHours 65 = .ok (.invokevirtual 262, 3) := by decide +kernel
theorem dX11_quietHours_68 : decode cX11_quietHours 68 = .ok (.ifCond .ne 6, 3) := by decide +kernel
theorem dX11_quietHours_71 : decode cX11_quietHours 71 = .ok (.iinc 3 1, 3) := by decide +kernel
theorem dX11_quietHours_74 : decode cX11_quietHours 74 = .ok (.iinc 4 1, 3) := by decide +kernel
theorem dX11_quietHours_77 : decode cX11_quietHours 77 = .ok (.goto (-41), 3) := by decide +kernel
theorem dX11_quietHours_80 : decode cX11_quietHours 80 = .ok (.iload_n 3, 1) := by decide +kernel
theorem dX11_quietHours_81 : decode cX11_quietHours 81 = .ok (.ireturn, 1) := by decide +kernel
theorem dX11_draw_0 : decode cX11_draw 0 = .ok (.aload_n 0, 1) := by decide +kernel
theorem dX11_draw_1 : decode cX11_draw 1 = .ok (.aload_n 0, 1) := by decide +kernel
theorem dX11_draw_2 : decode cX11_draw 2 = .ok (.getfield 65, 3) := by decide +kernel
theorem dX11_draw_5 : decode cX11_draw 5 = .ok (.ldc_w 405, 3) := by decide +kernel
theorem dX11_draw_8 : decode cX11_draw 8 = .ok (.imul, 1) := by decide +kernel
theorem dX11_draw_9 : decode cX11_draw 9 = .ok (.sipush 12345, 3) := by decide +kernel
theorem dX11_draw_12 : decode cX11_draw 12 = .ok (.iadd, 1) := by decide +kernel
theorem dX11_draw_13 : decode cX11_draw 13 = .ok (.putfield 65, 3) := by decide +kernel
theorem dX11_draw_16 : decode cX11_draw 16 = .ok (.iload_n 1, 1) := by decide +kernel
theorem dX11_draw_17 : decode cX11_draw 17 = .ok (.iconst 1, 1) := by decide +kernel
theorem dX11_draw_18 : decode cX11_draw 18 = .ok (.if_icmp .ge 7, 3) := by decide +kernel
theorem dX11_draw_21 : decode cX11_draw 21 = .ok (.iconst 0, 1) := by decide +kernel
theorem dX11_draw_22 : decode cX11_draw 22 = .ok (.goto 16, 3) := by decide +kernel
theorem dX11_draw_25 : decode cX11_draw 25 = .ok (.aload_n 0, 1) := by decide +kernel
theorem dX11_draw_26 : decode cX11_draw 26 = .ok (.getfield 65, 3) := by decide +kernel
theorem dX11_draw_29 : decode cX11_draw 29 = .ok (.bipush 16, 2) := by decide +kernel
theorem dX11_draw_31 : decode cX11_draw 31 = .ok (.iushr, 1) := by decide +kernel
theorem dX11_draw_32 : decode cX11_draw 32 = .ok (.sipush 32767, 3) := by decide +kernel
theorem dX11_draw_35 : decode cX11_draw 35 = .ok (.iand, 1) := by decide +kernel
theorem dX11_draw_36 : decode cX11_draw 36 = .ok (.iload_n 1, 1) := by decide +kernel
theorem dX11_draw_37 : decode cX11_draw 37 = .ok (.irem, 1) := by decide +kernel
theorem dX11_draw_38 : decode cX11_draw 38 = .ok (.ireturn, 1) := by decide +kernel
theorem dX11_chance_0 : decode cX11_chance 0 = .ok (.aload_n 0, 1) := by decide +kernel
theorem dX11_chance_1 : decode cX11_chance 1 = .ok (.getfield 57, 3) := by decide +kernel
theorem dX11_chance_4 : decode cX11_chance 4 = .ok (.getfield 111, 3) := by decide +kernel
theorem dX11_chance_7 : decode cX11_chance 7 = .ok (.ifCond .eq 13, 3) := by decide +kernel
theorem dX11_chance_10 : decode cX11_chance 10 = .ok (.aload_n 0, 1) := by decide +kernel
theorem dX11_chance_11 : decode cX11_chance 11 = .ok (.getfield 57, 3) := by decide +kernel
theorem dX11_chance_14 : decode cX11_chance 14 = .ok (.getfield 108, 3) := by decide +kernel
theorem dX11_chance_17 : decode cX11_chance 17 = .ok (.ifCond .ne 4, 3) := by decide +kernel
theorem dX11_chance_20 : decode cX11_chance 20 = .ok (.return_, 1) := by decide +kernel
theorem dX11_chance_21 : decode cX11_chance 21 = .ok (.iload_n 1, 1) := by decide +kernel
theorem dX11_chance_22 : decode cX11_chance 22 = .ok (.ifCond .ne 56, 3) := by decide +kernel
theorem dX11_chance_25 : decode cX11_chance 25 = .ok (.aload_n 0, 1) := by decide +kernel
theorem dX11_chance_26 : decode cX11_chance 26 = .ok (.aload_n 0, 1) := by decide +kernel
theorem dX11_chance_27 : decode cX11_chance 27 = .ok (.getfield 57, 3) := by decide +kernel
theorem dX11_chance_30 : decode cX11_chance 30 = .ok (.getfield 111, 3) := by decide +kernel
theorem dX11_chance_33 : decode cX11_chance 33 = .ok (.invokevirtual 357, 3) := by decide +kernel
theorem dX11_chance_36 : decode cX11_chance 36 = .ok (.istore_n 2, 1) := by decide +kernel
theorem dX11_chance_37 : decode cX11_chance 37 = .ok (.aload_n 0, 1) := by decide +kernel
theorem dX11_chance_38 : decode cX11_chance 38 = .ok (.aload_n 0, 1) := by decide +kernel
theorem dX11_chance_39 : decode cX11_chance 39 = .ok (.getfield 57, 3) := by decide +kernel
theorem dX11_chance_42 : decode cX11_chance 42 = .ok (.getfield 108, 3) := by decide +kernel
theorem dX11_chance_45 : decode cX11_chance 45 = .ok (.invokevirtual 357, 3) := by decide +kernel
theorem dX11_chance_48 : decode cX11_chance 48 = .ok (.istore_n 3, 1) := by decide +kernel
theorem dX11_chance_49 : decode cX11_chance 49 = .ok (.aload_n 0, 1) := by decide +kernel
theorem dX11_chance_50 : decode cX11_chance 50 = .ok (.getfield 29, 3) := by decide +kernel
theorem dX11_chance_53 : decode cX11_chance 53 = .ok (.aload_n 0, 1) := by decide +kernel
theorem dX11_chance_54 : decode cX11_chance 54 = .ok (.getfield 57, 3) := by decide +kernel
theorem dX11_chance_57 : decode cX11_chance 57 = .ok (.iload_n 3, 1) := by decide +kernel
theorem dX11_chance_58 : decode cX11_chance 58 = .ok (.invokevirtual 182, 3) := by decide +kernel
theorem dX11_chance_61 : decode cX11_chance 61 = .ok (.iconst (-1), 1) := by decide +kernel
theorem dX11_chance_62 : decode cX11_chance 62 = .ok (.if_icmp .ne 13, 3) := by decide +kernel
theorem dX11_chance_65 : decode cX11_chance 65 = .ok (.aload_n 0, 1) := by decide +kernel
theorem dX11_chance_66 : decode cX11_chance 66 = .ok (.getfield 29, 3) := by decide +kernel
theorem dX11_chance_69 : decode cX11_chance 69 = .ok (.getfield 206, 3) := by decide +kernel
theorem dX11_chance_72 : decode cX11_chance 72 = .ok (.iload_n 2, 1) := by decide +kernel
theorem dX11_chance_73 : decode cX11_chance 73 = .ok (.iload_n 3, 1) := by decide +kernel
theorem dX11_chance_74 : decode cX11_chance 74 = .ok (.iastore, 1) := by decide +kernel
theorem dX11_chance_75 : decode cX11_chance 75 = .ok (.goto 54, 3) := by decide +kernel
theorem dX11_chance_78 : decode cX11_chance 78 = .ok (.iload_n 1, 1) := by decide +kernel
theorem dX11_chance_79 : decode cX11_chance 79 = .ok (.iconst 1, 1) := by decide +kernel
theorem dX11_chance_80 : decode cX11_chance 80 = .ok (.if_icmp .ne 24, 3) := by decide +kernel
theorem dX11_chance_83 : decode cX11_chance 83 = .ok (.aload_n 0, 1) := by decide +kernel
theorem dX11_chance_84 : decode cX11_chance 84 = .ok (.getfield 29, 3) := by decide +kernel
theorem dX11_chance_87 : decode cX11_chance 87 = .ok (.aload_n 0, 1) := by decide +kernel
theorem dX11_chance_88 : decode cX11_chance 88 = .ok (.aload_n 0, 1) := by decide +kernel
theorem dX11_chance_89 : decode cX11_chance 89 = .ok (.getfield 57, 3) := by decide +kernel
theorem dX11_chance_92 : decode cX11_chance 92 = .ok (.getfield 108, 3) := by decide +kernel
theorem dX11_chance_95 : decode cX11_chance 95 = .ok (.invokevirtual 357, 3) := by decide +kernel
theorem dX11_chance_98 : decode cX11_chance 98 = .ok (.invokevirtual 225, 3) := by decide +kernel
theorem dX11_chance_101 : decode cX11_chance 101 = .ok (.goto 28, 3) := by decide +kernel
theorem dX11_chance_104 : decode cX11_chance 104 = .ok (.iload_n 1, 1) := by decide +kernel
theorem dX11_chance_105 : decode cX11_chance 105 = .ok (.iconst 2, 1) := by decide +kernel
theorem dX11_chance_106 : decode cX11_chance 106 = .ok (.if_icmp .ne 23, 3) := by decide +kernel
theorem dX11_chance_109 : decode cX11_chance 109 = .ok (.aload_n 0, 1) := by decide +kernel
theorem dX11_chance_110 : decode cX11_chance 110 = .ok (.getfield 29, 3) := by decide +kernel
theorem dX11_chance_113 : decode cX11_chance 113 = .ok (.aload_n 0, 1) := by decide +kernel
theorem dX11_chance_114 : decode cX11_chance 114 = .ok (.aload_n 0, 1) := by decide +kernel
theorem dX11_chance_115 : decode cX11_chance 115 = .ok (.getfield 57, 3) := by decide +kernel
theorem dX11_chance_118 : decode cX11_chance 118 = .ok (.getfield 111, 3) := by decide +kernel
theorem dX11_chance_121 : decode cX11_chance 121 = .ok (.invokevirtual 357, 3) := by decide +kernel
theorem dX11_chance_124 : decode cX11_chance 124 = .ok (.bipush 20, 2) := by decide +kernel
theorem dX11_chance_126 : decode cX11_chance 126 = .ok (.invokevirtual 228, 3) := by decide +kernel
theorem dX11_chance_129 : decode cX11_chance 129 = .ok (.return_, 1) := by decide +kernel
theorem dJ11_isValidCodePoint_9a6ad_0 : decode cJ11_isValidCodePoint_9a6ad 0 = .ok (.iload_n 0, 1) := by decide +kernel
theorem dJ11_isValidCodePoint_9a6ad_1 : decode cJ11_isValidCodePoint_9a6ad 1 = .ok (.bipush 16, 2) := by decide +kernel
theorem dJ11_isValidCodePoint_9a6ad_3 : decode cJ11_isValidCodePoint_9a6ad 3 = .ok (.iushr, 1) := by decide +kernel
theorem dJ11_isValidCodePoint_9a6ad_4 : decode cJ11_isValidCodePoint_9a6ad 4 = .ok (.istore_n 1, 1) := by decide +kernel
theorem dJ11_isValidCodePoint_9a6ad_5 : decode cJ11_isValidCodePoint_9a6ad 5 = .ok (.iload_n 1, 1) := by decide +kernel
theorem dJ11_isValidCodePoint_9a6ad_6 : decode cJ11_isValidCodePoint_9a6ad 6 = .ok (.bipush 17, 2) := by decide +kernel
theorem dJ11_isValidCodePoint_9a6ad_8 : decode cJ11_isValidCodePoint_9a6ad 8 = .ok (.if_icmp .ge 7, 3) := by decide +kernel
theorem dJ11_isValidCodePoint_9a6ad_11 : decode cJ11_isValidCodePoint_9a6ad 11 = .ok (.iconst 1, 1) := by decide +kernel
theorem dJ11_isValidCodePoint_9a6ad_12 : decode cJ11_isValidCodePoint_9a6ad 12 = .ok (.goto 4, 3) := by decide +kernel
theorem dJ11_isValidCodePoint_9a6ad_15 : decode cJ11_isValidCodePoint_9a6ad 15 = .ok (.iconst 0, 1) := by decide +kernel
theorem dJ11_isValidCodePoint_9a6ad_16 : decode cJ11_isValidCodePoint_9a6ad 16 = .ok (.ireturn, 1) := by decide +kernel
theorem dJ11_highSurrogate_5068e_0 : decode cJ11_highSurrogate_5068e 0 = .ok (.iload_n 0, 1) := by decide +kernel
theorem dJ11_highSurrogate_5068e_1 : decode cJ11_highSurrogate_5068e 1 = .ok (.bipush 10, 2) := by decide +kernel
theorem dJ11_highSurrogate_5068e_3 : decode cJ11_highSurrogate_5068e 3 = .ok (.iushr, 1) := by decide +kernel
theorem dJ11_highSurrogate_5068e_4 : decode cJ11_highSurrogate_5068e 4 = .ok (.ldc 110, 2) := by decide +kernel
theorem dJ11_highSurrogate_5068e_6 : decode cJ11_highSurrogate_5068e 6 = .ok (.iadd, 1) := by decide +kernel
theorem dJ11_highSurrogate_5068e_7 : decode cJ11_highSurrogate_5068e 7 = .ok (.i2c, 1) := by decide +kernel
theorem dJ11_highSurrogate_5068e_8 : decode cJ11_highSurrogate_5068e 8 = .ok (.ireturn, 1) := by decide +kernel
theorem dJ11_lowSurrogate_5068e_0 : decode cJ11_lowSurrogate_5068e 0 = .ok (.iload_n 0, 1) := by decide +kernel
theorem dJ11_lowSurrogate_5068e_1 : decode cJ11_lowSurrogate_5068e 1 = .ok (.sipush 1023, 3) := by decide +kernel
theorem dJ11_lowSurrogate_5068e_4 : decode cJ11_lowSurrogate_5068e 4 = .ok (.iand, 1) := by decide +kernel
theorem dJ11_lowSurrogate_5068e_5 : decode cJ11_lowSurrogate_5068e 5 = .ok (.ldc 76, 2) := by decide +kernel
theorem dJ11_lowSurrogate_5068e_7 : decode cJ11_lowSurrogate_5068e 7 = .ok (.iadd, 1) := by decide +kernel
theorem dJ11_lowSurrogate_5068e_8 : decode cJ11_lowSurrogate_5068e 8 = .ok (.i2c, 1) := by decide +kernel
theorem dJ11_lowSurrogate_5068e_9 : decode cJ11_lowSurrogate_5068e 9 = .ok (.ireturn, 1) := by decide +kernel
theorem dJ6_bitCount_0f7a4_0 : decode cJ6_bitCount_0f7a4 0 = .ok (.iload_n 0, 1) := by decide +kernel
theorem dJ6_bitCount_0f7a4_1 : decode cJ6_bitCount_0f7a4 1 = .ok (.iload_n 0, 1) := by decide +kernel
theorem dJ6_bitCount_0f7a4_2 : decode cJ6_bitCount_0f7a4 2 = .ok (.iconst 1, 1) := by decide +kernel
theorem dJ6_bitCount_0f7a4_3 : decode cJ6_bitCount_0f7a4 3 = .ok (.iushr, 1) := by decide +kernel
theorem dJ6_bitCount_0f7a4_4 : decode cJ6_bitCount_0f7a4 4 = .ok (.ldc_w 265, 3) := by decide +kernel
theorem dJ6_bitCount_0f7a4_7 : decode cJ6_bitCount_0f7a4 7 = .ok (.iand, 1) := by decide +kernel
theorem dJ6_bitCount_0f7a4_8 : decode cJ6_bitCount_0f7a4 8 = .ok (.isub, 1) := by decide +kernel
theorem dJ6_bitCount_0f7a4_9 : decode cJ6_bitCount_0f7a4 9 = .ok (.istore_n 0, 1) := by decide +kernel
theorem dJ6_bitCount_0f7a4_10 : decode cJ6_bitCount_0f7a4 10 = .ok (.iload_n 0, 1) := by decide +kernel
theorem dJ6_bitCount_0f7a4_11 : decode cJ6_bitCount_0f7a4 11 = .ok (.ldc_w 266, 3) := by decide +kernel
theorem dJ6_bitCount_0f7a4_14 : decode cJ6_bitCount_0f7a4 14 = .ok (.iand, 1) := by decide +kernel
theorem dJ6_bitCount_0f7a4_15 : decode cJ6_bitCount_0f7a4 15 = .ok (.iload_n 0, 1) := by decide +kernel
theorem dJ6_bitCount_0f7a4_16 : decode cJ6_bitCount_0f7a4 16 = .ok (.iconst 2, 1) := by decide +kernel
theorem dJ6_bitCount_0f7a4_17 : decode cJ6_bitCount_0f7a4 17 = .ok (.iushr, 1) := by decide +kernel
theorem dJ6_bitCount_0f7a4_18 : decode cJ6_bitCount_0f7a4 18 = .ok (.ldc_w 266, 3) := by decide +kernel
theorem dJ6_bitCount_0f7a4_21 : decode cJ6_bitCount_0f7a4 21 = .ok (.iand, 1) := by decide +kernel
theorem dJ6_bitCount_0f7a4_22 : decode cJ6_bitCount_0f7a4 22 = .ok (.iadd, 1) := by decide +kernel
theorem dJ6_bitCount_0f7a4_23 : decode cJ6_bitCount_0f7a4 23 = .ok (.istore_n 0, 1) := by decide +kernel
theorem dJ6_bitCount_0f7a4_24 : decode cJ6_bitCount_0f7a4 24 = .ok (.iload_n 0, 1) := by decide +kernel
theorem dJ6_bitCount_0f7a4_25 : decode cJ6_bitCount_0f7a4 25 = .ok (.iload_n 0, 1) := by decide +kernel
theorem dJ6_bitCount_0f7a4_26 : decode cJ6_bitCount_0f7a4 26 = .ok (.iconst 4, 1) := by decide +kernel
theorem dJ6_bitCount_0f7a4_27 : decode cJ6_bitCount_0f7a4 27 = .ok (.iushr, 1) := by decide +kernel
theorem dJ6_bitCount_0f7a4_28 : decode cJ6_bitCount_0f7a4 28 = .ok (.iadd, 1) := by decide +kernel
theorem dJ6_bitCount_0f7a4_29 : decode cJ6_bitCount_0f7a4 29 = .ok (.ldc_w 267, 3) := by decide +kernel
theorem dJ6_bitCount_0f7a4_32 : decode cJ6_bitCount_0f7a4 32 = .ok (.iand, 1) := by decide +kernel
theorem dJ6_bitCount_0f7a4_33 : decode cJ6_bitCount_0f7a4 33 = .ok (.istore_n 0, 1) := by decide +kernel
theorem dJ6_bitCount_0f7a4_34 : decode cJ6_bitCount_0f7a4 34 = .ok (.iload_n 0, 1) := by decide +kernel
theorem dJ6_bitCount_0f7a4_35 : decode cJ6_bitCount_0f7a4 35 = .ok (.iload_n 0, 1) := by decide +kernel
theorem dJ6_bitCount_0f7a4_36 : decode cJ6_bitCount_0f7a4 36 = .ok (.bipush 8, 2) := by decide +kernel
theorem dJ6_bitCount_0f7a4_38 : decode cJ6_bitCount_0f7a4 38 = .ok (.iushr, 1) := by decide +kernel
theorem dJ6_bitCount_0f7a4_39 : decode cJ6_bitCount_0f7a4 39 = .ok (.iadd, 1) := by decide +kernel
theorem dJ6_bitCount_0f7a4_40 : decode cJ6_bitCount_0f7a4 40 = .ok (.istore_n 0, 1) := by decide +kernel
theorem dJ6_bitCount_0f7a4_41 : decode cJ6_bitCount_0f7a4 41 = .ok (.iload_n 0, 1) := by decide +kernel
theorem dJ6_bitCount_0f7a4_42 : decode cJ6_bitCount_0f7a4 42 = .ok (.iload_n 0, 1) := by decide +kernel
theorem dJ6_bitCount_0f7a4_43 : decode cJ6_bitCount_0f7a4 43 = .ok (.bipush 16, 2) := by decide +kernel
theorem dJ6_bitCount_0f7a4_45 : decode cJ6_bitCount_0f7a4 45 = .ok (.iushr, 1) := by decide +kernel
theorem dJ6_bitCount_0f7a4_46 : decode cJ6_bitCount_0f7a4 46 = .ok (.iadd, 1) := by decide +kernel
theorem dJ6_bitCount_0f7a4_47 : decode cJ6_bitCount_0f7a4 47 = .ok (.istore_n 0, 1) := by decide +kernel
theorem dJ6_bitCount_0f7a4_48 : decode cJ6_bitCount_0f7a4 48 = .ok (.iload_n 0, 1) := by decide +kernel
theorem dJ6_bitCount_0f7a4_49 : decode cJ6_bitCount_0f7a4 49 = .ok (.bipush 63, 2) := by decide +kernel
theorem dJ6_bitCount_0f7a4_51 : decode cJ6_bitCount_0f7a4 51 = .ok (.iand, 1) := by decide +kernel
theorem dJ6_bitCount_0f7a4_52 : decode cJ6_bitCount_0f7a4 52 = .ok (.ireturn, 1) := by decide +kernel
theorem dJ9_max_7cf53_0 : decode cJ9_max_7cf53 0 = .ok (.iload_n 0, 1) := by decide +kernel
theorem dJ9_max_7cf53_1 : decode cJ9_max_7cf53 1 = .ok (.iload_n 1, 1) := by decide +kernel
theorem dJ9_max_7cf53_2 : decode cJ9_max_7cf53 2 = .ok (.if_icmp .lt 7, 3) := by decide +kernel
theorem dJ9_max_7cf53_5 : decode cJ9_max_7cf53 5 = .ok (.iload_n 0, 1) := by decide +kernel
theorem dJ9_max_7cf53_6 : decode cJ9_max_7cf53 6 = .ok (.goto 4, 3) := by decide +kernel
theorem dJ9_max_7cf53_9 : decode cJ9_max_7cf53 9 = .ok (.iload_n 1, 1) := by decide +kernel
theorem dJ9_max_7cf53_10 : decode cJ9_max_7cf53 10 = .ok (.ireturn, 1) := by decide +kernel
theorem dJ9_min_7cf53_0 : decode cJ9_min_7cf53 0 = .ok (.iload_n 0, 1) := by decide +kernel
theorem dJ9_min_7cf53_1 : decode cJ9_min_7cf53 1 = .ok (.iload_n 1, 1) := by decide +kernel
theorem dJ9_min_7cf53_2 : decode cJ9_min_7cf53 2 = .ok (.if_icmp .gt 7, 3) := by decide +kernel
theorem dJ9_min_7cf53_5 : decode cJ9_min_7cf53 5 = .ok (.iload_n 0, 1) := by decide +kernel
theorem dJ9_min_7cf53_6 : decode cJ9_min_7cf53 6 = .ok (.goto 4, 3) := by decide +kernel
theorem dJ9_min_7cf53_9 : decode cJ9_min_7cf53 9 = .ok (.iload_n 1, 1) := by decide +kernel
theorem dJ9_min_7cf53_10 : decode cJ9_min_7cf53 10 = .ok (.ireturn, 1) := by decide +kernel
theorem dJ0_length_8abf5_0 : decode cJ0_length_8abf5 0 = .ok (.aload_n 0, 1) := by decide +kernel
theorem dJ0_length_8abf5_1 : decode cJ0_length_8abf5 1 = .ok (.getfield 9, 3) := by decide +kernel
theorem dJ0_length_8abf5_4 : decode cJ0_length_8abf5 4 = .ok (.arraylength, 1) := by decide +kernel
theorem dJ0_length_8abf5_5 : decode cJ0_length_8abf5 5 = .ok (.aload_n 0, 1) := by decide +kernel
theorem dJ0_length_8abf5_6 : decode cJ0_length_8abf5 6 = .ok (.invokevirtual 335, 3) := by decide +kernel
theorem dJ0_length_8abf5_9 : decode cJ0_length_8abf5 9 = .ok (.ishr, 1) := by decide +kernel
theorem dJ0_length_8abf5_10 : decode cJ0_length_8abf5 10 = .ok (.ireturn, 1) := by decide +kernel
theorem dJ0_charAt_5068e_0 : decode cJ0_charAt_5068e 0 = .ok (.aload_n 0, 1) := by decide +kernel
theorem dJ0_charAt_5068e_1 : decode cJ0_charAt_5068e 1 = .ok (.invokevirtual 492, 3) := by decide +kernel
theorem dJ0_charAt_5068e_4 : decode cJ0_charAt_5068e 4 = .ok (.ifCond .eq 12, 3) := by decide +kernel
theorem dJ0_charAt_5068e_7 : decode cJ0_charAt_5068e 7 = .ok (.aload_n 0, 1) := by decide +kernel
theorem dJ0_charAt_5068e_8 : decode cJ0_charAt_5068e 8 = .ok (.getfield 9, 3) := by decide +kernel
theorem dJ0_charAt_5068e_11 : decode cJ0_charAt_5068e 11 = .ok (.iload_n 1, 1) := by decide +kernel
theorem dJ0_charAt_5068e_12 : decode cJ0_charAt_5068e 12 = .ok (.invokestatic 495, 3) := by decide +kernel
theorem dJ0_charAt_5068e_15 : decode cJ0_charAt_5068e 15 = .ok (.ireturn, 1) := by decide +kernel
theorem dJ0_charAt_5068e_16 : decode cJ0_charAt_5068e 16 = .ok (.aload_n 0, 1) := by decide +kernel
theorem dJ0_charAt_5068e_17 : decode cJ0_charAt_5068e 17 = .ok (.getfield 9, 3) := by decide +kernel
theorem dJ0_charAt_5068e_20 : decode cJ0_charAt_5068e 20 = .ok (.iload_n 1, 1) := by decide +kernel
theorem dJ0_charAt_5068e_21 : decode cJ0_charAt_5068e 21 = .ok (.invokestatic 498, 3) := by decide +kernel
theorem dJ0_charAt_5068e_24 : decode cJ0_charAt_5068e 24 = .ok (.ireturn, 1) := by decide +kernel
theorem dJ0_indexOf_0f7a4_0 : decode cJ0_indexOf_0f7a4 0 = .ok (.aload_n 0, 1) := by decide +kernel
theorem dJ0_indexOf_0f7a4_1 : decode cJ0_indexOf_0f7a4 1 = .ok (.iload_n 1, 1) := by decide +kernel
theorem dJ0_indexOf_0f7a4_2 : decode cJ0_indexOf_0f7a4 2 = .ok (.iconst 0, 1) := by decide +kernel
theorem dJ0_indexOf_0f7a4_3 : decode cJ0_indexOf_0f7a4 3 = .ok (.invokevirtual 633, 3) := by decide +kernel
theorem dJ0_indexOf_0f7a4_6 : decode cJ0_indexOf_0f7a4 6 = .ok (.ireturn, 1) := by decide +kernel
theorem dJ0_indexOf_7cf53_0 : decode cJ0_indexOf_7cf53 0 = .ok (.aload_n 0, 1) := by decide +kernel
theorem dJ0_indexOf_7cf53_1 : decode cJ0_indexOf_7cf53 1 = .ok (.invokevirtual 492, 3) := by decide +kernel
theorem dJ0_indexOf_7cf53_4 : decode cJ0_indexOf_7cf53 4 = .ok (.ifCond .eq 19, 3) := by decide +kernel
theorem dJ0_indexOf_7cf53_7 : decode cJ0_indexOf_7cf53 7 = .ok (.aload_n 0, 1) := by decide +kernel
theorem dJ0_indexOf_7cf53_8 : decode cJ0_indexOf_7cf53 8 = .ok (.getfield 9, 3) := by decide +kernel
theorem dJ0_indexOf_7cf53_11 : decode cJ0_indexOf_7cf53 11 = .ok (.iload_n 1, 1) := by decide +kernel
theorem dJ0_indexOf_7cf53_12 : decode cJ0_indexOf_7cf53 12 = .ok (.iload_n 2, 1) := by decide +kernel
theorem dJ0_indexOf_7cf53_13 : decode cJ0_indexOf_7cf53 13 = .ok (.aload_n 0, 1) := by decide +kernel
theorem dJ0_indexOf_7cf53_14 : decode cJ0_indexOf_7cf53 14 = .ok (.invokevirtual 505, 3) := by decide +kernel
theorem dJ0_indexOf_7cf53_17 : decode cJ0_indexOf_7cf53 17 = .ok (.invokestatic 637, 3) := by decide +kernel
theorem dJ0_indexOf_7cf53_20 : decode cJ0_indexOf_7cf53 20 = .ok (.goto 16, 3) := by decide +kernel
theorem dJ0_indexOf_7cf53_23 : decode cJ0_indexOf_7cf53 23 = .ok (.aload_n 0, 1) := by decide +kernel
theorem dJ0_indexOf_7cf53_24 : decode cJ0_indexOf_7cf53 24 = .ok (.getfield 9, 3) := by decide +kernel
theorem dJ0_indexOf_7cf53_27 : decode cJ0_indexOf_7cf53 27 = .ok (.iload_n 1, 1) := by decide +kernel
theorem dJ0_indexOf_7cf53_28 : decode cJ0_indexOf_7cf53 28 = .ok (.iload_n 2, 1) := by decide +kernel
theorem dJ0_indexOf_7cf53_29 : decode cJ0_indexOf_7cf53 29 = .ok (.aload_n 0, 1) := by decide +kernel
theorem dJ0_indexOf_7cf53_30 : decode cJ0_indexOf_7cf53 30 = .ok (.invokevirtual 505, 3) := by decide +kernel
theorem dJ0_indexOf_7cf53_33 : decode cJ0_indexOf_7cf53 33 = .ok (.invokestatic 640, 3) := by decide +kernel
theorem dJ0_indexOf_7cf53_36 : decode cJ0_indexOf_7cf53 36 = .ok (.ireturn, 1) := by decide +kernel
theorem dJ0_coder_7d493_0 : decode cJ0_coder_7d493 0 = .ok (.getstatic 38, 3) := by decide +kernel
theorem dJ0_coder_7d493_3 : decode cJ0_coder_7d493 3 = .ok (.ifCond .eq 10, 3) := by decide +kernel
theorem dJ0_coder_7d493_6 : decode cJ0_coder_7d493 6 = .ok (.aload_n 0, 1) := by decide +kernel
theorem dJ0_coder_7d493_7 : decode cJ0_coder_7d493 7 = .ok (.getfield 15, 3) := by decide +kernel
theorem dJ0_coder_7d493_10 : decode cJ0_coder_7d493 10 = .ok (.goto 4, 3) := by decide +kernel
theorem dJ0_coder_7d493_13 : decode cJ0_coder_7d493 13 = .ok (.iconst 1, 1) := by decide +kernel
theorem dJ0_coder_7d493_14 : decode cJ0_coder_7d493 14 = .ok (.ireturn, 1) := by decide +kernel
theorem dJ0_isLatin1_aae02_0 : decode cJ0_isLatin1_aae02 0 = .ok (.getstatic 38, 3) := by decide +kernel
theorem dJ0_isLatin1_aae02_3 : decode cJ0_isLatin1_aae02 3 = .ok (.ifCond .eq 14, 3) := by decide +kernel
theorem dJ0_isLatin1_aae02_6 : decode cJ0_isLatin1_aae02 6 = .ok (.aload_n 0, 1) := by decide +kernel
theorem dJ0_isLatin1_aae02_7 : decode cJ0_isLatin1_aae02 7 = .ok (.getfield 15, 3) := by decide +kernel
theorem dJ0_isLatin1_aae02_10 : decode cJ0_isLatin1_aae02 10 = .ok (.ifCond .ne 7, 3) := by decide +kernel
theorem dJ0_isLatin1_aae02_13 : decode cJ0_isLatin1_aae02 13 = .ok (.iconst 1, 1) := by decide +kernel
theorem dJ0_isLatin1_aae02_14 : decode cJ0_isLatin1_aae02 14 = .ok (.goto 4, 3) := by decide +kernel
theorem dJ0_isLatin1_aae02_17 : decode cJ0_isLatin1_aae02 17 = .ok (.iconst 0, 1) := by decide +kernel
theorem dJ0_isLatin1_aae02_18 : decode cJ0_isLatin1_aae02 18 = .ok (.ireturn, 1) := by decide +kernel
theorem dJ0_checkIndex_df160_0 : decode cJ0_checkIndex_df160 0 = .ok (.iload_n 0, 1) := by decide +kernel
theorem dJ0_checkIndex_df160_1 : decode cJ0_checkIndex_df160 1 = .ok (.iload_n 1, 1) := by decide +kernel
theorem dJ0_checkIndex_df160_2 : decode cJ0_checkIndex_df160 2 = .ok (.getstatic 1053, 3) := by decide +kernel
theorem dJ0_checkIndex_df160_5 : decode cJ0_checkIndex_df160 5 = .ok (.invokestatic 1059, 3) := by decide +kernel
theorem dJ0_checkIndex_df160_8 : decode cJ0_checkIndex_df160 8 = .ok (.pop, 1) := by decide +kernel
theorem dJ0_checkIndex_df160_9 : decode cJ0_checkIndex_df160 9 = .ok (.return_, 1) := by decide +kernel
theorem dJ0_checkBoundsBeginEnd_23922_0 : decode cJ0_checkBoundsBeginEnd_23922 0 = .ok (.iload_n 0, 1) := by decide +kernel
theorem dJ0_checkBoundsBeginEnd_23922_1 : decode cJ0_checkBoundsBeginEnd_23922 1 = .ok (.iload_n 1, 1) := by decide +kernel
theorem dJ0_checkBoundsBeginEnd_23922_2 : decode cJ0_checkBoundsBeginEnd_23922 2 = .ok (.iload_n 2, 1) := by decide +kernel
theorem dJ0_checkBoundsBeginEnd_23922_3 : decode cJ0_checkBoundsBeginEnd_23922 3 = .ok (.getstatic 1053, 3) := by decide +kernel
theorem dJ0_checkBoundsBeginEnd_23922_6 : decode cJ0_checkBoundsBeginEnd_23922 6 = .ok (.invokestatic 1062, 3) := by decide +kernel
theorem dJ0_checkBoundsBeginEnd_23922_9 : decode cJ0_checkBoundsBeginEnd_23922 9 = .ok (.pop, 1) := by decide +kernel
theorem dJ0_checkBoundsBeginEnd_23922_10 : decode cJ0_checkBoundsBeginEnd_23922 10 = .ok (.return_, 1) := by decide +kernel
theorem dJ1_charAt_3b067_0 : decode cJ1_charAt_3b067 0 = .ok (.iload_n 1, 1) := by decide +kernel
theorem dJ1_charAt_3b067_1 : decode cJ1_charAt_3b067 1 = .ok (.aload_n 0, 1) := by decide +kernel
theorem dJ1_charAt_3b067_2 : decode cJ1_charAt_3b067 2 = .ok (.arraylength, 1) := by decide +kernel
theorem dJ1_charAt_3b067_3 : decode cJ1_charAt_3b067 3 = .ok (.invokestatic 9, 3) := by decide +kernel
theorem dJ1_charAt_3b067_6 : decode cJ1_charAt_3b067 6 = .ok (.aload_n 0, 1) := by decide +kernel
theorem dJ1_charAt_3b067_7 : decode cJ1_charAt_3b067 7 = .ok (.iload_n 1, 1) := by decide +kernel
theorem dJ1_charAt_3b067_8 : decode cJ1_charAt_3b067 8 = .ok (.baload, 1) := by decide +kernel
theorem dJ1_charAt_3b067_9 : decode cJ1_charAt_3b067 9 = .ok (.sipush 255, 3) := by decide +kernel
theorem dJ1_charAt_3b067_12 : decode cJ1_charAt_3b067 12 = .ok (.iand, 1) := by decide +kernel
theorem dJ1_charAt_3b067_13 : decode cJ1_charAt_3b067 13 = .ok (.i2c, 1) := by decide +kernel
theorem dJ1_charAt_3b067_14 : decode cJ1_charAt_3b067 14 = .ok (.ireturn, 1) := by decide +kernel
theorem dJ1_canEncode_9a6ad_0 : decode cJ1_canEncode_9a6ad 0 = .ok (.iload_n 0, 1) := by decide +kernel
theorem dJ1_canEncode_9a6ad_1 : decode cJ1_canEncode_9a6ad 1 = .ok (.ifCond .lt 14, 3) := by decide +kernel
theorem dJ1_canEncode_9a6ad_4 : decode cJ1_canEncode_9a6ad 4 = .ok (.iload_n 0, 1) := by decide +kernel
theorem dJ1_canEncode_9a6ad_5 : decode cJ1_canEncode_9a6ad 5 = .ok (.sipush 255, 3) := by decide +kernel
theorem dJ1_canEncode_9a6ad_8 : decode cJ1_canEncode_9a6ad 8 = .ok (.if_icmp .gt 7, 3) := by decide +kernel
theorem dJ1_canEncode_9a6ad_11 : decode cJ1_canEncode_9a6ad 11 = .ok (.iconst 1, 1) := by decide +kernel
theorem dJ1_canEncode_9a6ad_12 : decode cJ1_canEncode_9a6ad 12 = .ok (.goto 4, 3) := by decide +kernel
theorem dJ1_canEncode_9a6ad_15 : decode cJ1_canEncode_9a6ad 15 = .ok (.iconst 0, 1) := by decide +kernel
theorem dJ1_canEncode_9a6ad_16 : decode cJ1_canEncode_9a6ad 16 = .ok (.ireturn, 1) := by decide +kernel
theorem dJ1_indexOf_4cfef_0 : decode cJ1_indexOf_4cfef 0 = .ok (.iload_n 1, 1) := by decide +kernel
theorem dJ1_indexOf_4cfef_1 : decode cJ1_indexOf_4cfef 1 = .ok (.invokestatic 88, 3) := by decide +kernel
theorem dJ1_indexOf_4cfef_4 : decode cJ1_indexOf_4cfef 4 = .ok (.ifCond .ne 5, 3) := by decide +kernel
theorem dJ1_indexOf_4cfef_7 : decode cJ1_indexOf_4cfef 7 = .ok (.iconst (-1), 1) := by decide +kernel
theorem dJ1_indexOf_4cfef_8 : decode cJ1_indexOf_4cfef 8 = .ok (.ireturn, 1) := by decide +kernel
theorem dJ1_indexOf_4cfef_9 : decode cJ1_indexOf_4cfef 9 = .ok (.iload_n 2, 1) := by decide +kernel
theorem dJ1_indexOf_4cfef_10 : decode cJ1_indexOf_4cfef 10 = .ok (.iconst 0, 1) := by decide +kernel
theorem dJ1_indexOf_4cfef_11 : decode cJ1_indexOf_4cfef 11 = .ok (.invokestatic 92, 3) := by decide +kernel
theorem dJ1_indexOf_4cfef_14 : decode cJ1_indexOf_4cfef 14 = .ok (.istore_n 2, 1) := by decide +kernel
theorem dJ1_indexOf_4cfef_15 : decode cJ1_indexOf_4cfef 15 = .ok (.iload_n 3, 1) := by decide +kernel
theorem dJ1_indexOf_4cfef_16 : decode cJ1_indexOf_4cfef 16 = .ok (.aload_n 0, 1) := by decide +kernel
theorem dJ1_indexOf_4cfef_17 : decode cJ1_indexOf_4cfef 17 = .ok (.arraylength, 1) := by decide +kernel
theorem dJ1_indexOf_4cfef_18 : decode cJ1_indexOf_4cfef 18 = .ok (.invokestatic 38, 3) := by decide +kernel
theorem dJ1_indexOf_4cfef_21 : decode cJ1_indexOf_4cfef 21 = .ok (.istore_n 3, 1) := by decide +kernel
theorem dJ1_indexOf_4cfef_22 : decode cJ1_indexOf_4cfef 22 = .ok (.iload_n 2, 1) := by decide +kernel
theorem dJ1_indexOf_4cfef_23 : decode cJ1_indexOf_4cfef 23 = .ok (.iload_n 3, 1) := by decide +kernel
theorem dJ1_indexOf_4cfef_24 : decode cJ1_indexOf_4cfef 24 = .ok (.if_icmp .lt 5, 3) := by decide +kernel
theorem dJ1_indexOf_4cfef_27 : decode cJ1_indexOf_4cfef 27 = .ok (.iconst (-1), 1) := by decide +kernel
theorem dJ1_indexOf_4cfef_28 : decode cJ1_indexOf_4cfef 28 = .ok (.ireturn, 1) := by decide +kernel
theorem dJ1_indexOf_4cfef_29 : decode cJ1_indexOf_4cfef 29 = .ok (.aload_n 0, 1) := by decide +kernel
theorem dJ1_indexOf_4cfef_30 : decode cJ1_indexOf_4cfef 30 = .ok (.iload_n 1, 1) := by decide +kernel
theorem dJ1_indexOf_4cfef_31 : decode cJ1_indexOf_4cfef 31 = .ok (.iload_n 2, 1) := by decide +kernel
theorem dJ1_indexOf_4cfef_32 : decode cJ1_indexOf_4cfef 32 = .ok (.iload_n 3, 1) := by decide +kernel
theorem dJ1_indexOf_4cfef_33 : decode cJ1_indexOf_4cfef 33 = .ok (.invokestatic 95, 3) := by decide +kernel
theorem dJ1_indexOf_4cfef_36 : decode cJ1_indexOf_4cfef 36 = .ok (.ireturn, 1) := by decide +kernel
theorem dJ1_indexOfChar_4cfef_0 : decode cJ1_indexOfChar_4cfef 0 = .ok (.iload_n 1, 1) := by decide +kernel
theorem dJ1_indexOfChar_4cfef_1 : decode cJ1_indexOfChar_4cfef 1 = .ok (.i2b, 1) := by decide +kernel
theorem dJ1_indexOfChar_4cfef_2 : decode cJ1_indexOfChar_4cfef 2 = .ok (.istore 4, 2) := by decide +kernel
theorem dJ1_indexOfChar_4cfef_4 : decode cJ1_indexOfChar_4cfef 4 = .ok (.iload_n 2, 1) := by decide +kernel
theorem dJ1_indexOfChar_4cfef_5 : decode cJ1_indexOfChar_4cfef 5 = .ok (.istore 5, 2) := by decide +kernel
theorem dJ1_indexOfChar_4cfef_7 : decode cJ1_indexOfChar_4cfef 7 = .ok (.iload 5, 2) := by decide +kernel
theorem dJ1_indexOfChar_4cfef_9 : decode cJ1_indexOfChar_4cfef 9 = .ok (.iload_n 3, 1) := by decide +kernel
theorem dJ1_indexOfChar_4cfef_10 : decode cJ1_indexOfChar_4cfef 10 = .ok (.if_icmp .ge 21, 3) := by decide +kernel
theorem dJ1_indexOfChar_4cfef_13 : decode cJ1_indexOfChar_4cfef 13 = .ok (.aload_n 0, 1) := by decide +kernel
theorem dJ1_indexOfChar_4cfef_14 : decode cJ1_indexOfChar_4cfef 14 = .ok (.iload 5, 2) := by decide +kernel
theorem dJ1_indexOfChar_4cfef_16 : decode cJ1_indexOfChar_4cfef 16 = .ok (.baload, 1) := by decide +kernel
theorem dJ1_indexOfChar_4cfef_17 : decode cJ1_indexOfChar_4cfef 17 = .ok (.iload 4, 2) := by decide +kernel
theorem dJ1_indexOfChar_4cfef_19 : decode cJ1_indexOfChar_4cfef 19 = .ok (.if_icmp .ne 6, 3) := by decide +kernel
theorem dJ1_indexOfChar_4cfef_22 : decode cJ1_indexOfChar_4cfef 22 = .ok (.iload 5, 2) := by decide +kernel
theorem dJ1_indexOfChar_4cfef_24 : decode cJ1_indexOfChar_4cfef 24 = .ok (.ireturn, 1) := by decide +kernel
theorem dJ1_indexOfChar_4cfef_25 : decode cJ1_indexOfChar_4cfef 25 = .ok (.iinc 5 1, 3) := by decide +kernel
theorem dJ1_indexOfChar_4cfef_28 : decode cJ1_indexOfChar_4cfef 28 = .ok (.goto (-21), 3) := by decide +kernel
theorem dJ1_indexOfChar_4cfef_31 : decode cJ1_indexOfChar_4cfef 31 = .ok (.iconst (-1), 1) := by decide +kernel
theorem dJ1_indexOfChar_4cfef_32 : decode cJ1_indexOfChar_4cfef 32 = .ok (.ireturn, 1) := by decide +kernel
theorem dJ2_getChar_3b067_0 : decode cJ2_getChar_3b067 0 = .ok (.getstatic 44, 3) := by decide +kernel
theorem dJ2_getChar_3b067_3 : decode cJ2_getChar_3b067 3 = .ok (.ifCond .ne 25, 3) := by decide +kernel
theorem dJ2_getChar_3b067_6 : decode cJ2_getChar_3b067 6 = .ok (.iload_n 1, 1) := by decide +kernel
theorem dJ2_getChar_3b067_7 : decode cJ2_getChar_3b067 7 = .ok (.ifCond .lt 11, 3) := by decide +kernel
theorem dJ2_getChar_3b067_10 : decode cJ2_getChar_3b067 10 = .ok (.iload_n 1, 1) := by decide +kernel
theorem dJ2_getChar_3b067_11 : decode cJ2_getChar_3b067 11 = .ok (.aload_n 0, 1) := by decide +kernel
theorem dJ2_getChar_3b067_12 : decode cJ2_getChar_3b067 12 = .ok (.invokestatic 48, 3) := by decide +kernel
theorem dJ2_getChar_3b067_15 : decode cJ2_getChar_3b067 15 = .ok (.if_icmp .lt 13, 3) := by decide +kernel
theorem dJ2_getChar_3b067_18 : decode cJ2_getChar_3b067 18 = .ok (.new 52, 3) := by decide +kernel
theorem dJ2_getChar_3b067_21 : decode cJ2_getChar_3b067 21 = .ok (.dup, 1) := by decide +kernel
theorem dJ2_getChar_3b067_22 : decode cJ2_getChar_3b067 22 = .ok (.ldc 54, 2) := by decide +kernel
theorem dJ2_getChar_3b067_24 : decode cJ2_getChar_3b067 24 = .ok (.invokespecial 56, 3) := by decide +kernel
theorem dJ2_getChar_3b067_27 : decode cJ2_getChar_3b067 27 = .ok (.athrow, 1) := by decide +kernel
theorem dJ2_getChar_3b067_28 : decode cJ2_getChar_3b067 28 = .ok (.iload_n 1, 1) := by decide +kernel
theorem dJ2_getChar_3b067_29 : decode cJ2_getChar_3b067 29 = .ok (.iconst 1, 1) := by decide +kernel
theorem dJ2_getChar_3b067_30 : decode cJ2_getChar_3b067 30 = .ok (.ishl, 1) := by decide +kernel
theorem dJ2_getChar_3b067_31 : decode cJ2_getChar_3b067 31 = .ok (.istore_n 1, 1) := by decide +kernel
theorem dJ2_getChar_3b067_32 : decode cJ2_getChar_3b067 32 = .ok (.aload_n 0, 1) := by decide +kernel
theorem dJ2_getChar_3b067_33 : decode cJ2_getChar_3b067 33 = .ok (.iload_n 1, 1) := by decide +kernel
theorem dJ2_getChar_3b067_34 : decode cJ2_getChar_3b067 34 = .ok (.iinc 1 1, 3) := by decide +kernel
theorem dJ2_getChar_3b067_37 : decode cJ2_getChar_3b067 37 = .ok (.baload, 1) := by decide +kernel
theorem dJ2_getChar_3b067_38 : decode cJ2_getChar_3b067 38 = .ok (.sipush 255, 3) := by decide +kernel
theorem dJ2_getChar_3b067_41 : decode cJ2_getChar_3b067 41 = .ok (.iand, 1) := by decide +kernel
theorem dJ2_getChar_3b067_42 : decode cJ2_getChar_3b067 42 = .ok (.getstatic 59, 3) := by decide +kernel
theorem dJ2_getChar_3b067_45 : decode cJ2_getChar_3b067 45 = .ok (.ishl, 1) := by decide +kernel
theorem dJ2_getChar_3b067_46 : decode cJ2_getChar_3b067 46 = .ok (.aload_n 0, 1) := by decide +kernel
theorem dJ2_getChar_3b067_47 : decode cJ2_getChar_3b067 47 = .ok (.iload_n 1, 1) := by decide +kernel
theorem dJ2_getChar_3b067_48 : decode cJ2_getChar_3b067 48 = .ok (.baload, 1) := by decide +kernel
theorem dJ2_getChar_3b067_49 : decode cJ2_getChar_3b067 49 = .ok (.sipush 255, 3) := by decide +kernel
theorem dJ2_getChar_3b067_52 : decode cJ2_getChar_3b067 52 = .ok (.iand, 1) := by decide +kernel
theorem dJ2_getChar_3b067_53 : decode cJ2_getChar_3b067 53 = .ok (.getstatic 63, 3) := by decide +kernel
theorem dJ2_getChar_3b067_56 : decode cJ2_getChar_3b067 56 = .ok (.ishl, 1) := by decide +kernel
theorem dJ2_getChar_3b067_57 : decode cJ2_getChar_3b067 57 = .ok (.ior, 1) := by decide +kernel
theorem dJ2_getChar_3b067_58 : decode cJ2_getChar_3b067 58 = .ok (.i2c, 1) := by decide +kernel
theorem dJ2_getChar_3b067_59 : decode cJ2_getChar_3b067 59 = .ok (.ireturn, 1) := by decide +kernel
theorem dJ2_length_9d52b_0 : decode cJ2_length_9d52b 0 = .ok (.aload_n 0, 1) := by decide +kernel
theorem dJ2_length_9d52b_1 : decode cJ2_length_9d52b 1 = .ok (.arraylength, 1) := by decide +kernel
theorem dJ2_length_9d52b_2 : decode cJ2_length_9d52b 2 = .ok (.iconst 1, 1) := by decide +kernel
theorem dJ2_length_9d52b_3 : decode cJ2_length_9d52b 3 = .ok (.ishr, 1) := by decide +kernel
theorem dJ2_length_9d52b_4 : decode cJ2_length_9d52b 4 = .ok (.ireturn, 1) := by decide +kernel
theorem dJ2_indexOf_4cfef_0 : decode cJ2_indexOf_4cfef 0 = .ok (.iload_n 2, 1) := by decide +kernel
theorem dJ2_indexOf_4cfef_1 : decode cJ2_indexOf_4cfef 1 = .ok (.iconst 0, 1) := by decide +kernel
theorem dJ2_indexOf_4cfef_2 : decode cJ2_indexOf_4cfef 2 = .ok (.invokestatic 224, 3) := by decide +kernel
theorem dJ2_indexOf_4cfef_5 : decode cJ2_indexOf_4cfef 5 = .ok (.istore_n 2, 1) := by decide +kernel
theorem dJ2_indexOf_4cfef_6 : decode cJ2_indexOf_4cfef 6 = .ok (.iload_n 3, 1) := by decide +kernel
theorem dJ2_indexOf_4cfef_7 : decode cJ2_indexOf_4cfef 7 = .ok (.aload_n 0, 1) := by decide +kernel
theorem dJ2_indexOf_4cfef_8 : decode cJ2_indexOf_4cfef 8 = .ok (.arraylength, 1) := by decide +kernel
theorem dJ2_indexOf_4cfef_9 : decode cJ2_indexOf_4cfef 9 = .ok (.iconst 1, 1) := by decide +kernel
theorem dJ2_indexOf_4cfef_10 : decode cJ2_indexOf_4cfef 10 = .ok (.ishr, 1) := by decide +kernel
theorem dJ2_indexOf_4cfef_11 : decode cJ2_indexOf_4cfef 11 = .ok (.invokestatic 183, 3) := by decide +kernel
theorem dJ2_indexOf_4cfef_14 : decode cJ2_indexOf_4cfef 14 = .ok (.istore_n 3, 1) := by decide +kernel
theorem dJ2_indexOf_4cfef_15 : decode cJ2_indexOf_4cfef 15 = .ok (.iload_n 2, 1) := by decide +kernel
theorem dJ2_indexOf_4cfef_16 : decode cJ2_indexOf_4cfef 16 = .ok (.iload_n 3, 1) := by decide +kernel
theorem dJ2_indexOf_4cfef_17 : decode cJ2_indexOf_4cfef 17 = .ok (.if_icmp .lt 5, 3) := by decide +kernel
theorem dJ2_indexOf_4cfef_20 : decode cJ2_indexOf_4cfef 20 = .ok (.iconst (-1), 1) := by decide +kernel
theorem dJ2_indexOf_4cfef_21 : decode cJ2_indexOf_4cfef 21 = .ok (.ireturn, 1) := by decide +kernel
theorem dJ2_indexOf_4cfef_22 : decode cJ2_indexOf_4cfef 22 = .ok (.iload_n 1, 1) := by decide +kernel
theorem dJ2_indexOf_4cfef_23 : decode cJ2_indexOf_4cfef 23 = .ok (.ldc 227, 2) := by decide +kernel
theorem dJ2_indexOf_4cfef_25 : decode cJ2_indexOf_4cfef 25 = .ok (.if_icmp .ge 11, 3) := by decide +kernel
theorem dJ2_indexOf_4cfef_28 : decode cJ2_indexOf_4cfef 28 = .ok (.aload_n 0, 1) := by decide +kernel
theorem dJ2_indexOf_4cfef_29 : decode cJ2_indexOf_4cfef 29 = .ok (.iload_n 1, 1) := by decide +kernel
theorem dJ2_indexOf_4cfef_30 : decode cJ2_indexOf_4cfef 30 = .ok (.iload_n 2, 1) := by decide +kernel
theorem dJ2_indexOf_4cfef_31 : decode cJ2_indexOf_4cfef 31 = .ok (.iload_n 3, 1) := by decide +kernel
theorem dJ2_indexOf_4cfef_32 : decode cJ2_indexOf_4cfef 32 = .ok (.invokestatic 228, 3) := by decide +kernel
theorem dJ2_indexOf_4cfef_35 : decode cJ2_indexOf_4cfef 35 = .ok (.ireturn, 1) := by decide +kernel
theorem dJ2_indexOf_4cfef_36 : decode cJ2_indexOf_4cfef 36 = .ok (.aload_n 0, 1) := by decide +kernel
theorem dJ2_indexOf_4cfef_37 : decode cJ2_indexOf_4cfef 37 = .ok (.iload_n 1, 1) := by decide +kernel
theorem dJ2_indexOf_4cfef_38 : decode cJ2_indexOf_4cfef 38 = .ok (.iload_n 2, 1) := by decide +kernel
theorem dJ2_indexOf_4cfef_39 : decode cJ2_indexOf_4cfef 39 = .ok (.iload_n 3, 1) := by decide +kernel
theorem dJ2_indexOf_4cfef_40 : decode cJ2_indexOf_4cfef 40 = .ok (.invokestatic 232, 3) := by decide +kernel
theorem dJ2_indexOf_4cfef_43 : decode cJ2_indexOf_4cfef 43 = .ok (.ireturn, 1) := by decide +kernel
theorem dJ2_indexOfChar_4cfef_0 : decode cJ2_indexOfChar_4cfef 0 = .ok (.iload_n 2, 1) := by decide +kernel
theorem dJ2_indexOfChar_4cfef_1 : decode cJ2_indexOfChar_4cfef 1 = .ok (.iload_n 3, 1) := by decide +kernel
theorem dJ2_indexOfChar_4cfef_2 : decode cJ2_indexOfChar_4cfef 2 = .ok (.aload_n 0, 1) := by decide +kernel
theorem dJ2_indexOfChar_4cfef_3 : decode cJ2_indexOfChar_4cfef 3 = .ok (.invokestatic 96, 3) := by decide +kernel
theorem dJ2_indexOfChar_4cfef_6 : decode cJ2_indexOfChar_4cfef 6 = .ok (.aload_n 0, 1) := by decide +kernel
theorem dJ2_indexOfChar_4cfef_7 : decode cJ2_indexOfChar_4cfef 7 = .ok (.iload_n 1, 1) := by decide +kernel
theorem dJ2_indexOfChar_4cfef_8 : decode cJ2_indexOfChar_4cfef 8 = .ok (.iload_n 2, 1) := by decide +kernel
theorem dJ2_indexOfChar_4cfef_9 : decode cJ2_indexOfChar_4cfef 9 = .ok (.iload_n 3, 1) := by decide +kernel
theorem dJ2_indexOfChar_4cfef_10 : decode cJ2_indexOfChar_4cfef 10 = .ok (.invokestatic 244, 3) := by decide +kernel
theorem dJ2_indexOfChar_4cfef_13 : decode cJ2_indexOfChar_4cfef 13 = .ok (.ireturn, 1) := by decide +kernel
theorem dJ2_indexOfCharUnsafe_4cfef_0 : decode cJ2_indexOfCharUnsafe_4cfef 0 = .ok (.iload_n 2, 1) := by decide +kernel
theorem dJ2_indexOfCharUnsafe_4cfef_1 : decode cJ2_indexOfCharUnsafe_4cfef 1 = .ok (.istore 4, 2) := by decide +kernel
theorem dJ2_indexOfCharUnsafe_4cfef_3 : decode cJ2_indexOfCharUnsafe_4cfef 3 = .ok (.iload 4, 2) := by decide +kernel
theorem dJ2_indexOfCharUnsafe_4cfef_5 : decode cJ2_indexOfCharUnsafe_4cfef 5 = .ok (.iload_n 3, 1) := by decide +kernel
theorem dJ2_indexOfCharUnsafe_4cfef_6 : decode cJ2_indexOfCharUnsafe_4cfef 6 = .ok (.if_icmp .ge 22, 3) := by decide +kernel
theorem dJ2_indexOfCharUnsafe_4cfef_9 : decode cJ2_indexOfCharUnsafe_4cfef 9 = .ok (.aload_n 0, 1) := by decide +kernel
theorem dJ2_indexOfCharUnsafe_4cfef_10 : decode cJ2_indexOfCharUnsafe_4cfef 10 = .ok (.iload 4, 2) := by decide +kernel
theorem dJ2_indexOfCharUnsafe_4cfef_12 : decode cJ2_indexOfCharUnsafe_4cfef 12 = .ok (.invokestatic 71, 3) := by decide +kernel
theorem dJ2_indexOfCharUnsafe_4cfef_15 : decode cJ2_indexOfCharUnsafe_4cfef 15 = .ok (.iload_n 1, 1) := by decide +kernel
theorem dJ2_indexOfCharUnsafe_4cfef_16 : decode cJ2_indexOfCharUnsafe_4cfef 16 = .ok (.if_icmp .ne 6, 3) := by decide +kernel
theorem dJ2_indexOfCharUnsafe_4cfef_19 : decode cJ2_indexOfCharUnsafe_4cfef 19 = .ok (.iload 4, 2) := by decide +kernel
theorem dJ2_indexOfCharUnsafe_4cfef_21 : decode cJ2_indexOfCharUnsafe_4cfef 21 = .ok (.ireturn, 1) := by decide +kernel
theorem dJ2_indexOfCharUnsafe_4cfef_22 : decode cJ2_indexOfCharUnsafe_4cfef 22 = .ok (.iinc 4 1, 3) := by decide +kernel
theorem dJ2_indexOfCharUnsafe_4cfef_25 : decode cJ2_indexOfCharUnsafe_4cfef 25 = .ok (.goto (-22), 3) := by decide +kernel
theorem dJ2_indexOfCharUnsafe_4cfef_28 : decode cJ2_indexOfCharUnsafe_4cfef 28 = .ok (.iconst (-1), 1) := by decide +kernel
theorem dJ2_indexOfCharUnsafe_4cfef_29 : decode cJ2_indexOfCharUnsafe_4cfef 29 = .ok (.ireturn, 1) := by decide +kernel
theorem dJ2_indexOfSupplementary_4cfef_0 : decode cJ2_indexOfSupplementary_4cfef 0 = .ok (.iload_n 1, 1) := by decide +kernel
theorem dJ2_indexOfSupplementary_4cfef_1 : decode cJ2_indexOfSupplementary_4cfef 1 = .ok (.invokestatic 164, 3) := by decide +kernel
theorem dJ2_indexOfSupplementary_4cfef_4 : decode cJ2_indexOfSupplementary_4cfef 4 = .ok (.ifCond .eq 65, 3) := by decide +kernel
theorem dJ2_indexOfSupplementary_4cfef_7 : decode cJ2_indexOfSupplementary_4cfef 7 = .ok (.iload_n 1, 1) := by decide +kernel
theorem dJ2_indexOfSupplementary_4cfef_8 : decode cJ2_indexOfSupplementary_4cfef 8 = .ok (.invokestatic 157, 3) := by decide +kernel
theorem dJ2_indexOfSupplementary_4cfef_11 : decode cJ2_indexOfSupplementary_4cfef 11 = .ok (.istore 4, 2) := by decide +kernel
theorem dJ2_indexOfSupplementary_4cfef_13 : decode cJ2_indexOfSupplementary_4cfef 13 = .ok (.iload_n 1, 1) := by decide +kernel
theorem dJ2_indexOfSupplementary_4cfef_14 : decode cJ2_indexOfSupplementary_4cfef 14 = .ok (.invokestatic 161, 3) := by decide +kernel
theorem dJ2_indexOfSupplementary_4cfef_17 : decode cJ2_indexOfSupplementary_4cfef 17 = .ok (.istore 5, 2) := by decide +kernel
theorem dJ2_indexOfSupplementary_4cfef_19 : decode cJ2_indexOfSupplementary_4cfef 19 = .ok (.iload_n 2, 1) := by decide +kernel
theorem dJ2_indexOfSupplementary_4cfef_20 : decode cJ2_indexOfSupplementary_4cfef 20 = .ok (.iload_n 3, 1) := by decide +kernel
theorem dJ2_indexOfSupplementary_4cfef_21 : decode cJ2_indexOfSupplementary_4cfef 21 = .ok (.aload_n 0, 1) := by decide +kernel
theorem dJ2_indexOfSupplementary_4cfef_22 : decode cJ2_indexOfSupplementary_4cfef 22 = .ok (.invokestatic 96, 3) := by decide +kernel
theorem dJ2_indexOfSupplementary_4cfef_25 : decode cJ2_indexOfSupplementary_4cfef 25 = .ok (.iload_n 2, 1) := by decide +kernel
theorem dJ2_indexOfSupplementary_4cfef_26 : decode cJ2_indexOfSupplementary_4cfef 26 = .ok (.istore 6, 2) := by decide +kernel
theorem dJ2_indexOfSupplementary_4cfef_28 : decode cJ2_indexOfSupplementary_4cfef 28 = .ok (.iload 6, 2) := by decide +kernel
theorem dJ2_indexOfSupplementary_4cfef_30 : decode cJ2_indexOfSupplementary_4cfef 30 = .ok (.iload_n 3, 1) := by decide +kernel
theorem dJ2_indexOfSupplementary_4cfef_31 : decode cJ2_indexOfSupplementary_4cfef 31 = .ok (.iconst 1, 1) := by decide +kernel
theorem dJ2_indexOfSupplementary_4cfef_32 : decode cJ2_indexOfSupplementary_4cfef 32 = .ok (.isub, 1) := by decide +kernel
theorem dJ2_indexOfSupplementary_4cfef_33 : decode cJ2_indexOfSupplementary_4cfef 33 = .ok (.if_icmp .ge 36, 3) := by decide +kernel
theorem dJ2_indexOfSupplementary_4cfef_36 : decode cJ2_indexOfSupplementary_4cfef 36 = .ok (.aload_n 0, 1) := by decide +kernel
theorem dJ2_indexOfSupplementary_4cfef_37 : decode cJ2_indexOfSupplementary_4cfef 37 = .ok (.iload 6, 2) := by decide +kernel
theorem dJ2_indexOfSupplementary_4cfef_39 : decode cJ2_indexOfSupplementary_4cfef 39 = .ok (.invokestatic 71, 3) := by decide +kernel
theorem dJ2_indexOfSupplementary_4cfef_42 : decode cJ2_indexOfSupplementary_4cfef 42 = .ok (.iload 4, 2) := by decide +kernel
theorem dJ2_indexOfSupplementary_4cfef_44 : decode cJ2_indexOfSupplementary_4cfef 44 = .ok (.if_icmp .ne 19, 3) := by decide +kernel
theorem dJ2_indexOfSupplementary_4cfef_47 : decode cJ2_indexOfSupplementary_4cfef 47 = .ok (.aload_n 0, 1) := by decide +kernel
theorem dJ2_indexOfSupplementary_4cfef_48 : decode cJ2_indexOfSupplementary_4cfef 48 = .ok (.iload 6, 2) := by decide +kernel
theorem dJ2_indexOfSupplementary_4cfef_50 : decode cJ2_indexOfSupplementary_4cfef 50 = .ok (.iconst 1, 1) := by decide +kernel
theorem dJ2_indexOfSupplementary_4cfef_51 : decode cJ2_indexOfSupplementary_4cfef 51 = .ok (.iadd, 1) := by decide +kernel
theorem dJ2_indexOfSupplementary_4cfef_52 : decode cJ2_indexOfSupplementary_4cfef 52 = .ok (.invokestatic 71, 3) := by decide +kernel
theorem dJ2_indexOfSupplementary_4cfef_55 : decode cJ2_indexOfSupplementary_4cfef 55 = .ok (.iload 5, 2) := by decide +kernel
theorem dJ2_indexOfSupplementary_4cfef_57 : decode cJ2_indexOfSupplementary_4cfef 57 = .ok (.if_icmp .ne 6, 3) := by decide +kernel
theorem dJ2_indexOfSupplementary_4cfef_60 : decode cJ2_indexOfSupplementary_4cfef 60 = .ok (.iload 6, 2) := by decide +kernel
theorem dJ2_indexOfSupplementary_4cfef_62 : decode cJ2_indexOfSupplementary_4cfef 62 = .ok (.ireturn, 1) := by decide +kernel
theorem dJ2_indexOfSupplementary_4cfef_63 : decode cJ2_indexOfSupplementary_4cfef 63 = .ok (.iinc 6 1, 3) := by decide +kernel
theorem dJ2_indexOfSupplementary_4cfef_66 : decode cJ2_indexOfSupplementary_4cfef 66 = .ok (.goto (-38), 3) := by decide +kernel
theorem dJ2_indexOfSupplementary_4cfef_69 : decode cJ2_indexOfSupplementary_4cfef 69 = .ok (.iconst (-1), 1) := by decide +kernel
theorem dJ2_indexOfSupplementary_4cfef_70 : decode cJ2_indexOfSupplementary_4cfef 70 = .ok (.ireturn, 1) := by decide +kernel
theorem dJ2_charAt_3b067_0 : decode cJ2_charAt_3b067 0 = .ok (.iload_n 1, 1) := by decide +kernel
theorem dJ2_charAt_3b067_1 : decode cJ2_charAt_3b067 1 = .ok (.aload_n 0, 1) := by decide +kernel
theorem dJ2_charAt_3b067_2 : decode cJ2_charAt_3b067 2 = .ok (.invokestatic 67, 3) := by decide +kernel
theorem dJ2_charAt_3b067_5 : decode cJ2_charAt_3b067 5 = .ok (.aload_n 0, 1) := by decide +kernel
theorem dJ2_charAt_3b067_6 : decode cJ2_charAt_3b067 6 = .ok (.iload_n 1, 1) := by decide +kernel
theorem dJ2_charAt_3b067_7 : decode cJ2_charAt_3b067 7 = .ok (.invokestatic 71, 3) := by decide +kernel
theorem dJ2_charAt_3b067_10 : decode cJ2_charAt_3b067 10 = .ok (.ireturn, 1) := by decide +kernel
theorem dJ2_checkIndex_2214a_0 : decode cJ2_checkIndex_2214a 0 = .ok (.iload_n 0, 1) := by decide +kernel
theorem dJ2_checkIndex_2214a_1 : decode cJ2_checkIndex_2214a 1 = .ok (.aload_n 1, 1) := by decide +kernel
theorem dJ2_checkIndex_2214a_2 : decode cJ2_checkIndex_2214a 2 = .ok (.invokestatic 48, 3) := by decide +kernel
theorem dJ2_checkIndex_2214a_5 : decode cJ2_checkIndex_2214a 5 = .ok (.invokestatic 414, 3) := by decide +kernel
theorem dJ2_checkIndex_2214a_8 : decode cJ2_checkIndex_2214a 8 = .ok (.return_, 1) := by decide +kernel
theorem dJ2_checkBoundsBeginEnd_d044e_0 : decode cJ2_checkBoundsBeginEnd_d044e 0 = .ok (.iload_n 0, 1) := by decide +kernel
theorem dJ2_checkBoundsBeginEnd_d044e_1 : decode cJ2_checkBoundsBeginEnd_d044e 1 = .ok (.iload_n 1, 1) := by decide +kernel
theorem dJ2_checkBoundsBeginEnd_d044e_2 : decode cJ2_checkBoundsBeginEnd_d044e 2 = .ok (.aload_n 2, 1) := by decide +kernel
theorem dJ2_checkBoundsBeginEnd_d044e_3 : decode cJ2_checkBoundsBeginEnd_d044e 3 = .ok (.invokestatic 48, 3) := by decide +kernel
theorem dJ2_checkBoundsBeginEnd_d044e_6 : decode cJ2_checkBoundsBeginEnd_d044e 6 = .ok (.invokestatic 241, 3) := by decide +kernel
theorem dJ2_checkBoundsBeginEnd_d044e_9 : decode cJ2_checkBoundsBeginEnd_d044e 9 = .ok (.return_, 1) := by decide +kernel
theorem dJ3_checkIndex_8e157_0 : decode cJ3_checkIndex_8e157 0 = .ok (.iload_n 0, 1) := by decide +kernel
theorem dJ3_checkIndex_8e157_1 : decode cJ3_checkIndex_8e157 1 = .ok (.ifCond .lt 8, 3) := by decide +kernel
theorem dJ3_checkIndex_8e157_4 : decode cJ3_checkIndex_8e157 4 = .ok (.iload_n 0, 1) := by decide +kernel
theorem dJ3_checkIndex_8e157_5 : decode cJ3_checkIndex_8e157 5 = .ok (.iload_n 1, 1) := by decide +kernel
theorem dJ3_checkIndex_8e157_6 : decode cJ3_checkIndex_8e157 6 = .ok (.if_icmp .lt 10, 3) := by decide +kernel
theorem dJ3_checkIndex_8e157_9 : decode cJ3_checkIndex_8e157 9 = .ok (.aload_n 2, 1) := by decide +kernel
theorem dJ3_checkIndex_8e157_10 : decode cJ3_checkIndex_8e157 10 = .ok (.iload_n 0, 1) := by decide +kernel
theorem dJ3_checkIndex_8e157_11 : decode cJ3_checkIndex_8e157 11 = .ok (.iload_n 1, 1) := by decide +kernel
theorem dJ3_checkIndex_8e157_12 : decode cJ3_checkIndex_8e157 12 = .ok (.invokestatic 95, 3) := by decide +kernel
theorem dJ3_checkIndex_8e157_15 : decode cJ3_checkIndex_8e157 15 = .ok (.athrow, 1) := by decide +kernel
theorem dJ3_checkIndex_8e157_16 : decode cJ3_checkIndex_8e157 16 = .ok (.iload_n 0, 1) := by decide +kernel
theorem dJ3_checkIndex_8e157_17 : decode cJ3_checkIndex_8e157 17 = .ok (.ireturn, 1) := by decide +kernel
theorem dJ3_checkFromToIndex_8c36e_0 : decode cJ3_checkFromToIndex_8c36e 0 = .ok (.iload_n 0, 1) := by decide +kernel
theorem dJ3_checkFromToIndex_8c36e_1 : decode cJ3_checkFromToIndex_8c36e 1 = .ok (.ifCond .lt 13, 3) := by decide +kernel
theorem dJ3_checkFromToIndex_8c36e_4 : decode cJ3_checkFromToIndex_8c36e 4 = .ok (.iload_n 0, 1) := by decide +kernel
theorem dJ3_checkFromToIndex_8c36e_5 : decode cJ3_checkFromToIndex_8c36e 5 = .ok (.iload_n 1, 1) := by decide +kernel
theorem dJ3_checkFromToIndex_8c36e_6 : decode cJ3_checkFromToIndex_8c36e 6 = .ok (.if_icmp .gt 8, 3) := by decide +kernel
theorem dJ3_checkFromToIndex_8c36e_9 : decode cJ3_checkFromToIndex_8c36e 9 = .ok (.iload_n 1, 1) := by decide +kernel
theorem dJ3_checkFromToIndex_8c36e_10 : decode cJ3_checkFromToIndex_8c36e 10 = .ok (.iload_n 2, 1) := by decide +kernel
theorem dJ3_checkFromToIndex_8c36e_11 : decode cJ3_checkFromToIndex_8c36e 11 = .ok (.if_icmp .le 11, 3) := by decide +kernel
theorem dJ3_checkFromToIndex_8c36e_14 : decode cJ3_checkFromToIndex_8c36e 14 = .ok (.aload_n 3, 1) := by decide +kernel
theorem dJ3_checkFromToIndex_8c36e_15 : decode cJ3_checkFromToIndex_8c36e 15 = .ok (.iload_n 0, 1) := by decide +kernel
theorem dJ3_checkFromToIndex_8c36e_16 : decode cJ3_checkFromToIndex_8c36e 16 = .ok (.iload_n 1, 1) := by decide +kernel
theorem dJ3_checkFromToIndex_8c36e_17 : decode cJ3_checkFromToIndex_8c36e 17 = .ok (.iload_n 2, 1) := by decide +kernel
theorem dJ3_checkFromToIndex_8c36e_18 : decode cJ3_checkFromToIndex_8c36e 18 = .ok (.invokestatic 99, 3) := by decide +kernel
theorem dJ3_checkFromToIndex_8c36e_21 : decode cJ3_checkFromToIndex_8c36e 21 = .ok (.athrow, 1) := by decide +kernel
theorem dJ3_checkFromToIndex_8c36e_22 : decode cJ3_checkFromToIndex_8c36e 22 = .ok (.iload_n 0, 1) := by decide +kernel
theorem dJ3_checkFromToIndex_8c36e_23 : decode cJ3_checkFromToIndex_8c36e 23 = .ok (.ireturn, 1) := by decide +kernel
