theorem dX12_shared_44 : decode cX12_shared 44 = .ok (.isub, 1) := by decide +kernel
theorem dX12_shared_45 : decode cX12_shared 45 = .ok (.goto 13, 3) := by decide +kernel
theorem dX12_shared_48 : decode cX12_shared 48 = .ok (.aload_n 0, 1) := by decide +kernel
theorem dX12_shared_49 : decode cX12_shared 49 = .ok (.getfield 113, 3) := by decide +kernel
theorem dX12_shared_52 : decode cX12_shared 52 = .ok (.iconst 0, 1) := by decide +kernel
theorem dX12_shared_53 : decode cX12_shared 53 = .ok (.iaload, 1) := by decide +kernel
theorem dX12_shared_54 : decode cX12_shared 54 = .ok (.sipush 1000, 3) := by decide +kernel
theorem dX12_shared_57 : decode cX12_shared 57 = .ok (.irem, 1) := by decide +kernel
theorem dX12_shared_58 : decode cX12_shared 58 = .ok (.ireturn, 1) := by decide +kernel
theorem dX12_has_0 : decode cX12_has 0 = .ok (.aload_n 0, 1) := by decide +kernel
theorem dX12_has_1 : decode cX12_has 1 = .ok (.iconst 0, 1) := by decide +kernel
theorem dX12_has_2 : decode cX12_has 2 = .ok (.putfield 155, 3) := by decide +kernel
theorem dX12_has_5 : decode cX12_has 5 = .ok (.aload_n 0, 1) := by decide +kernel
theorem dX12_has_6 : decode cX12_has 6 = .ok (.iload_n 1, 1) := by decide +kernel
theorem dX12_has_7 : decode cX12_has 7 = .ok (.invokevirtual 401, 3) := by decide +kernel
theorem dX12_has_10 : decode cX12_has 10 = .ok (.ifCond .ne 9, 3) := by decide +kernel
theorem dX12_has_13 : decode cX12_has 13 = .ok (.aload_n 0, 1) := by decide +kernel
theorem dX12_has_14 : decode cX12_has 14 = .ok (.iconst 1, 1) := by decide +kernel
theorem dX12_has_15 : decode cX12_has 15 = .ok (.invokevirtual 308, 3) := by decide +kernel
theorem dX12_has_18 : decode cX12_has 18 = .ok (.ireturn, 1) := by decide +kernel
theorem dX12_has_19 : decode cX12_has 19 = .ok (.aload_n 0, 1) := by decide +kernel
theorem dX12_has_20 : decode cX12_has 20 = .ok (.invokevirtual 450, 3) := by decide +kernel
theorem dX12_has_23 : decode cX12_has 23 = .ok (.iconst 0, 1) := by decide +kernel
theorem dX12_has_24 : decode cX12_has 24 = .ok (.istore_n 2, 1) := by decide +kernel
theorem dX12_has_25 : decode cX12_has 25 = .ok (.iconst (-1), 1) := by decide +kernel
theorem dX12_has_26 : decode cX12_has 26 = .ok (.istore_n 3, 1) := by decide +kernel
theorem dX12_has_27 : decode cX12_has 27 = .ok (.iconst 0, 1) := by decide +kernel
theorem dX12_has_28 : decode cX12_has 28 = .ok (.istore 4, 2) := by decide +kernel
theorem dX12_has_30 : decode cX12_has 30 = .ok (.iload 4, 2) := by decide +kernel
theorem dX12_has_32 : decode cX12_has 32 = .ok (.iload_n 1, 1) := by decide +kernel
theorem dX12_has_33 : decode cX12_has 33 = .ok (.if_icmp .gt 86, 3) := by decide +kernel
theorem dX12_has_36 : decode cX12_has 36 = .ok (.iconst (-1), 1) := by decide +kernel
theorem dX12_has_37 : decode cX12_has 37 = .ok (.istore_n 3, 1) := by decide +kernel
theorem dX12_has_38 : decode cX12_has 38 = .ok (.aload_n 0, 1) := by decide +kernel
theorem dX12_has_39 : decode cX12_has 39 = .ok (.getfield 42, 3) := by decide +kernel
theorem dX12_has_42 : decode cX12_has 42 = .ok (.iconst 0, 1) := by decide +kernel
theorem dX12_has_43 : decode cX12_has 43 = .ok (.iaload, 1) := by decide +kernel
theorem dX12_has_44 : decode cX12_has 44 = .ok (.iconst 1, 1) := by decide +kernel
theorem dX12_has_45 : decode cX12_has 45 = .ok (.isub, 1) := by decide +kernel
theorem dX12_has_46 : decode cX12_has 46 = .ok (.istore 5, 2) := by decide +kernel
theorem dX12_has_48 : decode cX12_has 48 = .ok (.iload 5, 2) := by decide +kernel
theorem dX12_has_50 : decode cX12_has 50 = .ok (.ifCond .lt 48, 3) := by decide +kernel
theorem dX12_has_53 : decode cX12_has 53 = .ok (.aload_n 0, 1) := by decide +kernel
theorem dX12_has_54 : decode cX12_has 54 = .ok (.iload 4, 2) := by decide +kernel
theorem dX12_has_56 : decode cX12_has 56 = .ok (.iload_n 2, 1) := by decide +kernel
theorem dX12_has_57 : decode cX12_has 57 = .ok (.iload 5, 2) := by decide +kernel
theorem dX12_has_59 : decode cX12_has 59 = .ok (.invokevirtual 443, 3) := by decide +kernel
theorem dX12_has_62 : decode cX12_has 62 = .ok (.ifCond .eq 30, 3) := by decide +kernel
theorem dX12_has_65 : decode cX12_has 65 = .ok (.aload_n 0, 1) := by decide +kernel
theorem dX12_has_66 : decode cX12_has 66 = .ok (.iload 4, 2) := by decide +kernel
theorem dX12_has_68 : decode cX12_has 68 = .ok (.iload_n 2, 1) := by decide +kernel
theorem dX12_has_69 : decode cX12_has 69 = .ok (.iload 5, 2) := by decide +kernel
theorem dX12_has_71 : decode cX12_has 71 = .ok (.invokevirtual 447, 3) := by decide +kernel
theorem dX12_has_74 : decode cX12_has 74 = .ok (.aload_n 0, 1) := by decide +kernel
theorem dX12_has_75 : decode cX12_has 75 = .ok (.getfield 113, 3) := by decide +kernel
theorem dX12_has_78 : decode cX12_has 78 = .ok (.iload 4, 2) := by decide +kernel
theorem dX12_has_80 : decode cX12_has 80 = .ok (.bipush 8, 2) := by decide +kernel
theorem dX12_has_82 : decode cX12_has 82 = .ok (.ishl, 1) := by decide +kernel
theorem dX12_has_83 : decode cX12_has 83 = .ok (.iload_n 2, 1) := by decide +kernel
theorem dX12_has_84 : decode cX12_has 84 = .ok (.iadd, 1) := by decide +kernel
theorem dX12_has_85 : decode cX12_has 85 = .ok (.iaload, 1) := by decide +kernel
theorem dX12_has_86 : decode cX12_has 86 = .ok (.if_icmp .ne 6, 3) := by decide +kernel
theorem dX12_has_89 : decode cX12_has 89 = .ok (.iload 5, 2) := by decide +kernel
theorem dX12_has_91 : decode cX12_has 91 = .ok (.istore_n 3, 1) := by decide +kernel
theorem dX12_has_92 : decode cX12_has 92 = .ok (.iinc 5 (-1), 3) := by decide +kernel
theorem dX12_has_95 : decode cX12_has 95 = .ok (.goto (-47), 3) := by decide +kernel
theorem dX12_has_98 : decode cX12_has 98 = .ok (.iload_n 2, 1) := by decide +kernel
theorem dX12_has_99 : decode cX12_has 99 = .ok (.iload_n 3, 1) := by decide +kernel
theorem dX12_has_100 : decode cX12_has 100 = .ok (.iconst (-1), 1) := by decide +kernel
theorem dX12_has_101 : decode cX12_has 101 = .ok (.if_icmp .ne 7, 3) := by decide +kernel
theorem dX12_has_104 : decode cX12_has 104 = .ok (.iconst 0, 1) := by decide +kernel
theorem dX12_has_105 : decode cX12_has 105 = .ok (.goto 6, 3) := by decide +kernel
theorem dX12_has_108 : decode cX12_has 108 = .ok (.iconst 1, 1) := by decide +kernel
theorem dX12_has_109 : decode cX12_has 109 = .ok (.iload_n 3, 1) := by decide +kernel
theorem dX12_has_110 : decode cX12_has 110 = .ok (.ishl, 1) := by decide +kernel
theorem dX12_has_111 : decode cX12_has 111 = .ok (.ior, 1) := by decide +kernel
theorem dX12_has_112 : decode cX12_has 112 = .ok (.istore_n 2, 1) := by decide +kernel
theorem dX12_has_113 : decode cX12_has 113 = .ok (.iinc 4 1, 3) := by decide +kernel
theorem dX12_has_116 : decode cX12_has 116 = .ok (.goto (-86), 3) := by decide +kernel
theorem dX12_has_119 : decode cX12_has 119 = .ok (.iload_n 3, 1) := by decide +kernel
theorem dX12_has_120 : decode cX12_has 120 = .ok (.ireturn, 1) := by decide +kernel
theorem dX12_toGive_0 : decode cX12_toGive 0 = .ok (.aload_n 0, 1) := by decide +kernel
theorem dX12_toGive_1 : decode cX12_toGive 1 = .ok (.iconst 0, 1) := by decide +kernel
theorem dX12_toGive_2 : decode cX12_toGive 2 = .ok (.putfield 155, 3) := by decide +kernel
theorem dX12_toGive_5 : decode cX12_toGive 5 = .ok (.aload_n 0, 1) := by decide +kernel
theorem dX12_toGive_6 : decode cX12_toGive 6 = .ok (.iload_n 1, 1) := by decide +kernel
theorem dX12_toGive_7 : decode cX12_toGive 7 = .ok (.invokevirtual 401, 3) := by decide +kernel
theorem dX12_toGive_10 : decode cX12_toGive 10 = .ok (.ifCond .ne 9, 3) := by decide +kernel
theorem dX12_toGive_13 : decode cX12_toGive 13 = .ok (.aload_n 0, 1) := by decide +kernel
theorem dX12_toGive_14 : decode cX12_toGive 14 = .ok (.iconst 1, 1) := by decide +kernel
theorem dX12_toGive_15 : decode cX12_toGive 15 = .ok (.invokevirtual 308, 3) := by decide +kernel
theorem dX12_toGive_18 : decode cX12_toGive 18 = .ok (.ireturn, 1) := by decide +kernel
theorem dX12_toGive_19 : decode cX12_toGive 19 = .ok (.iload_n 2, 1) := by decide +kernel
theorem dX12_toGive_20 : decode cX12_toGive 20 = .ok (.i2l, 1) := by decide +kernel
theorem dX12_toGive_21 : decode cX12_toGive 21 = .ok (.lconst 1, 1) := by decide +kernel
theorem dX12_toGive_22 : decode cX12_toGive 22 = .ok (.ldc2_w 432, 3) := by decide +kernel
theorem dX12_toGive_25 : decode cX12_toGive 25 = .ok (.invokestatic 158, 3) := by decide +kernel
theorem dX12_toGive_28 : decode cX12_toGive 28 = .ok (.ifCond .ne 9, 3) := by decide +kernel
theorem dX12_toGive_31 : decode cX12_toGive 31 = .ok (.aload_n 0, 1) := by decide +kernel
theorem dX12_toGive_32 : decode cX12_toGive 32 = .ok (.iconst 2, 1) := by decide +kernel
theorem dX12_toGive_33 : decode cX12_toGive 33 = .ok (.invokevirtual 308, 3) := by decide +kernel
theorem dX12_toGive_36 : decode cX12_toGive 36 = .ok (.ireturn, 1) := by decide +kernel
theorem dX12_toGive_37 : decode cX12_toGive 37 = .ok (.aload_n 0, 1) := by decide +kernel
theorem dX12_toGive_38 : decode cX12_toGive 38 = .ok (.getfield 95, 3) := by decide +kernel
theorem dX12_toGive_41 : decode cX12_toGive 41 = .ok (.iload_n 1, 1) := by decide +kernel
theorem dX12_toGive_42 : decode cX12_toGive 42 = .ok (.iaload, 1) := by decide +kernel
theorem dX12_toGive_43 : decode cX12_toGive 43 = .ok (.istore_n 3, 1) := by decide +kernel
theorem dX12_toGive_44 : decode cX12_toGive 44 = .ok (.iconst (-1), 1) := by decide +kernel
theorem dX12_toGive_45 : decode cX12_toGive 45 = .ok (.istore 4, 2) := by decide +kernel
theorem dX12_toGive_47 : decode cX12_toGive 47 = .ok (.aload_n 0, 1) := by decide +kernel
theorem dX12_toGive_48 : decode cX12_toGive 48 = .ok (.aload_n 0, 1) := by decide +kernel
theorem dX12_toGive_49 : decode cX12_toGive 49 = .ok (.getfield 110, 3) := by decide +kernel
theorem dX12_toGive_52 : decode cX12_toGive 52 = .ok (.iconst 0, 1) := by decide +kernel
theorem dX12_toGive_53 : decode cX12_toGive 53 = .ok (.invokevirtual 388, 3) := by decide +kernel
theorem dX12_toGive_56 : decode cX12_toGive 56 = .ok (.iconst 0, 1) := by decide +kernel
theorem dX12_toGive_57 : decode cX12_toGive 57 = .ok (.istore 5, 2) := by decide +kernel
theorem dX12_toGive_59 : decode cX12_toGive 59 = .ok (.iload 5, 2) := by decide +kernel
theorem dX12_toGive_61 : decode cX12_toGive 61 = .ok (.sipush 999, 3) := by decide +kernel
theorem dX12_toGive_64 : decode cX12_toGive 64 = .ok (.if_icmp .gt 56, 3) := by decide +kernel
theorem dX12_toGive_67 : decode cX12_toGive 67 = .ok (.iload 4, 2) := by decide +kernel
theorem dX12_toGive_69 : decode cX12_toGive 69 = .ok (.iconst (-1), 1) := by decide +kernel
theorem dX12_toGive_70 : decode cX12_toGive 70 = .ok (.if_icmp .ne 50, 3) := by decide +kernel
theorem dX12_toGive_73 : decode cX12_toGive 73 = .ok (.iload_n 3, 1) := by decide +kernel
theorem dX12_toGive_74 : decode cX12_toGive 74 = .ok (.iconst (-1), 1) := by decide +kernel
theorem dX12_toGive_75 : decode cX12_toGive 75 = .ok (.if_icmp .eq 45, 3) := by decide +kernel
theorem dX12_toGive_78 : decode cX12_toGive 78 = .ok (.aload_n 0, 1) := by decide +kernel
theorem dX12_toGive_79 : decode cX12_toGive 79 = .ok (.getfield 90, 3) := by decide +kernel
theorem dX12_toGive_82 : decode cX12_toGive 82 = .ok (.iload_n 1, 1) := by decide +kernel
theorem dX12_toGive_83 : decode cX12_toGive 83 = .ok (.iload 5, 2) := by decide +kernel
theorem dX12_toGive_85 : decode cX12_toGive 85 = .ok (.iastore, 1) := by decide +kernel
theorem dX12_toGive_86 : decode cX12_toGive 86 = .ok (.aload_n 0, 1) := by decide +kernel
theorem dX12_toGive_87 : decode cX12_toGive 87 = .ok (.iload_n 2, 1) := by decide +kernel
theorem dX12_toGive_88 : decode cX12_toGive 88 = .ok (.invokevirtual 412, 3) := by decide +kernel
theorem dX12_toGive_91 : decode cX12_toGive 91 = .ok (.aload_n 0, 1) := by decide +kernel
theorem dX12_toGive_92 : decode cX12_toGive 92 = .ok (.getfield 95, 3) := by decide +kernel
theorem dX12_toGive_95 : decode cX12_toGive 95 = .ok (.iload_n 1, 1) := by decide +kernel
theorem dX12_toGive_96 : decode cX12_toGive 96 = .ok (.iaload, 1) := by decide +kernel
theorem dX12_toGive_97 : decode cX12_toGive 97 = .ok (.iload_n 3, 1) := by decide +kernel
theorem dX12_toGive_98 : decode cX12_toGive 98 = .ok (.if_icmp .ne 7, 3) := by decide +kernel
theorem dX12_toGive_101 : decode cX12_toGive 101 = .ok (.iload 5, 2) := by decide +kernel
theorem dX12_toGive_103 : decode cX12_toGive 103 = .ok (.istore 4, 2) := by decide +kernel
theorem dX12_toGive_105 : decode cX12_toGive 105 = .ok (.aload_n 0, 1) := by decide +kernel
theorem dX12_toGive_106 : decode cX12_toGive 106 = .ok (.aload_n 0, 1) := by decide +kernel
theorem dX12_toGive_107 : decode cX12_toGive 107 = .ok (.getfield 110, 3) := by decide +kernel
theorem dX12_toGive_110 : decode cX12_toGive 110 = .ok (.iconst 0, 1) := by decide +kernel
theorem dX12_toGive_111 : decode cX12_toGive 111 = .ok (.invokevirtual 392, 3) := by decide +kernel
theorem dX12_toGive_114 : decode cX12_toGive 114 = .ok (.iinc 5 1, 3) := by decide +kernel
theorem dX12_toGive_117 : decode cX12_toGive 117 = .ok (.goto (-58), 3) := by decide +kernel
theorem dX12_toGive_120 : decode cX12_toGive 120 = .ok (.iload 4, 2) := by decide +kernel
theorem dX12_toGive_122 : decode cX12_toGive 122 = .ok (.ireturn, 1) := by decide +kernel
theorem dX12_confessing_0 : decode cX12_confessing 0 = .ok (.aload_n 0, 1) := by decide +kernel
theorem dX12_confessing_1 : decode cX12_confessing 1 = .ok (.iconst 0, 1) := by decide +kernel
theorem dX12_confessing_2 : decode cX12_confessing 2 = .ok (.putfield 155, 3) := by decide +kernel
theorem dX12_confessing_5 : decode cX12_confessing 5 = .ok (.aload_n 0, 1) := by decide +kernel
theorem dX12_confessing_6 : decode cX12_confessing 6 = .ok (.iload_n 1, 1) := by decide +kernel
theorem dX12_confessing_7 : decode cX12_confessing 7 = .ok (.invokevirtual 401, 3) := by decide +kernel
theorem dX12_confessing_10 : decode cX12_confessing 10 = .ok (.ifCond .ne 9, 3) := by decide +kernel
theorem dX12_confessing_13 : decode cX12_confessing 13 = .ok (.aload_n 0, 1) := by decide +kernel
theorem dX12_confessing_14 : decode cX12_confessing 14 = .ok (.iconst 1, 1) := by decide +kernel
theorem dX12_confessing_15 : decode cX12_confessing 15 = .ok (.invokevirtual 308, 3) := by decide +kernel
theorem dX12_confessing_18 : decode cX12_confessing 18 = .ok (.ireturn, 1) := by decide +kernel
theorem dX12_confessing_19 : decode cX12_confessing 19 = .ok (.iload_n 2, 1) := by decide +kernel
theorem dX12_confessing_20 : decode cX12_confessing 20 = .ok (.i2l, 1) := by decide +kernel
theorem dX12_confessing_21 : decode cX12_confessing 21 = .ok (.lconst 0, 1) := by decide +kernel
theorem dX12_confessing_22 : decode cX12_confessing 22 = .ok (.ldc2_w 432, 3) := by decide +kernel
theorem dX12_confessing_25 : decode cX12_confessing 25 = .ok (.invokestatic 158, 3) := by decide +kernel
theorem dX12_confessing_28 : decode cX12_confessing 28 = .ok (.ifCond .ne 9, 3) := by decide +kernel
theorem dX12_confessing_31 : decode cX12_confessing 31 = .ok (.aload_n 0, 1) := by decide +kernel
theorem dX12_confessing_32 : decode cX12_confessing 32 = .ok (.iconst 2, 1) := by decide +kernel
theorem dX12_confessing_33 : decode cX12_confessing 33 = .ok (.invokevirtual 308, 3) := by decide +kernel
theorem dX12_confessing_36 : decode cX12_confessing 36 = .ok (.ireturn, 1) := by decide +kernel
theorem dX12_confessing_37 : decode cX12_confessing 37 = .ok (.aload_n 0, 1) := by decide +kernel
theorem dX12_confessing_38 : decode cX12_confessing 38 = .ok (.iload_n 1, 1) := by decide +kernel
theorem dX12_confessing_39 : decode cX12_confessing 39 = .ok (.invokevirtual 422, 3) := by decide +kernel
theorem dX12_confessing_42 : decode cX12_confessing 42 = .ok (.ifCond .ne 5, 3) := by decide +kernel
theorem dX12_confessing_45 : decode cX12_confessing 45 = .ok (.iconst 0, 1) := by decide +kernel
theorem dX12_confessing_46 : decode cX12_confessing 46 = .ok (.ireturn, 1) := by decide +kernel
theorem dX12_confessing_47 : decode cX12_confessing 47 = .ok (.aload_n 0, 1) := by decide +kernel
theorem dX12_confessing_48 : decode cX12_confessing 48 = .ok (.aload_n 0, 1) := by decide +kernel
theorem dX12_confessing_49 : decode cX12_confessing 49 = .ok (.getfield 110, 3) := by decide +kernel
theorem dX12_confessing_52 : decode cX12_confessing 52 = .ok (.iconst 0, 1) := by decide +kernel
theorem dX12_confessing_53 : decode cX12_confessing 53 = .ok (.invokevirtual 388, 3) := by decide +kernel
theorem dX12_confessing_56 : decode cX12_confessing 56 = .ok (.aload_n 0, 1) := by decide +kernel
theorem dX12_confessing_57 : decode cX12_confessing 57 = .ok (.iload_n 2, 1) := by decide +kernel
theorem dX12_confessing_58 : decode cX12_confessing 58 = .ok (.invokevirtual 412, 3) := by decide +kernel
theorem dX12_confessing_61 : decode cX12_confessing 61 = .ok (.aload_n 0, 1) := by decide +kernel
theorem dX12_confessing_62 : decode cX12_confessing 62 = .ok (.getfield 88, 3) := by decide +kernel
theorem dX12_confessing_65 : decode cX12_confessing 65 = .ok (.iload_n 1, 1) := by decide +kernel
theorem dX12_confessing_66 : decode cX12_confessing 66 = .ok (.iaload, 1) := by decide +kernel
theorem dX12_confessing_67 : decode cX12_confessing 67 = .ok (.istore_n 3, 1) := by decide +kernel
theorem dX12_confessing_68 : decode cX12_confessing 68 = .ok (.aload_n 0, 1) := by decide +kernel
theorem dX12_confessing_69 : decode cX12_confessing 69 = .ok (.aload_n 0, 1) := by decide +kernel
theorem dX12_confessing_70 : decode cX12_confessing 70 = .ok (.getfield 110, 3) := by decide +kernel
theorem dX12_confessing_73 : decode cX12_confessing 73 = .ok (.iconst 0, 1) := by decide +kernel
theorem dX12_confessing_74 : decode cX12_confessing 74 = .ok (.invokevirtual 392, 3) := by decide +kernel
theorem dX12_confessing_77 : decode cX12_confessing 77 = .ok (.aload_n 0, 1) := by decide +kernel
theorem dX12_confessing_78 : decode cX12_confessing 78 = .ok (.iload_n 1, 1) := by decide +kernel
theorem dX12_confessing_79 : decode cX12_confessing 79 = .ok (.invokevirtual 425, 3) := by decide +kernel
theorem dX12_confessing_82 : decode cX12_confessing 82 = .ok (.aload_n 0, 1) := by decide +kernel
theorem dX12_confessing_83 : decode cX12_confessing 83 = .ok (.iload_n 2, 1) := by decide +kernel
theorem dX12_confessing_84 : decode cX12_confessing 84 = .ok (.invokevirtual 412, 3) := by decide +kernel
theorem dX12_confessing_87 : decode cX12_confessing 87 = .ok (.aload_n 0, 1) := by decide +kernel
theorem dX12_confessing_88 : decode cX12_confessing 88 = .ok (.getfield 88, 3) := by decide +kernel
theorem dX12_confessing_91 : decode cX12_confessing 91 = .ok (.iload_n 1, 1) := by decide +kernel
theorem dX12_confessing_92 : decode cX12_confessing 92 = .ok (.iaload, 1) := by decide +kernel
theorem dX12_confessing_93 : decode cX12_confessing 93 = .ok (.istore 4, 2) := by decide +kernel
theorem dX12_confessing_95 : decode cX12_confessing 95 = .ok (.aload_n 0, 1) := by decide +kernel
theorem dX12_confessing_96 : decode cX12_confessing 96 = .ok (.aload_n 0, 1) := by decide +kernel
theorem dX12_confessing_97 : decode cX12_confessing 97 = .ok (.getfield 110, 3) := by decide +kernel
theorem dX12_confessing_100 : decode cX12_confessing 100 = .ok (.iconst 0, 1) := by decide +kernel
theorem dX12_confessing_101 : decode cX12_confessing 101 = .ok (.invokevirtual 392, 3) := by decide +kernel
theorem dX12_confessing_104 : decode cX12_confessing 104 = .ok (.iload_n 3, 1) := by decide +kernel
theorem dX12_confessing_105 : decode cX12_confessing 105 = .ok (.iload 4, 2) := by decide +kernel
theorem dX12_confessing_107 : decode cX12_confessing 107 = .ok (.isub, 1) := by decide +kernel
theorem dX12_confessing_108 : decode cX12_confessing 108 = .ok (.ireturn, 1) := by decide +kernel
theorem dX12_see_0 : decode cX12_see 0 = .ok (.aload_n 0, 1) := by decide +kernel
theorem dX12_see_1 : decode cX12_see 1 = .ok (.iconst 0, 1) := by decide +kernel
theorem dX12_see_2 : decode cX12_see 2 = .ok (.putfield 155, 3) := by decide +kernel
theorem dX12_see_5 : decode cX12_see 5 = .ok (.aload_n 0, 1) := by decide +kernel
theorem dX12_see_6 : decode cX12_see 6 = .ok (.iload_n 1, 1) := by decide +kernel
theorem dX12_see_7 : decode cX12_see 7 = .ok (.invokevirtual 401, 3) := by decide +kernel
theorem dX12_see_10 : decode cX12_see 10 = .ok (.ifCond .ne 9, 3) := by decide +kernel
theorem dX12_see_13 : decode cX12_see 13 = .ok (.aload_n 0, 1) := by decide +kernel
theorem dX12_see_14 : decode cX12_see 14 = .ok (.iconst 1, 1) := by decide +kernel
theorem dX12_see_15 : decode cX12_see 15 = .ok (.invokevirtual 308, 3) := by decide +kernel
theorem dX12_see_18 : decode cX12_see 18 = .ok (.ireturn, 1) := by decide +kernel
theorem dX12_see_19 : decode cX12_see 19 = .ok (.aload_n 0, 1) := by decide +kernel
theorem dX12_see_20 : decode cX12_see 20 = .ok (.getfield 330, 3) := by decide +kernel
theorem dX12_see_23 : decode cX12_see 23 = .ok (.bipush 8, 2) := by decide +kernel
theorem dX12_see_25 : decode cX12_see 25 = .ok (.if_icmp .eq 27, 3) := by decide +kernel
theorem dX12_see_28 : decode cX12_see 28 = .ok (.iload_n 2, 1) := by decide +kernel
theorem dX12_see_29 : decode cX12_see 29 = .ok (.i2l, 1) := by decide +kernel
theorem dX12_see_30 : decode cX12_see 30 = .ok (.lconst 0, 1) := by decide +kernel
theorem dX12_see_31 : decode cX12_see 31 = .ok (.ldc2_w 404, 3) := by decide +kernel
theorem dX12_see_34 : decode cX12_see 34 = .ok (.invokestatic 158, 3) := by decide +kernel
theorem dX12_see_37 : decode cX12_see 37 = .ok (.ifCond .eq 15, 3) := by decide +kernel
theorem dX12_see_40 : decode cX12_see 40 = .ok (.iload_n 3, 1) := by decide +kernel
theorem dX12_see_41 : decode cX12_see 41 = .ok (.i2l, 1) := by decide +kernel
theorem dX12_see_42 : decode cX12_see 42 = .ok (.lconst 0, 1) := by decide +kernel
theorem dX12_see_43 : decode cX12_see 43 = .ok (.ldc2_w 453, 3) := by decide +kernel
theorem dX12_see_46 : decode cX12_see 46 = .ok (.invokestatic 158, 3) := by decide +kernel
theorem dX12_see_49 : decode cX12_see 49 = .ok (.ifCond .ne 9, 3) := by decide +kernel
theorem dX12_see_52 : decode cX12_see 52 = .ok (.aload_n 0, 1) := by decide +kernel
theorem dX12_see_53 : decode cX12_see 53 = .ok (.iconst 2, 1) := by decide +kernel
theorem dX12_see_54 : decode cX12_see 54 = .ok (.invokevirtual 406, 3) := by decide +kernel
theorem dX12_see_57 : decode cX12_see 57 = .ok (.ireturn, 1) := by decide +kernel
theorem dX12_see_58 : decode cX12_see 58 = .ok (.aload_n 0, 1) := by decide +kernel
theorem dX12_see_59 : decode cX12_see 59 = .ok (.getfield 116, 3) := by decide +kernel
theorem dX12_see_62 : decode cX12_see 62 = .ok (.aload_n 0, 1) := by decide +kernel
theorem dX12_see_63 : decode cX12_see 63 = .ok (.getfield 330, 3) := by decide +kernel
theorem dX12_see_66 : decode cX12_see 66 = .ok (.iload_n 1, 1) := by decide +kernel
theorem dX12_see_67 : decode cX12_see 67 = .ok (.iastore, 1) := by decide +kernel
theorem dX12_see_68 : decode cX12_see 68 = .ok (.aload_n 0, 1) := by decide +kernel
theorem dX12_see_69 : decode cX12_see 69 = .ok (.getfield 119, 3) := by decide +kernel
theorem dX12_see_72 : decode cX12_see 72 = .ok (.aload_n 0, 1) := by decide +kernel
theorem dX12_see_73 : decode cX12_see 73 = .ok (.getfield 330, 3) := by decide +kernel
theorem dX12_see_76 : decode cX12_see 76 = .ok (.iload_n 2, 1) := by decide +kernel
theorem dX12_see_77 : decode cX12_see 77 = .ok (.iastore, 1) := by decide +kernel
theorem dX12_see_78 : decode cX12_see 78 = .ok (.aload_n 0, 1) := by decide +kernel
theorem dX12_see_79 : decode cX12_see 79 = .ok (.getfield 122, 3) := by decide +kernel
theorem dX12_see_82 : decode cX12_see 82 = .ok (.aload_n 0, 1) := by decide +kernel
theorem dX12_see_83 : decode cX12_see 83 = .ok (.getfield 330, 3) := by decide +kernel
theorem dX12_see_86 : decode cX12_see 86 = .ok (.iload_n 3, 1) := by decide +kernel
theorem dX12_see_87 : decode cX12_see 87 = .ok (.iastore, 1) := by decide +kernel
theorem dX12_see_88 : decode cX12_see 88 = .ok (.aload_n 0, 1) := by decide +kernel
theorem dX12_see_89 : decode cX12_see 89 = .ok (.dup, 1) := by decide +kernel
theorem dX12_see_90 : decode cX12_see 90 = .ok (.getfield 330, 3) := by decide +kernel
theorem dX12_see_93 : decode cX12_see 93 = .ok (.iconst 1, 1) := by decide +kernel
theorem dX12_see_94 : decode cX12_see 94 = .ok (.iadd, 1) := by decide +kernel
theorem dX12_see_95 : decode cX12_see 95 = .ok (.putfield 330, 3) := by decide +kernel
theorem dX12_see_98 : decode cX12_see 98 = .ok (.aload_n 0, 1) := by decide +kernel
theorem dX12_see_99 : decode cX12_see 99 = .ok (.getfield 330, 3) := by decide +kernel
theorem dX12_see_102 : decode cX12_see 102 = .ok (.ireturn, 1) := by decide +kernel
theorem dX12_isAsSeen_0 : decode cX12_isAsSeen 0 = .ok (.aload_n 0, 1) := by decide +kernel
theorem dX12_isAsSeen_1 : decode cX12_isAsSeen 1 = .ok (.aload_n 0, 1) := by decide +kernel
theorem dX12_isAsSeen_2 : decode cX12_isAsSeen 2 = .ok (.getfield 125, 3) := by decide +kernel
theorem dX12_isAsSeen_5 : decode cX12_isAsSeen 5 = .ok (.iconst 0, 1) := by decide +kernel
theorem dX12_isAsSeen_6 : decode cX12_isAsSeen 6 = .ok (.invokevirtual 388, 3) := by decide +kernel
theorem dX12_isAsSeen_9 : decode cX12_isAsSeen 9 = .ok (.iconst 0, 1) := by decide +kernel
theorem dX12_isAsSeen_10 : decode cX12_isAsSeen 10 = .ok (.istore_n 1, 1) := by decide +kernel
theorem dX12_isAsSeen_11 : decode cX12_isAsSeen 11 = .ok (.iconst 0, 1) := by decide +kernel
theorem dX12_isAsSeen_12 : decode cX12_isAsSeen 12 = .ok (.istore_n 2, 1) := by decide +kernel
theorem dX12_isAsSeen_13 : decode cX12_isAsSeen 13 = .ok (.iload_n 2, 1) := by decide +kernel
theorem dX12_isAsSeen_14 : decode cX12_isAsSeen 14 = .ok (.aload_n 0, 1) := by decide +kernel
theorem dX12_isAsSeen_15 : decode cX12_isAsSeen 15 = .ok (.getfield 330, 3) := by decide +kernel
theorem dX12_isAsSeen_18 : decode cX12_isAsSeen 18 = .ok (.if_icmp .ge 20, 3) := by decide +kernel
theorem dX12_isAsSeen_21 : decode cX12_isAsSeen 21 = .ok (.iload_n 1, 1) := by decide +kernel
theorem dX12_isAsSeen_22 : decode cX12_isAsSeen 22 = .ok (.aload_n 0, 1) := by decide +kernel
theorem dX12_isAsSeen_23 : decode cX12_isAsSeen 23 = .ok (.getfield 119, 3) := by decide +kernel
theorem dX12_isAsSeen_26 : decode cX12_isAsSeen 26 = .ok (.iload_n 2, 1) := by decide +kernel
theorem dX12_isAsSeen_27 : decode cX12_isAsSeen 27 = .ok (.iaload, 1) := by decide +kernel
theorem dX12_isAsSeen_28 : decode cX12_isAsSeen 28 = .ok (.invokestatic 354, 3) := by decide +kernel
theorem dX12_isAsSeen_31 : decode cX12_isAsSeen 31 = .ok (.istore_n 1, 1) := by decide +kernel
theorem dX12_isAsSeen_32 : decode cX12_isAsSeen 32 = .ok (.iinc 2 1, 3) := by decide +kernel
theorem dX12_isAsSeen_35 : decode cX12_isAsSeen 35 = .ok (.goto (-22), 3) := by decide +kernel
theorem dX12_isAsSeen_38 : decode cX12_isAsSeen 38 = .ok (.iconst 1, 1) := by decide +kernel
theorem dX12_isAsSeen_39 : decode cX12_isAsSeen 39 = .ok (.istore_n 2, 1) := by decide +kernel
theorem dX12_isAsSeen_40 : decode cX12_isAsSeen 40 = .ok (.iconst 0, 1) := by decide +kernel
theorem dX12_isAsSeen_41 : decode cX12_isAsSeen 41 = .ok (.istore_n 3, 1) := by decide +kernel
theorem dX12_isAsSeen_42 : decode cX12_isAsSeen 42 = .ok (.iload_n 3, 1) := by decide +kernel
theorem dX12_isAsSeen_43 : decode cX12_isAsSeen 43 = .ok (.iload_n 1, 1) := by decide +kernel
theorem dX12_isAsSeen_44 : decode cX12_isAsSeen 44 = .ok (.if_icmp .gt 78, 3) := by decide +kernel
theorem dX12_isAsSeen_47 : decode cX12_isAsSeen 47 = .ok (.iload_n 2, 1) := by decide +kernel
theorem dX12_isAsSeen_48 : decode cX12_isAsSeen 48 = .ok (.ifCond .eq 74, 3) := by decide +kernel
theorem dX12_isAsSeen_51 : decode cX12_isAsSeen 51 = .ok (.iconst 0, 1) := by decide +kernel
theorem dX12_isAsSeen_52 : decode cX12_isAsSeen 52 = .ok (.istore 4, 2) := by decide +kernel
theorem dX12_isAsSeen_54 : decode cX12_isAsSeen 54 = .ok (.iload 4, 2) := by decide +kernel
theorem dX12_isAsSeen_56 : decode cX12_isAsSeen 56 = .ok (.aload_n 0, 1) := by decide +kernel
theorem dX12_isAsSeen_57 : decode cX12_isAsSeen 57 = .ok (.getfield 330, 3) := by decide +kernel
theorem dX12_isAsSeen_60 : decode cX12_isAsSeen 60 = .ok (.if_icmp .ge 52, 3) := by decide +kernel
theorem dX12_isAsSeen_63 : decode cX12_isAsSeen 63 = .ok (.iload_n 2, 1) := by decide +kernel
theorem dX12_isAsSeen_64 : decode cX12_isAsSeen 64 = .ok (.ifCond .eq 40, 3) := by decide +kernel
theorem dX12_isAsSeen_67 : decode cX12_isAsSeen 67 = .ok (.aload_n 0, 1) := by decide +kernel
theorem dX12_isAsSeen_68 : decode cX12_isAsSeen 68 = .ok (.getfield 119, 3) := by decide +kernel
theorem dX12_isAsSeen_71 : decode cX12_isAsSeen 71 = .ok (.iload 4, 2) := by decide +kernel
theorem dX12_isAsSeen_73 : decode cX12_isAsSeen 73 = .ok (.iaload, 1) := by decide +kernel
theorem dX12_isAsSeen_74 : decode cX12_isAsSeen 74 = .ok (.iload_n 3, 1) := by decide +kernel
theorem dX12_isAsSeen_75 : decode cX12_isAsSeen 75 = .ok (.if_icmp .ne 25, 3) := by decide +kernel
theorem dX12_isAsSeen_78 : decode cX12_isAsSeen 78 = .ok (.aload_n 0, 1) := by decide +kernel
theorem dX12_isAsSeen_79 : decode cX12_isAsSeen 79 = .ok (.getfield 88, 3) := by decide +kernel
theorem dX12_isAsSeen_82 : decode cX12_isAsSeen 82 = .ok (.aload_n 0, 1) := by decide +kernel
theorem dX12_isAsSeen_83 : decode cX12_isAsSeen 83 = .ok (.getfield 116, 3) := by decide +kernel
theorem dX12_isAsSeen_86 : decode cX12_isAsSeen 86 = .ok (.iload 4, 2) := by decide +kernel
theorem dX12_isAsSeen_88 : decode cX12_isAsSeen 88 = .ok (.iaload, 1) := by decide +kernel
theorem dX12_isAsSeen_89 : decode cX12_isAsSeen 89 = .ok (.iaload, 1) := by decide +kernel
theorem dX12_isAsSeen_90 : decode cX12_isAsSeen 90 = .ok (.aload_n 0, 1) := by decide +kernel
theorem dX12_isAsSeen_91 : decode cX12_isAsSeen 91 = .ok (.getfield 122, 3) := by decide +kernel
theorem dX12_isAsSeen_94 : decode cX12_isAsSeen 94 = .ok (.iload 4, 2) := by decide +kernel
theorem dX12_isAsSeen_96 : decode cX12_isAsSeen 96 = .ok (.iaload, 1) := by decide +kernel
theorem dX12_isAsSeen_97 : decode cX12_isAsSeen 97 = .ok (.if_icmp .ne 7, 3) := by decide +kernel
theorem dX12_isAsSeen_100 : decode cX12_isAsSeen 100 = .ok (.iconst 1, 1) := by decide +kernel
theorem dX12_isAsSeen_101 : decode cX12_isAsSeen 101 = .ok (.goto 4, 3) := by decide +kernel
theorem dX12_isAsSeen_104 : decode cX12_isAsSeen 104 = .ok (.iconst 0, 1) := by decide +kernel
theorem dX12_isAsSeen_105 : decode cX12_isAsSeen 105 = .ok (.istore_n 2, 1) := by decide +kernel
theorem dX12_isAsSeen_106 : decode cX12_isAsSeen 106 = .ok (.iinc 4 1, 3) := by decide +kernel
theorem dX12_isAsSeen_109 : decode cX12_isAsSeen 109 = .ok (.goto (-55), 3) := by decide +kernel
theorem dX12_isAsSeen_112 : decode cX12_isAsSeen 112 = .ok (.aload_n 0, 1) := by decide +kernel
theorem dX12_isAsSeen_113 : decode cX12_isAsSeen 113 = .ok (.invokevirtual 378, 3) := by decide +kernel
theorem dX12_isAsSeen_116 : decode cX12_isAsSeen 116 = .ok (.iinc 3 1, 3) := by decide +kernel
theorem dX12_isAsSeen_119 : decode cX12_isAsSeen 119 = .ok (.goto (-77), 3) := by decide +kernel
theorem dX12_isAsSeen_122 : decode cX12_isAsSeen 122 = .ok (.aload_n 0, 1) := by decide +kernel
theorem dX12_isAsSeen_123 : decode cX12_isAsSeen 123 = .ok (.aload_n 0, 1) := by decide +kernel
theorem dX12_isAsSeen_124 : decode cX12_isAsSeen 124 = .ok (.getfield 125, 3) := by decide +kernel
theorem dX12_isAsSeen_127 : decode cX12_isAsSeen 127 = .ok (.iconst 0, 1) := by decide +kernel
theorem dX12_isAsSeen_128 : decode cX12_isAsSeen 128 = .ok (.invokevirtual 392, 3) := by decide +kernel
theorem dX12_isAsSeen_131 : decode cX12_isAsSeen 131 = .ok (.iload_n 2, 1) := by decide +kernel
theorem dX12_isAsSeen_132 : decode cX12_isAsSeen 132 = .ok (.ireturn, 1) := by decide +kernel
theorem dX12_tellFits_0 : decode cX12_tellFits 0 = .ok (.aload_n 0, 1) := by decide +kernel
theorem dX12_tellFits_1 : decode cX12_tellFits 1 = .ok (.iconst 0, 1) := by decide +kernel
theorem dX12_tellFits_2 : decode cX12_tellFits 2 = .ok (.putfield 455, 3) := by decide +kernel
theorem dX12_tellFits_5 : decode cX12_tellFits 5 = .ok (.iconst 0, 1) := by decide +kernel
theorem dX12_tellFits_6 : decode cX12_tellFits 6 = .ok (.istore_n 1, 1) := by decide +kernel
theorem dX12_tellFits_7 : decode cX12_tellFits 7 = .ok (.iload_n 1, 1) := by decide +kernel
theorem dX12_tellFits_8 : decode cX12_tellFits 8 = .ok (.aload_n 0, 1) := by decide +kernel
theorem dX12_tellFits_9 : decode cX12_tellFits 9 = .ok (.getfield 42, 3) := by decide +kernel
theorem dX12_tellFits_12 : decode cX12_tellFits 12 = .ok (.iconst 1, 1) := by decide +kernel
theorem dX12_tellFits_13 : decode cX12_tellFits 13 = .ok (.iaload, 1) := by decide +kernel
theorem dX12_tellFits_14 : decode cX12_tellFits 14 = .ok (.if_icmp .ge 84, 3) := by decide +kernel
theorem dX12_tellFits_17 : decode cX12_tellFits 17 = .ok (.aload_n 0, 1) := by decide +kernel
theorem dX12_tellFits_18 : decode cX12_tellFits 18 = .ok (.getfield 79, 3) := by decide +kernel
theorem dX12_tellFits_21 : decode cX12_tellFits 21 = .ok (.iload_n 1, 1) := by decide +kernel
theorem dX12_tellFits_22 : decode cX12_tellFits 22 = .ok (.iaload, 1) := by decide +kernel
theorem dX12_tellFits_23 : decode cX12_tellFits 23 = .ok (.istore_n 2, 1) := by decide +kernel
theorem dX12_tellFits_24 : decode cX12_tellFits 24 = .ok (.iconst 0, 1) := by decide +kernel
theorem dX12_tellFits_25 : decode cX12_tellFits 25 = .ok (.istore_n 3, 1) := by decide +kernel
theorem dX12_tellFits_26 : decode cX12_tellFits 26 = .ok (.iload_n 3, 1) := by decide +kernel
theorem dX12_tellFits_27 : decode cX12_tellFits 27 = .ok (.bipush 9, 2) := by decide +kernel
theorem dX12_tellFits_29 : decode cX12_tellFits 29 = .ok (.if_icmp .gt 56, 3) := by decide +kernel
theorem dX12_tellFits_32 : decode cX12_tellFits 32 = .ok (.aload_n 0, 1) := by decide +kernel
theorem dX12_tellFits_33 : decode cX12_tellFits 33 = .ok (.getfield 79, 3) := by decide +kernel
theorem dX12_tellFits_36 : decode cX12_tellFits 36 = .ok (.iload_n 1, 1) := by decide +kernel
theorem dX12_tellFits_37 : decode cX12_tellFits 37 = .ok (.iload_n 3, 1) := by decide +kernel
theorem dX12_tellFits_38 : decode cX12_tellFits 38 = .ok (.iastore, 1) := by decide +kernel
theorem dX12_tellFits_39 : decode cX12_tellFits 39 = .ok (.iload_n 3, 1) := by decide +kernel
theorem dX12_tellFits_40 : decode cX12_tellFits 40 = .ok (.iload_n 2, 1) := by decide +kernel
theorem dX12_tellFits_41 : decode cX12_tellFits 41 = .ok (.if_icmp .eq 38, 3) := by decide +kernel
theorem dX12_tellFits_44 : decode cX12_tellFits 44 = .ok (.aload_n 0, 1) := by decide +kernel
theorem dX12_tellFits_45 : decode cX12_tellFits 45 = .ok (.invokevirtual 458, 3) := by decide +kernel
theorem dX12_tellFits_48 : decode cX12_tellFits 48 = .ok (.ifCond .ne 6, 3) := by decide +kernel
theorem dX12_tellFits_51 : decode cX12_tellFits 51 = .ok (.goto 28, 3) := by decide +kernel
theorem dX12_tellFits_54 : decode cX12_tellFits 54 = .ok (.aload_n 0, 1) := by decide +kernel
theorem dX12_tellFits_55 : decode cX12_tellFits 55 = .ok (.getfield 128, 3) := by decide +kernel
theorem dX12_tellFits_58 : decode cX12_tellFits 58 = .ok (.aload_n 0, 1) := by decide +kernel
theorem dX12_tellFits_59 : decode cX12_tellFits 59 = .ok (.getfield 455, 3) := by decide +kernel
theorem dX12_tellFits_62 : decode cX12_tellFits 62 = .ok (.bipush 10, 2) := by decide +kernel
theorem dX12_tellFits_64 : decode cX12_tellFits 64 = .ok (.iload_n 1, 1) := by decide +kernel
theorem dX12_tellFits_65 : decode cX12_tellFits 65 = .ok (.imul, 1) := by decide +kernel
theorem dX12_tellFits_66 : decode cX12_tellFits 66 = .ok (.iload_n 3, 1) := by decide +kernel
theorem dX12_tellFits_67 : decode cX12_tellFits 67 = .ok (.iadd, 1) := by decide +kernel
theorem dX12_tellFits_68 : decode cX12_tellFits 68 = .ok (.iastore, 1) := by decide +kernel
theorem dX12_tellFits_69 : decode cX12_tellFits 69 = .ok (.aload_n 0, 1) := by decide +kernel
theorem dX12_tellFits_70 : decode cX12_tellFits 70 = .ok (.dup, 1) := by decide +kernel
theorem dX12_tellFits_71 : decode cX12_tellFits 71 = .ok (.getfield 455, 3) := by decide +kernel
theorem dX12_tellFits_74 : decode cX12_tellFits 74 = .ok (.iconst 1, 1) := by decide +kernel
theorem dX12_tellFits_75 : decode cX12_tellFits 75 = .ok (.iadd, 1) := by decide +kernel
theorem dX12_tellFits_76 : decode cX12_tellFits 76 = .ok (.putfield 455, 3) := by decide +kernel
theorem dX12_tellFits_79 : decode cX12_tellFits 79 = .ok (.iinc 3 1, 3) := by decide +kernel
theorem dX12_tellFits_82 : decode cX12_tellFits 82 = .ok (.goto (-56), 3) := by decide +kernel
theorem dX12_tellFits_85 : decode cX12_tellFits 85 = .ok (.aload_n 0, 1) := by decide +kernel
theorem dX12_tellFits_86 : decode cX12_tellFits 86 = .ok (.getfield 79, 3) := by decide +kernel
theorem dX12_tellFits_89 : decode cX12_tellFits 89 = .ok (.iload_n 1, 1) := by decide +kernel
theorem dX12_tellFits_90 : decode cX12_tellFits 90 = .ok (.iload_n 2, 1) := by decide +kernel
theorem dX12_tellFits_91 : decode cX12_tellFits 91 = .ok (.iastore, 1) := by decide +kernel
theorem dX12_tellFits_92 : decode cX12_tellFits 92 = .ok (.iinc 1 1, 3) := by decide +kernel
theorem dX12_tellFits_95 : decode cX12_tellFits 95 = .ok (.goto (-88), 3) := by decide +kernel
theorem dX12_tellFits_98 : decode cX12_tellFits 98 = .ok (.return_, 1) := by decide +kernel
theorem dX12_greedy_0 : decode cX12_greedy 0 = .ok (.aload_n 0, 1) := by decide +kernel
theorem dX12_greedy_1 : decode cX12_greedy 1 = .ok (.iconst 0, 1) := by decide +kernel
theorem dX12_greedy_2 : decode cX12_greedy 2 = .ok (.putfield 155, 3) := by decide +kernel
theorem dX12_greedy_5 : decode cX12_greedy 5 = .ok (.iload_n 1, 1) := by decide +kernel
theorem dX12_greedy_6 : decode cX12_greedy 6 = .ok (.i2l, 1) := by decide +kernel
theorem dX12_greedy_7 : decode cX12_greedy 7 = .ok (.lconst 0, 1) := by decide +kernel
theorem dX12_greedy_8 : decode cX12_greedy 8 = .ok (.ldc2_w 461, 3) := by decide +kernel
theorem dX12_greedy_11 : decode cX12_greedy 11 = .ok (.invokestatic 158, 3) := by decide +kernel
theorem dX12_greedy_14 : decode cX12_greedy 14 = .ok (.ifCond .ne 9, 3) := by decide +kernel
theorem dX12_greedy_17 : decode cX12_greedy 17 = .ok (.aload_n 0, 1) := by decide +kernel
theorem dX12_greedy_18 : decode cX12_greedy 18 = .ok (.iconst 1, 1) := by decide +kernel
theorem dX12_greedy_19 : decode cX12_greedy 19 = .ok (.invokevirtual 308, 3) := by decide +kernel
theorem dX12_greedy_22 : decode cX12_greedy 22 = .ok (.ireturn, 1) := by decide +kernel
theorem dX12_greedy_23 : decode cX12_greedy 23 = .ok (.iload_n 1, 1) := by decide +kernel
theorem dX12_greedy_24 : decode cX12_greedy 24 = .ok (.iconst 2, 1) := by decide +kernel
theorem dX12_greedy_25 : decode cX12_greedy 25 = .ok (.if_icmp .ne 16, 3) := by decide +kernel
theorem dX12_greedy_28 : decode cX12_greedy 28 = .ok (.aload_n 0, 1) := by decide +kernel
theorem dX12_greedy_29 : decode cX12_greedy 29 = .ok (.invokevirtual 458, 3) := by decide +kernel
theorem dX12_greedy_32 : decode cX12_greedy 32 = .ok (.ifCond .eq 7, 3) := by decide +kernel
theorem dX12_greedy_35 : decode cX12_greedy 35 = .ok (.iconst 1, 1) := by decide +kernel
theorem dX12_greedy_36 : decode cX12_greedy 36 = .ok (.goto 4, 3) := by decide +kernel
theorem dX12_greedy_39 : decode cX12_greedy 39 = .ok (.iconst 0, 1) := by decide +kernel
theorem dX12_greedy_40 : decode cX12_greedy 40 = .ok (.ireturn, 1) := by decide +kernel
theorem dX12_greedy_41 : decode cX12_greedy 41 = .ok (.aload_n 0, 1) := by decide +kernel
theorem dX12_greedy_42 : decode cX12_greedy 42 = .ok (.invokevirtual 463, 3) := by decide +kernel
theorem dX12_greedy_45 : decode cX12_greedy 45 = .ok (.iload_n 1, 1) := by decide +kernel
theorem dX12_greedy_46 : decode cX12_greedy 46 = .ok (.ifCond .ne 10, 3) := by decide +kernel
theorem dX12_greedy_49 : decode cX12_greedy 49 = .ok (.aload_n 0, 1) := by decide +kernel
theorem dX12_greedy_50 : decode cX12_greedy 50 = .ok (.getfield 455, 3) := by decide +kernel
theorem dX12_greedy_53 : decode cX12_greedy 53 = .ok (.goto 20, 3) := by decide +kernel
theorem dX12_greedy_56 : decode cX12_greedy 56 = .ok (.aload_n 0, 1) := by decide +kernel
theorem dX12_greedy_57 : decode cX12_greedy 57 = .ok (.getfield 455, 3) := by decide +kernel
theorem dX12_greedy_60 : decode cX12_greedy 60 = .ok (.ifCond .ne 7, 3) := by decide +kernel
theorem dX12_greedy_63 : decode cX12_greedy 63 = .ok (.iconst (-1), 1) := by decide +kernel
theorem dX12_greedy_64 : decode cX12_greedy 64 = .ok (.goto 9, 3) := by decide +kernel
theorem dX12_greedy_67 : decode cX12_greedy 67 = .ok (.aload_n 0, 1) := by decide +kernel
theorem dX12_greedy_68 : decode cX12_greedy 68 = .ok (.getfield 128, 3) := by decide +kernel
theorem dX12_greedy_71 : decode cX12_greedy 71 = .ok (.iconst 0, 1) := by decide +kernel
theorem dX12_greedy_72 : decode cX12_greedy 72 = .ok (.iaload, 1) := by decide +kernel
theorem dX12_greedy_73 : decode cX12_greedy 73 = .ok (.ireturn, 1) := by decide +kernel
theorem dX12_unlike_0 : decode cX12_unlike 0 = .ok (.iconst 0, 1) := by decide +kernel
theorem dX12_unlike_1 : decode cX12_unlike 1 = .ok (.istore_n 2, 1) := by decide +kernel
theorem dX12_unlike_2 : decode cX12_unlike 2 = .ok (.iconst 0, 1) := by decide +kernel
theorem dX12_unlike_3 : decode cX12_unlike 3 = .ok (.istore_n 3, 1) := by decide +kernel
theorem dX12_unlike_4 : decode cX12_unlike 4 = .ok (.iload_n 3, 1) := by decide +kernel
theorem dX12_unlike_5 : decode cX12_unlike 5 = .ok (.aload_n 0, 1) := by decide +kernel
theorem dX12_unlike_6 : decode cX12_unlike 6 = .ok (.getfield 455, 3) := by decide +kernel
theorem dX12_unlike_9 : decode cX12_unlike 9 = .ok (.if_icmp .ge 25, 3) := by decide +kernel
theorem dX12_unlike_12 : decode cX12_unlike 12 = .ok (.iload_n 2, 1) := by decide +kernel
theorem dX12_unlike_13 : decode cX12_unlike 13 = .ok (.iconst 1, 1) := by decide +kernel
theorem dX12_unlike_14 : decode cX12_unlike 14 = .ok (.aload_n 0, 1) := by decide +kernel
theorem dX12_unlike_15 : decode cX12_unlike 15 = .ok (.getfield 131, 3) := by decide +kernel
theorem dX12_unlike_18 : decode cX12_unlike 18 = .ok (.bipush 20, 2) := by decide +kernel
theorem dX12_unlike_20 : decode cX12_unlike 20 = .ok (.iload_n 3, 1) := by decide +kernel
theorem dX12_unlike_21 : decode cX12_unlike 21 = .ok (.imul, 1) := by decide +kernel
theorem dX12_unlike_22 : decode cX12_unlike 22 = .ok (.iload_n 1, 1) := by decide +kernel
theorem dX12_unlike_23 : decode cX12_unlike 23 = .ok (.iadd, 1) := by decide +kernel
theorem dX12_unlike_24 : decode cX12_unlike 24 = .ok (.iaload, 1) := by decide +kernel
theorem dX12_unlike_25 : decode cX12_unlike 25 = .ok (.ishl, 1) := by decide +kernel
theorem dX12_unlike_26 : decode cX12_unlike 26 = .ok (.ior, 1) := by decide +kernel
theorem dX12_unlike_27 : decode cX12_unlike 27 = .ok (.istore_n 2, 1) := by decide +kernel
theorem dX12_unlike_28 : decode cX12_unlike 28 = .ok (.iinc 3 1, 3) := by decide +kernel
theorem dX12_unlike_31 : decode cX12_unlike 31 = .ok (.goto (-27), 3) := by decide +kernel
theorem dX12_unlike_34 : decode cX12_unlike 34 = .ok (.iload_n 2, 1) := by decide +kernel
theorem dX12_unlike_35 : decode cX12_unlike 35 = .ok (.invokestatic 437, 3) := by decide +kernel
theorem dX12_unlike_38 : decode cX12_unlike 38 = .ok (.ireturn, 1) := by decide +kernel
theorem dX12_look_0 : decode cX12_look 0 = .ok (.aload_n 0, 1) := by decide +kernel
theorem dX12_look_1 : decode cX12_look 1 = .ok (.iconst 0, 1) := by decide +kernel
theorem dX12_look_2 : decode cX12_look 2 = .ok (.putfield 155, 3) := by decide +kernel
theorem dX12_look_5 : decode cX12_look 5 = .ok (.iload_n 1, 1) := by decide +kernel
theorem dX12_look_6 : decode cX12_look 6 = .ok (.ifCond .lt 8, 3) := by decide +kernel
theorem dX12_look_9 : decode cX12_look 9 = .ok (.iload_n 1, 1) := by decide +kernel
theorem dX12_look_10 : decode cX12_look 10 = .ok (.iconst 1, 1) := by decide +kernel
theorem dX12_look_11 : decode cX12_look 11 = .ok (.if_icmp .le 9, 3) := by decide +kernel
theorem dX12_look_14 : decode cX12_look 14 = .ok (.aload_n 0, 1) := by decide +kernel
theorem dX12_look_15 : decode cX12_look 15 = .ok (.iconst 1, 1) := by decide +kernel
theorem dX12_look_16 : decode cX12_look 16 = .ok (.invokevirtual 308, 3) := by decide +kernel
theorem dX12_look_19 : decode cX12_look 19 = .ok (.ireturn, 1) := by decide +kernel
theorem dX12_look_20 : decode cX12_look 20 = .ok (.aload_n 0, 1) := by decide +kernel
theorem dX12_look_21 : decode cX12_look 21 = .ok (.invokevirtual 463, 3) := by decide +kernel
theorem dX12_look_24 : decode cX12_look 24 = .ok (.aload_n 0, 1) := by decide +kernel
theorem dX12_look_25 : decode cX12_look 25 = .ok (.aload_n 0, 1) := by decide +kernel
theorem dX12_look_26 : decode cX12_look 26 = .ok (.getfield 110, 3) := by decide +kernel
theorem dX12_look_29 : decode cX12_look 29 = .ok (.iconst 0, 1) := by decide +kernel
theorem dX12_look_30 : decode cX12_look 30 = .ok (.invokevirtual 388, 3) := by decide +kernel
theorem dX12_look_33 : decode cX12_look 33 = .ok (.iconst 0, 1) := by decide +kernel
theorem dX12_look_34 : decode cX12_look 34 = .ok (.istore_n 2, 1) := by decide +kernel
theorem dX12_look_35 : decode cX12_look 35 = .ok (.iload_n 2, 1) := by decide +kernel
theorem dX12_look_36 : decode cX12_look 36 = .ok (.aload_n 0, 1) := by decide +kernel
theorem dX12_look_37 : decode cX12_look 37 = .ok (.getfield 455, 3) := by decide +kernel
theorem dX12_look_40 : decode cX12_look 40 = .ok (.if_icmp .ge 99, 3) := by decide +kernel
theorem dX12_look_43 : decode cX12_look 43 = .ok (.aload_n 0, 1) := by decide +kernel
theorem dX12_look_44 : decode cX12_look 44 = .ok (.getfield 128, 3) := by decide +kernel
theorem dX12_look_47 : decode cX12_look 47 = .ok (.iload_n 2, 1) := by decide +kernel
theorem dX12_look_48 : decode cX12_look 48 = .ok (.iaload, 1) := by decide +kernel
theorem dX12_look_49 : decode cX12_look 49 = .ok (.bipush 10, 2) := by decide +kernel
theorem dX12_look_51 : decode cX12_look 51 = .ok (.idiv, 1) := by decide +kernel
theorem dX12_look_52 : decode cX12_look 52 = .ok (.istore_n 3, 1) := by decide +kernel
theorem dX12_look_53 : decode cX12_look 53 = .ok (.aload_n 0, 1) := by decide +kernel
theorem dX12_look_54 : decode cX12_look 54 = .ok (.getfield 79, 3) := by decide +kernel
theorem dX12_look_57 : decode cX12_look 57 = .ok (.iload_n 3, 1) := by decide +kernel
theorem dX12_look_58 : decode cX12_look 58 = .ok (.iaload, 1) := by decide +kernel
theorem dX12_look_59 : decode cX12_look 59 = .ok (.istore 4, 2) := by decide +kernel
theorem dX12_look_61 : decode cX12_look 61 = .ok (.aload_n 0, 1) := by decide +kernel
theorem dX12_look_62 : decode cX12_look 62 = .ok (.getfield 79, 3) := by decide +kernel
theorem dX12_look_65 : decode cX12_look 65 = .ok (.iload_n 3, 1) := by decide +kernel
theorem dX12_look_66 : decode cX12_look 66 = .ok (.aload_n 0, 1) := by decide +kernel
theorem dX12_look_67 : decode cX12_look 67 = .ok (.getfield 128, 3) := by decide +kernel
theorem dX12_look_70 : decode cX12_look 70 = .ok (.iload_n 2, 1) := by decide +kernel
theorem dX12_look_71 : decode cX12_look 71 = .ok (.iaload, 1) := by decide +kernel
theorem dX12_look_72 : decode cX12_look 72 = .ok (.bipush 10, 2) := by decide +kernel
theorem dX12_look_74 : decode cX12_look 74 = .ok (.irem, 1) := by decide +kernel
theorem dX12_look_75 : decode cX12_look 75 = .ok (.iastore, 1) := by decide +kernel
theorem dX12_look_76 : decode cX12_look 76 = .ok (.iconst 0, 1) := by decide +kernel
theorem dX12_look_77 : decode cX12_look 77 = .ok (.istore 5, 2) := by decide +kernel
theorem dX12_look_79 : decode cX12_look 79 = .ok (.iload 5, 2) := by decide +kernel
theorem dX12_look_81 : decode cX12_look 81 = .ok (.bipush 20, 2) := by decide +kernel
theorem dX12_look_83 : decode cX12_look 83 = .ok (.if_icmp .ge 33, 3) := by decide +kernel
theorem dX12_look_86 : decode cX12_look 86 = .ok (.aload_n 0, 1) := by decide +kernel
theorem dX12_look_87 : decode cX12_look 87 = .ok (.invokevirtual 378, 3) := by decide +kernel
theorem dX12_look_90 : decode cX12_look 90 = .ok (.aload_n 0, 1) := by decide +kernel
theorem dX12_look_91 : decode cX12_look 91 = .ok (.getfield 131, 3) := by decide +kernel
theorem dX12_look_94 : decode cX12_look 94 = .ok (.bipush 20, 2) := by decide +kernel
theorem dX12_look_96 : decode cX12_look 96 = .ok (.iload_n 2, 1) := by decide +kernel
theorem dX12_look_97 : decode cX12_look 97 = .ok (.imul, 1) := by decide +kernel
theorem dX12_look_98 : decode cX12_look 98 = .ok (.iload 5, 2) := by decide +kernel
theorem dX12_look_100 : decode cX12_look 100 = .ok (.iadd, 1) := by decide +kernel
theorem dX12_look_101 : decode cX12_look 101 = .ok (.aload_n 0, 1) := by decide +kernel
theorem dX12_look_102 : decode cX12_look 102 = .ok (.aload_n 0, 1) := by decide +kernel
theorem dX12_look_103 : decode cX12_look 103 = .ok (.getfield 88, 3) := by decide +kernel
theorem dX12_look_106 : decode cX12_look 106 = .ok (.invokevirtual 434, 3) := by decide +kernel
theorem dX12_look_109 : decode cX12_look 109 = .ok (.iastore, 1) := by decide +kernel
theorem dX12_look_110 : decode cX12_look 110 = .ok (.iinc 5 1, 3) := by decide +kernel
theorem dX12_look_113 : decode cX12_look 113 = .ok (.goto (-34), 3) := by decide +kernel
theorem dX12_look_116 : decode cX12_look 116 = .ok (.aload_n 0, 1) := by decide +kernel
theorem dX12_look_117 : decode cX12_look 117 = .ok (.getfield 79, 3) := by decide +kernel
theorem dX12_look_120 : decode cX12_look 120 = .ok (.iload_n 3, 1) := by decide +kernel
theorem dX12_look_121 : decode cX12_look 121 = .ok (.iload 4, 2) := by decide +kernel
theorem dX12_look_123 : decode cX12_look 123 = .ok (.iastore, 1) := by decide +kernel
theorem dX12_look_124 : decode cX12_look 124 = .ok (.aload_n 0, 1) := by decide +kernel
theorem dX12_look_125 : decode cX12_look 125 = .ok (.aload_n 0, 1) := by decide +kernel
theorem dX12_look_126 : decode cX12_look 126 = .ok (.getfield 110, 3) := by decide +kernel
theorem dX12_look_129 : decode cX12_look 129 = .ok (.iconst 0, 1) := by decide +kernel
theorem dX12_look_130 : decode cX12_look 130 = .ok (.invokevirtual 392, 3) := by decide +kernel
theorem dX12_look_133 : decode cX12_look 133 = .ok (.iinc 2 1, 3) := by decide +kernel
theorem dX12_look_136 : decode cX12_look 136 = .ok (.goto (-101), 3) := by decide +kernel
theorem dX12_look_139 : decode cX12_look 139 = .ok (.iconst (-1), 1) := by decide +kernel
theorem dX12_look_140 : decode cX12_look 140 = .ok (.istore_n 2, 1) := by decide +kernel
theorem dX12_look_141 : decode cX12_look 141 = .ok (.iconst 0, 1) := by decide +kernel
theorem dX12_look_142 : decode cX12_look 142 = .ok (.istore_n 3, 1) := by decide +kernel
theorem dX12_look_143 : decode cX12_look 143 = .ok (.iconst 0, 1) := by decide +kernel
theorem dX12_look_144 : decode cX12_look 144 = .ok (.istore 4, 2) := by decide +kernel
theorem dX12_look_146 : decode cX12_look 146 = .ok (.iload 4, 2) := by decide +kernel
theorem dX12_look_148 : decode cX12_look 148 = .ok (.bipush 20, 2) := by decide +kernel
theorem dX12_look_150 : decode cX12_look 150 = .ok (.if_icmp .ge 34, 3) := by decide +kernel
theorem dX12_look_153 : decode cX12_look 153 = .ok (.aload_n 0, 1) := by decide +kernel
theorem dX12_look_154 : decode cX12_look 154 = .ok (.iload 4, 2) := by decide +kernel
theorem dX12_look_156 : decode cX12_look 156 = .ok (.invokevirtual 466, 3) := by decide +kernel
theorem dX12_look_159 : decode cX12_look 159 = .ok (.istore 5, 2) := by decide +kernel
theorem dX12_look_161 : decode cX12_look 161 = .ok (.iload 5, 2) := by decide +kernel
theorem dX12_look_163 : decode cX12_look 163 = .ok (.iload_n 3, 1) := by decide +kernel
theorem dX12_look_164 : decode cX12_look 164 = .ok (.if_icmp .gt 6, 3) := by decide +kernel
theorem dX12_look_167 : decode cX12_look 167 = .ok (.goto 11, 3) := by decide +kernel
theorem dX12_look_170 : decode cX12_look 170 = .ok (.iload 4, 2) := by decide +kernel
theorem dX12_look_172 : decode cX12_look 172 = .ok (.iconst 1, 1) := by decide +kernel
theorem dX12_look_173 : decode cX12_look 173 = .ok (.iadd, 1) := by decide +kernel
theorem dX12_look_174 : decode cX12_look 174 = .ok (.istore_n 2, 1) := by decide +kernel
theorem dX12_look_175 : decode cX12_look 175 = .ok (.iload 5, 2) := by decide +kernel
theorem dX12_look_177 : decode cX12_look 177 = .ok (.istore_n 3, 1) := by decide +kernel
theorem dX12_look_178 : decode cX12_look 178 = .ok (.iinc 4 1, 3) := by decide +kernel
theorem dX12_look_181 : decode cX12_look 181 = .ok (.goto (-35), 3) := by decide +kernel
theorem dX12_look_184 : decode cX12_look 184 = .ok (.iload_n 1, 1) := by decide +kernel
theorem dX12_look_185 : decode cX12_look 185 = .ok (.ifCond .ne 7, 3) := by decide +kernel
theorem dX12_look_188 : decode cX12_look 188 = .ok (.iload_n 2, 1) := by decide +kernel
theorem dX12_look_189 : decode cX12_look 189 = .ok (.goto 4, 3) := by decide +kernel
theorem dX12_look_192 : decode cX12_look 192 = .ok (.iload_n 3, 1) := by decide +kernel
theorem dX12_look_193 : decode cX12_look 193 = .ok (.ireturn, 1) := by decide +kernel
theorem dX12_forget_0 : decode cX12_forget 0 = .ok (.aload_n 0, 1) := by decide +kernel
theorem dX12_forget_1 : decode cX12_forget 1 = .ok (.iconst 0, 1) := by decide +kernel
theorem dX12_forget_2 : decode cX12_forget 2 = .ok (.putfield 155, 3) := by decide +kernel
theorem dX12_forget_5 : decode cX12_forget 5 = .ok (.aload_n 0, 1) := by decide +kernel
theorem dX12_forget_6 : decode cX12_forget 6 = .ok (.iconst 0, 1) := by decide +kernel
theorem dX12_forget_7 : decode cX12_forget 7 = .ok (.putfield 330, 3) := by decide +kernel
theorem dX12_forget_10 : decode cX12_forget 10 = .ok (.return_, 1) := by decide +kernel
theorem dX12_drought_0 : decode cX12_drought 0 = .ok (.aload_n 0, 1) := by decide +kernel
theorem dX12_drought_1 : decode cX12_drought 1 = .ok (.iconst 0, 1) := by decide +kernel
theorem dX12_drought_2 : decode cX12_drought 2 = .ok (.putfield 155, 3) := by decide +kernel
theorem dX12_drought_5 : decode cX12_drought 5 = .ok (.aload_n 0, 1) := by decide +kernel
theorem dX12_drought_6 : decode cX12_drought 6 = .ok (.iload_n 1, 1) := by decide +kernel
theorem dX12_drought_7 : decode cX12_drought 7 = .ok (.invokevirtual 401, 3) := by decide +kernel
theorem dX12_drought_10 : decode cX12_drought 10 = .ok (.ifCond .ne 9, 3) := by decide +kernel
theorem dX12_drought_13 : decode cX12_drought 13 = .ok (.aload_n 0, 1) := by decide +kernel
theorem dX12_drought_14 : decode cX12_drought 14 = .ok (.iconst 1, 1) := by decide +kernel
theorem dX12_drought_15 : decode cX12_drought 15 = .ok (.invokevirtual 308, 3) := by decide +kernel
theorem dX12_drought_18 : decode cX12_drought 18 = .ok (.ireturn, 1) := by decide +kernel
theorem dX12_drought_19 : decode cX12_drought 19 = .ok (.iload_n 2, 1) := by decide +kernel
theorem dX12_drought_20 : decode cX12_drought 20 = .ok (.i2l, 1) := by decide +kernel
theorem dX12_drought_21 : decode cX12_drought 21 = .ok (.lconst 1, 1) := by decide +kernel
theorem dX12_drought_22 : decode cX12_drought 22 = .ok (.ldc2_w 469, 3) := by decide +kernel
theorem dX12_drought_25 : decode cX12_drought 25 = .ok (.invokestatic 158, 3) := by decide +kernel
theorem dX12_drought_28 : decode cX12_drought 28 = .ok (.ifCond .eq 15, 3) := by decide +kernel
theorem dX12_drought_31 : decode cX12_drought 31 = .ok (.iload_n 3, 1) := by decide +kernel
theorem dX12_drought_32 : decode cX12_drought 32 = .ok (.i2l, 1) := by decide +kernel
theorem dX12_drought_33 : decode cX12_drought 33 = .ok (.lconst 0, 1) := by decide +kernel
theorem dX12_drought_34 : decode cX12_drought 34 = .ok (.ldc2_w 471, 3) := by decide +kernel
theorem dX12_drought_37 : decode cX12_drought 37 = .ok (.invokestatic 158, 3) := by decide +kernel
theorem dX12_drought_40 : decode cX12_drought 40 = .ok (.ifCond .ne 9, 3) := by decide +kernel
theorem dX12_drought_43 : decode cX12_drought 43 = .ok (.aload_n 0, 1) := by decide +kernel
theorem dX12_drought_44 : decode cX12_drought 44 = .ok (.iconst 2, 1) := by decide +kernel
theorem dX12_drought_45 : decode cX12_drought 45 = .ok (.invokevirtual 308, 3) := by decide +kernel
theorem dX12_drought_48 : decode cX12_drought 48 = .ok (.ireturn, 1) := by decide +kernel
theorem dX12_drought_49 : decode cX12_drought 49 = .ok (.iconst 0, 1) := by decide +kernel
theorem dX12_drought_50 : decode cX12_drought 50 = .ok (.istore 4, 2) := by decide +kernel
theorem dX12_drought_52 : decode cX12_drought 52 = .ok (.aload_n 0, 1) := by decide +kernel
theorem dX12_drought_53 : decode cX12_drought 53 = .ok (.getfield 92, 3) := by decide +kernel
theorem dX12_drought_56 : decode cX12_drought 56 = .ok (.iload_n 1, 1) := by decide +kernel
theorem dX12_drought_57 : decode cX12_drought 57 = .ok (.iaload, 1) := by decide +kernel
theorem dX12_drought_58 : decode cX12_drought 58 = .ok (.istore 5, 2) := by decide +kernel
theorem dX12_drought_60 : decode cX12_drought 60 = .ok (.aload_n 0, 1) := by decide +kernel
theorem dX12_drought_61 : decode cX12_drought 61 = .ok (.aload_n 0, 1) := by decide +kernel
theorem dX12_drought_62 : decode cX12_drought 62 = .ok (.getfield 110, 3) := by decide +kernel
theorem dX12_drought_65 : decode cX12_drought 65 = .ok (.iconst 0, 1) := by decide +kernel
theorem dX12_drought_66 : decode cX12_drought 66 = .ok (.invokevirtual 388, 3) := by decide +kernel
theorem dX12_drought_69 : decode cX12_drought 69 = .ok (.iconst 0, 1) := by decide +kernel
theorem dX12_drought_70 : decode cX12_drought 70 = .ok (.istore 6, 2) := by decide +kernel
theorem dX12_drought_72 : decode cX12_drought 72 = .ok (.iload 6, 2) := by decide +kernel
theorem dX12_drought_74 : decode cX12_drought 74 = .ok (.iconst 1, 1) := by decide +kernel
theorem dX12_drought_75 : decode cX12_drought 75 = .ok (.iload_n 2, 1) := by decide +kernel
theorem dX12_drought_76 : decode cX12_drought 76 = .ok (.ishl, 1) := by decide +kernel
theorem dX12_drought_77 : decode cX12_drought 77 = .ok (.if_icmp .ge 105, 3) := by decide +kernel
theorem dX12_drought_80 : decode cX12_drought 80 = .ok (.iconst 1, 1) := by decide +kernel
theorem dX12_drought_81 : decode cX12_drought 81 = .ok (.istore 7, 2) := by decide +kernel
theorem dX12_drought_83 : decode cX12_drought 83 = .ok (.iconst 0, 1) := by decide +kernel
theorem dX12_drought_84 : decode cX12_drought 84 = .ok (.istore 8, 2) := by decide +kernel
theorem dX12_drought_86 : decode cX12_drought 86 = .ok (.iload 8, 2) := by decide +kernel
theorem dX12_drought_88 : decode cX12_drought 88 = .ok (.iload_n 2, 1) := by decide +kernel
theorem dX12_drought_89 : decode cX12_drought 89 = .ok (.if_icmp .ge 56, 3) := by decide +kernel
theorem dX12_drought_92 : decode cX12_drought 92 = .ok (.aload_n 0, 1) := by decide +kernel
theorem dX12_drought_93 : decode cX12_drought 93 = .ok (.iload 6, 2) := by decide +kernel
theorem dX12_drought_95 : decode cX12_drought 95 = .ok (.iload 8, 2) := by decide +kernel
theorem dX12_drought_97 : decode cX12_drought 97 = .ok (.invokestatic 285, 3) := by decide +kernel
theorem dX12_drought_100 : decode cX12_drought 100 = .ok (.ifCond .eq 7, 3) := by decide +kernel
theorem dX12_drought_103 : decode cX12_drought 103 = .ok (.iconst 0, 1) := by decide +kernel
theorem dX12_drought_104 : decode cX12_drought 104 = .ok (.goto 5, 3) := by decide +kernel
theorem dX12_drought_107 : decode cX12_drought 107 = .ok (.bipush 9, 2) := by decide +kernel
theorem dX12_drought_109 : decode cX12_drought 109 = .ok (.putfield 101, 3) := by decide +kernel
theorem dX12_drought_112 : decode cX12_drought 112 = .ok (.iload 7, 2) := by decide +kernel
theorem dX12_drought_114 : decode cX12_drought 114 = .ok (.iload 6, 2) := by decide +kernel
theorem dX12_drought_116 : decode cX12_drought 116 = .ok (.iload 8, 2) := by decide +kernel
theorem dX12_drought_118 : decode cX12_drought 118 = .ok (.invokestatic 285, 3) := by decide +kernel
theorem dX12_drought_121 : decode cX12_drought 121 = .ok (.ifCond .eq 7, 3) := by decide +kernel
theorem dX12_drought_124 : decode cX12_drought 124 = .ok (.iload_n 3, 1) := by decide +kernel
theorem dX12_drought_125 : decode cX12_drought 125 = .ok (.goto 7, 3) := by decide +kernel
theorem dX12_drought_128 : decode cX12_drought 128 = .ok (.bipush 10, 2) := by decide +kernel
theorem dX12_drought_130 : decode cX12_drought 130 = .ok (.iload_n 3, 1) := by decide +kernel
theorem dX12_drought_131 : decode cX12_drought 131 = .ok (.isub, 1) := by decide +kernel
theorem dX12_drought_132 : decode cX12_drought 132 = .ok (.imul, 1) := by decide +kernel
theorem dX12_drought_133 : decode cX12_drought 133 = .ok (.istore 7, 2) := by decide +kernel
theorem dX12_drought_135 : decode cX12_drought 135 = .ok (.aload_n 0, 1) := by decide +kernel
theorem dX12_drought_136 : decode cX12_drought 136 = .ok (.invokevirtual 378, 3) := by decide +kernel
theorem dX12_drought_139 : decode cX12_drought 139 = .ok (.iinc 8 1, 3) := by decide +kernel
theorem dX12_drought_142 : decode cX12_drought 142 = .ok (.goto (-56), 3) := by decide +kernel
theorem dX12_drought_145 : decode cX12_drought 145 = .ok (.iload 4, 2) := by decide +kernel
theorem dX12_drought_147 : decode cX12_drought 147 = .ok (.aload_n 0, 1) := by decide +kernel
theorem dX12_drought_148 : decode cX12_drought 148 = .ok (.getfield 92, 3) := by decide +kernel
theorem dX12_drought_151 : decode cX12_drought 151 = .ok (.iload_n 1, 1) := by decide +kernel
theorem dX12_drought_152 : decode cX12_drought 152 = .ok (.iaload, 1) := by decide +kernel
theorem dX12_drought_153 : decode cX12_drought 153 = .ok (.iload 5, 2) := by decide +kernel
theorem dX12_drought_155 : decode cX12_drought 155 = .ok (.if_icmp .le 8, 3) := by decide +kernel
theorem dX12_drought_158 : decode cX12_drought 158 = .ok (.iload 7, 2) := by decide +kernel
theorem dX12_drought_160 : decode cX12_drought 160 = .ok (.goto 4, 3) := by decide +kernel
theorem dX12_drought_163 : decode cX12_drought 163 = .ok (.iconst 0, 1) := by decide +kernel
theorem dX12_drought_164 : decode cX12_drought 164 = .ok (.iadd, 1) := by decide +kernel
theorem dX12_drought_165 : decode cX12_drought 165 = .ok (.istore 4, 2) := by decide +kernel
theorem dX12_drought_167 : decode cX12_drought 167 = .ok (.aload_n 0, 1) := by decide +kernel
theorem dX12_drought_168 : decode cX12_drought 168 = .ok (.aload_n 0, 1) := by decide +kernel
theorem dX12_drought_169 : decode cX12_drought 169 = .ok (.getfield 110, 3) := by decide +kernel
theorem dX12_drought_172 : decode cX12_drought 172 = .ok (.iconst 0, 1) := by decide +kernel
theorem dX12_drought_173 : decode cX12_drought 173 = .ok (.invokevirtual 392, 3) := by decide +kernel
theorem dX12_drought_176 : decode cX12_drought 176 = .ok (.iinc 6 1, 3) := by decide +kernel
theorem dX12_drought_179 : decode cX12_drought 179 = .ok (.goto (-107), 3) := by decide +kernel
theorem dX12_drought_182 : decode cX12_drought 182 = .ok (.aload_n 0, 1) := by decide +kernel
theorem dX12_drought_183 : decode cX12_drought 183 = .ok (.iconst (-1), 1) := by decide +kernel
theorem dX12_drought_184 : decode cX12_drought 184 = .ok (.putfield 101, 3) := by decide +kernel
theorem dX12_drought_187 : decode cX12_drought 187 = .ok (.iload 4, 2) := by decide +kernel
theorem dX12_drought_189 : decode cX12_drought 189 = .ok (.ireturn, 1) := by decide +kernel
theorem dX12_tellGains_0 : decode cX12_tellGains 0 = .ok (.aload_n 0, 1) := by decide +kernel
theorem dX12_tellGains_1 : decode cX12_tellGains 1 = .ok (.aload_n 0, 1) := by decide +kernel
theorem dX12_tellGains_2 : decode cX12_tellGains 2 = .ok (.getfield 110, 3) := by decide +kernel
theorem dX12_tellGains_5 : decode cX12_tellGains 5 = .ok (.iconst 0, 1) := by decide +kernel
theorem dX12_tellGains_6 : decode cX12_tellGains 6 = .ok (.invokevirtual 388, 3) := by decide +kernel
theorem dX12_tellGains_9 : decode cX12_tellGains 9 = .ok (.iconst 0, 1) := by decide +kernel
theorem dX12_tellGains_10 : decode cX12_tellGains 10 = .ok (.istore_n 3, 1) := by decide +kernel
theorem dX12_tellGains_11 : decode cX12_tellGains 11 = .ok (.iload_n 3, 1) := by decide +kernel
theorem dX12_tellGains_12 : decode cX12_tellGains 12 = .ok (.iconst 4, 1) := by decide +kernel
theorem dX12_tellGains_13 : decode cX12_tellGains 13 = .ok (.if_icmp .ge 160, 3) := by decide +kernel
theorem dX12_tellGains_16 : decode cX12_tellGains 16 = .ok (.iload_n 3, 1) := by decide +kernel
theorem dX12_tellGains_17 : decode cX12_tellGains 17 = .ok (.iconst 2, 1) := by decide +kernel
theorem dX12_tellGains_18 : decode cX12_tellGains 18 = .ok (.idiv, 1) := by decide +kernel
theorem dX12_tellGains_19 : decode cX12_tellGains 19 = .ok (.iconst 1, 1) := by decide +kernel
theorem dX12_tellGains_20 : decode cX12_tellGains 20 = .ok (.if_icmp .ne 8, 3) := by decide +kernel
theorem dX12_tellGains_23 : decode cX12_tellGains 23 = .ok (.aload_n 0, 1) := by decide +kernel
theorem dX12_tellGains_24 : decode cX12_tellGains 24 = .ok (.iload_n 1, 1) := by decide +kernel
theorem dX12_tellGains_25 : decode cX12_tellGains 25 = .ok (.invokevirtual 425, 3) := by decide +kernel
theorem dX12_tellGains_28 : decode cX12_tellGains 28 = .ok (.iload_n 3, 1) := by decide +kernel
theorem dX12_tellGains_29 : decode cX12_tellGains 29 = .ok (.iconst 2, 1) := by decide +kernel
theorem dX12_tellGains_30 : decode cX12_tellGains 30 = .ok (.irem, 1) := by decide +kernel
theorem dX12_tellGains_31 : decode cX12_tellGains 31 = .ok (.iconst 1, 1) := by decide +kernel
theorem dX12_tellGains_32 : decode cX12_tellGains 32 = .ok (.if_icmp .ne 8, 3) := by decide +kernel
theorem dX12_tellGains_35 : decode cX12_tellGains 35 = .ok (.aload_n 0, 1) := by decide +kernel
theorem dX12_tellGains_36 : decode cX12_tellGains 36 = .ok (.iload_n 2, 1) := by decide +kernel
theorem dX12_tellGains_37 : decode cX12_tellGains 37 = .ok (.invokevirtual 425, 3) := by decide +kernel
theorem dX12_tellGains_40 : decode cX12_tellGains 40 = .ok (.iconst 0, 1) := by decide +kernel
theorem dX12_tellGains_41 : decode cX12_tellGains 41 = .ok (.istore 4, 2) := by decide +kernel
theorem dX12_tellGains_43 : decode cX12_tellGains 43 = .ok (.iconst 0, 1) := by decide +kernel
theorem dX12_tellGains_44 : decode cX12_tellGains 44 = .ok (.istore 5, 2) := by decide +kernel
theorem dX12_tellGains_46 : decode cX12_tellGains 46 = .ok (.iconst 0, 1) := by decide +kernel
theorem dX12_tellGains_47 : decode cX12_tellGains 47 = .ok (.istore 6, 2) := by decide +kernel
theorem dX12_tellGains_49 : decode cX12_tellGains 49 = .ok (.iload 6, 2) := by decide +kernel
theorem dX12_tellGains_51 : decode cX12_tellGains 51 = .ok (.bipush 8, 2) := by decide +kernel
theorem dX12_tellGains_53 : decode cX12_tellGains 53 = .ok (.if_icmp .ge 55, 3) := by decide +kernel
theorem dX12_tellGains_56 : decode cX12_tellGains 56 = .ok (.aload_n 0, 1) := by decide +kernel
theorem dX12_tellGains_57 : decode cX12_tellGains 57 = .ok (.invokevirtual 378, 3) := by decide +kernel
theorem dX12_tellGains_60 : decode cX12_tellGains 60 = .ok (.iload 4, 2) := by decide +kernel
theorem dX12_tellGains_62 : decode cX12_tellGains 62 = .ok (.aload_n 0, 1) := by decide +kernel
theorem dX12_tellGains_63 : decode cX12_tellGains 63 = .ok (.getfield 366, 3) := by decide +kernel
theorem dX12_tellGains_66 : decode cX12_tellGains 66 = .ok (.iload_n 1, 1) := by decide +kernel
theorem dX12_tellGains_67 : decode cX12_tellGains 67 = .ok (.invokestatic 285, 3) := by decide +kernel
theorem dX12_tellGains_70 : decode cX12_tellGains 70 = .ok (.ifCond .eq 7, 3) := by decide +kernel
theorem dX12_tellGains_73 : decode cX12_tellGains 73 = .ok (.iconst 0, 1) := by decide +kernel
theorem dX12_tellGains_74 : decode cX12_tellGains 74 = .ok (.goto 4, 3) := by decide +kernel
theorem dX12_tellGains_77 : decode cX12_tellGains 77 = .ok (.iconst 1, 1) := by decide +kernel
theorem dX12_tellGains_78 : decode cX12_tellGains 78 = .ok (.iadd, 1) := by decide +kernel
theorem dX12_tellGains_79 : decode cX12_tellGains 79 = .ok (.istore 4, 2) := by decide +kernel
theorem dX12_tellGains_81 : decode cX12_tellGains 81 = .ok (.iload 5, 2) := by decide +kernel
theorem dX12_tellGains_83 : decode cX12_tellGains 83 = .ok (.aload_n 0, 1) := by decide +kernel
theorem dX12_tellGains_84 : decode cX12_tellGains 84 = .ok (.getfield 366, 3) := by decide +kernel
theorem dX12_tellGains_87 : decode cX12_tellGains 87 = .ok (.iload_n 2, 1) := by decide +kernel
theorem dX12_tellGains_88 : decode cX12_tellGains 88 = .ok (.invokestatic 285, 3) := by decide +kernel
theorem dX12_tellGains_91 : decode cX12_tellGains 91 = .ok (.ifCond .eq 7, 3) := by decide +kernel
theorem dX12_tellGains_94 : decode cX12_tellGains 94 = .ok (.iconst 0, 1) := by decide +kernel
theorem dX12_tellGains_95 : decode cX12_tellGains 95 = .ok (.goto 4, 3) := by decide +kernel
theorem dX12_tellGains_98 : decode cX12_tellGains 98 = .ok (.iconst 1, 1) := by decide +kernel
theorem dX12_tellGains_99 : decode cX12_tellGains 99 = .ok (.iadd, 1) := by decide +kernel
theorem dX12_tellGains_100 : decode cX12_tellGains 100 = .ok (.istore 5, 2) := by decide +kernel
theorem dX12_tellGains_102 : decode cX12_tellGains 102 = .ok (.iinc 6 1, 3) := by decide +kernel
theorem dX12_tellGains_105 : decode cX12_tellGains 105 = .ok (.goto (-56), 3) := by decide +kernel
theorem dX12_tellGains_108 : decode cX12_tellGains 108 = .ok (.aload_n 0, 1) := by decide +kernel
theorem dX12_tellGains_109 : decode cX12_tellGains 109 = .ok (.getfield 134, 3) := by decide +kernel
theorem dX12_tellGains_112 : decode cX12_tellGains 112 = .ok (.iconst 2, 1) := by decide +kernel
theorem dX12_tellGains_113 : decode cX12_tellGains 113 = .ok (.iload_n 3, 1) := by decide +kernel
theorem dX12_tellGains_114 : decode cX12_tellGains 114 = .ok (.imul, 1) := by decide +kernel
theorem dX12_tellGains_115 : decode cX12_tellGains 115 = .ok (.iconst 5, 1) := by decide +kernel
theorem dX12_tellGains_116 : decode cX12_tellGains 116 = .ok (.iload 4, 2) := by decide +kernel
theorem dX12_tellGains_118 : decode cX12_tellGains 118 = .ok (.imul, 1) := by decide +kernel
theorem dX12_tellGains_119 : decode cX12_tellGains 119 = .ok (.iconst 3, 1) := by decide +kernel
theorem dX12_tellGains_120 : decode cX12_tellGains 120 = .ok (.iload 5, 2) := by decide +kernel
theorem dX12_tellGains_122 : decode cX12_tellGains 122 = .ok (.imul, 1) := by decide +kernel
theorem dX12_tellGains_123 : decode cX12_tellGains 123 = .ok (.isub, 1) := by decide +kernel
theorem dX12_tellGains_124 : decode cX12_tellGains 124 = .ok (.bipush 6, 2) := by decide +kernel
theorem dX12_tellGains_126 : decode cX12_tellGains 126 = .ok (.iload_n 3, 1) := by decide +kernel
theorem dX12_tellGains_127 : decode cX12_tellGains 127 = .ok (.iconst 2, 1) := by decide +kernel
theorem dX12_tellGains_128 : decode cX12_tellGains 128 = .ok (.idiv, 1) := by decide +kernel
theorem dX12_tellGains_129 : decode cX12_tellGains 129 = .ok (.imul, 1) := by decide +kernel
theorem dX12_tellGains_130 : decode cX12_tellGains 130 = .ok (.isub, 1) := by decide +kernel
theorem dX12_tellGains_131 : decode cX12_tellGains 131 = .ok (.iastore, 1) := by decide +kernel
theorem dX12_tellGains_132 : decode cX12_tellGains 132 = .ok (.aload_n 0, 1) := by decide +kernel
theorem dX12_tellGains_133 : decode cX12_tellGains 133 = .ok (.getfield 134, 3) := by decide +kernel
theorem dX12_tellGains_136 : decode cX12_tellGains 136 = .ok (.iconst 2, 1) := by decide +kernel
theorem dX12_tellGains_137 : decode cX12_tellGains 137 = .ok (.iload_n 3, 1) := by decide +kernel
theorem dX12_tellGains_138 : decode cX12_tellGains 138 = .ok (.imul, 1) := by decide +kernel
theorem dX12_tellGains_139 : decode cX12_tellGains 139 = .ok (.iconst 1, 1) := by decide +kernel
theorem dX12_tellGains_140 : decode cX12_tellGains 140 = .ok (.iadd, 1) := by decide +kernel
theorem dX12_tellGains_141 : decode cX12_tellGains 141 = .ok (.iconst 5, 1) := by decide +kernel
theorem dX12_tellGains_142 : decode cX12_tellGains 142 = .ok (.iload 5, 2) := by decide +kernel
theorem dX12_tellGains_144 : decode cX12_tellGains 144 = .ok (.imul, 1) := by decide +kernel
theorem dX12_tellGains_145 : decode cX12_tellGains 145 = .ok (.iconst 3, 1) := by decide +kernel
theorem dX12_tellGains_146 : decode cX12_tellGains 146 = .ok (.iload 4, 2) := by decide +kernel
theorem dX12_tellGains_148 : decode cX12_tellGains 148 = .ok (.imul, 1) := by decide +kernel
theorem dX12_tellGains_149 : decode cX12_tellGains 149 = .ok (.isub, 1) := by decide +kernel
theorem dX12_tellGains_150 : decode cX12_tellGains 150 = .ok (.bipush 6, 2) := by decide +kernel
theorem dX12_tellGains_152 : decode cX12_tellGains 152 = .ok (.iload_n 3, 1) := by decide +kernel
theorem dX12_tellGains_153 : decode cX12_tellGains 153 = .ok (.iconst 2, 1) := by decide +kernel
theorem dX12_tellGains_154 : decode cX12_tellGains 154 = .ok (.irem, 1) := by decide +kernel
theorem dX12_tellGains_155 : decode cX12_tellGains 155 = .ok (.imul, 1) := by decide +kernel
theorem dX12_tellGains_156 : decode cX12_tellGains 156 = .ok (.isub, 1) := by decide +kernel
theorem dX12_tellGains_157 : decode cX12_tellGains 157 = .ok (.iastore, 1) := by decide +kernel
theorem dX12_tellGains_158 : decode cX12_tellGains 158 = .ok (.aload_n 0, 1) := by decide +kernel
theorem dX12_tellGains_159 : decode cX12_tellGains 159 = .ok (.aload_n 0, 1) := by decide +kernel
theorem dX12_tellGains_160 : decode cX12_tellGains 160 = .ok (.getfield 110, 3) := by decide +kernel
theorem dX12_tellGains_163 : decode cX12_tellGains 163 = .ok (.iconst 0, 1) := by decide +kernel
theorem dX12_tellGains_164 : decode cX12_tellGains 164 = .ok (.invokevirtual 392, 3) := by decide +kernel
theorem dX12_tellGains_167 : decode cX12_tellGains 167 = .ok (.iinc 3 1, 3) := by decide +kernel
theorem dX12_tellGains_170 : decode cX12_tellGains 170 = .ok (.goto (-159), 3) := by decide +kernel
theorem dX12_tellGains_173 : decode cX12_tellGains 173 = .ok (.return_, 1) := by decide +kernel
theorem dX12_game_0 : decode cX12_game 0 = .ok (.aload_n 0, 1) := by decide +kernel
theorem dX12_game_1 : decode cX12_game 1 = .ok (.iconst 0, 1) := by decide +kernel
theorem dX12_game_2 : decode cX12_game 2 = .ok (.putfield 155, 3) := by decide +kernel
theorem dX12_game_5 : decode cX12_game 5 = .ok (.aload_n 0, 1) := by decide +kernel
theorem dX12_game_6 : decode cX12_game 6 = .ok (.iload_n 1, 1) := by decide +kernel
theorem dX12_game_7 : decode cX12_game 7 = .ok (.invokevirtual 401, 3) := by decide +kernel
theorem dX12_game_10 : decode cX12_game 10 = .ok (.ifCond .eq 20, 3) := by decide +kernel
theorem dX12_game_13 : decode cX12_game 13 = .ok (.aload_n 0, 1) := by decide +kernel
theorem dX12_game_14 : decode cX12_game 14 = .ok (.iload_n 2, 1) := by decide +kernel
theorem dX12_game_15 : decode cX12_game 15 = .ok (.invokevirtual 401, 3) := by decide +kernel
theorem dX12_game_18 : decode cX12_game 18 = .ok (.ifCond .eq 12, 3) := by decide +kernel
theorem dX12_game_21 : decode cX12_game 21 = .ok (.iload_n 3, 1) := by decide +kernel
theorem dX12_game_22 : decode cX12_game 22 = .ok (.ifCond .lt 8, 3) := by decide +kernel
theorem dX12_game_25 : decode cX12_game 25 = .ok (.iload_n 3, 1) := by decide +kernel
theorem dX12_game_26 : decode cX12_game 26 = .ok (.iconst 1, 1) := by decide +kernel
theorem dX12_game_27 : decode cX12_game 27 = .ok (.if_icmp .le 9, 3) := by decide +kernel
theorem dX12_game_30 : decode cX12_game 30 = .ok (.aload_n 0, 1) := by decide +kernel
theorem dX12_game_31 : decode cX12_game 31 = .ok (.iconst 1, 1) := by decide +kernel
theorem dX12_game_32 : decode cX12_game 32 = .ok (.invokevirtual 308, 3) := by decide +kernel
theorem dX12_game_35 : decode cX12_game 35 = .ok (.ireturn, 1) := by decide +kernel
theorem dX12_game_36 : decode cX12_game 36 = .ok (.iload_n 1, 1) := by decide +kernel
theorem dX12_game_37 : decode cX12_game 37 = .ok (.iload_n 2, 1) := by decide +kernel
theorem dX12_game_38 : decode cX12_game 38 = .ok (.if_icmp .ne 9, 3) := by decide +kernel
theorem dX12_game_41 : decode cX12_game 41 = .ok (.aload_n 0, 1) := by decide +kernel
theorem dX12_game_42 : decode cX12_game 42 = .ok (.iconst 2, 1) := by decide +kernel
theorem dX12_game_43 : decode cX12_game 43 = .ok (.invokevirtual 308, 3) := by decide +kernel
theorem dX12_game_46 : decode cX12_game 46 = .ok (.ireturn, 1) := by decide +kernel
theorem dX12_game_47 : decode cX12_game 47 = .ok (.aload_n 0, 1) := by decide +kernel
theorem dX12_game_48 : decode cX12_game 48 = .ok (.iload_n 1, 1) := by decide +kernel
theorem dX12_game_49 : decode cX12_game 49 = .ok (.invokevirtual 422, 3) := by decide +kernel
theorem dX12_game_52 : decode cX12_game 52 = .ok (.istore 4, 2) := by decide +kernel
theorem dX12_game_54 : decode cX12_game 54 = .ok (.aload_n 0, 1) := by decide +kernel
theorem dX12_game_55 : decode cX12_game 55 = .ok (.iload_n 2, 1) := by decide +kernel
theorem dX12_game_56 : decode cX12_game 56 = .ok (.invokevirtual 422, 3) := by decide +kernel
theorem dX12_game_59 : decode cX12_game 59 = .ok (.istore 5, 2) := by decide +kernel
theorem dX12_game_61 : decode cX12_game 61 = .ok (.aload_n 0, 1) := by decide +kernel
theorem dX12_game_62 : decode cX12_game 62 = .ok (.iload_n 1, 1) := by decide +kernel
theorem dX12_game_63 : decode cX12_game 63 = .ok (.iload_n 2, 1) := by decide +kernel
theorem dX12_game_64 : decode cX12_game 64 = .ok (.invokevirtual 473, 3) := by decide +kernel
theorem dX12_game_67 : decode cX12_game 67 = .ok (.iconst 0, 1) := by decide +kernel
theorem dX12_game_68 : decode cX12_game 68 = .ok (.istore 6, 2) := by decide +kernel
theorem dX12_game_70 : decode cX12_game 70 = .ok (.iconst (-1), 1) := by decide +kernel
theorem dX12_game_71 : decode cX12_game 71 = .ok (.istore 7, 2) := by decide +kernel
theorem dX12_game_73 : decode cX12_game 73 = .ok (.iconst 0, 1) := by decide +kernel
theorem dX12_game_74 : decode cX12_game 74 = .ok (.istore 8, 2) := by decide +kernel
theorem dX12_game_76 : decode cX12_game 76 = .ok (.iload 8, 2) := by decide +kernel
theorem dX12_game_78 : decode cX12_game 78 = .ok (.iconst 4, 1) := by decide +kernel
theorem dX12_game_79 : decode cX12_game 79 = .ok (.if_icmp .ge 129, 3) := by decide +kernel
theorem dX12_game_82 : decode cX12_game 82 = .ok (.iload 8, 2) := by decide +kernel
theorem dX12_game_84 : decode cX12_game 84 = .ok (.iconst 2, 1) := by decide +kernel
theorem dX12_game_85 : decode cX12_game 85 = .ok (.idiv, 1) := by decide +kernel
theorem dX12_game_86 : decode cX12_game 86 = .ok (.iconst 1, 1) := by decide +kernel
theorem dX12_game_87 : decode cX12_game 87 = .ok (.if_icmp .ne 8, 3) := by decide +kernel
theorem dX12_game_90 : decode cX12_game 90 = .ok (.iload 4, 2) := by decide +kernel
theorem dX12_game_92 : decode cX12_game 92 = .ok (.ifCond .eq 110, 3) := by decide +kernel
theorem dX12_game_95 : decode cX12_game 95 = .ok (.iload 8, 2) := by decide +kernel
theorem dX12_game_97 : decode cX12_game 97 = .ok (.iconst 2, 1) := by decide +kernel
theorem dX12_game_98 : decode cX12_game 98 = .ok (.irem, 1) := by decide +kernel
theorem dX12_game_99 : decode cX12_game 99 = .ok (.iconst 1, 1) := by decide +kernel
theorem dX12_game_100 : decode cX12_game 100 = .ok (.if_icmp .ne 11, 3) := by decide +kernel
theorem dX12_game_103 : decode cX12_game 103 = .ok (.iload 5, 2) := by decide +kernel
theorem dX12_game_105 : decode cX12_game 105 = .ok (.ifCond .ne 6, 3) := by decide +kernel
theorem dX12_game_108 : decode cX12_game 108 = .ok (.goto 94, 3) := by decide +kernel
theorem dX12_game_111 : decode cX12_game 111 = .ok (.iload 4, 2) := by decide +kernel
theorem dX12_game_113 : decode cX12_game 113 = .ok (.ifCond .eq 26, 3) := by decide +kernel
theorem dX12_game_116 : decode cX12_game 116 = .ok (.aload_n 0, 1) := by decide +kernel
theorem dX12_game_117 : decode cX12_game 117 = .ok (.getfield 134, 3) := by decide +kernel
theorem dX12_game_120 : decode cX12_game 120 = .ok (.iconst 2, 1) := by decide +kernel
theorem dX12_game_121 : decode cX12_game 121 = .ok (.iload 8, 2) := by decide +kernel
theorem dX12_game_123 : decode cX12_game 123 = .ok (.iconst 2, 1) := by decide +kernel
theorem dX12_game_124 : decode cX12_game 124 = .ok (.ixor, 1) := by decide +kernel
theorem dX12_game_125 : decode cX12_game 125 = .ok (.imul, 1) := by decide +kernel
theorem dX12_game_126 : decode cX12_game 126 = .ok (.iaload, 1) := by decide +kernel
theorem dX12_game_127 : decode cX12_game 127 = .ok (.aload_n 0, 1) := by decide +kernel
theorem dX12_game_128 : decode cX12_game 128 = .ok (.getfield 134, 3) := by decide +kernel
theorem dX12_game_131 : decode cX12_game 131 = .ok (.iconst 2, 1) := by decide +kernel
theorem dX12_game_132 : decode cX12_game 132 = .ok (.iload 8, 2) := by decide +kernel
theorem dX12_game_134 : decode cX12_game 134 = .ok (.imul, 1) := by decide +kernel
theorem dX12_game_135 : decode cX12_game 135 = .ok (.iaload, 1) := by decide +kernel
theorem dX12_game_136 : decode cX12_game 136 = .ok (.if_icmp .gt 66, 3) := by decide +kernel
theorem dX12_game_139 : decode cX12_game 139 = .ok (.iload 5, 2) := by decide +kernel
theorem dX12_game_141 : decode cX12_game 141 = .ok (.ifCond .eq 33, 3) := by decide +kernel
theorem dX12_game_144 : decode cX12_game 144 = .ok (.aload_n 0, 1) := by decide +kernel
theorem dX12_game_145 : decode cX12_game 145 = .ok (.getfield 134, 3) := by decide +kernel
theorem dX12_game_148 : decode cX12_game 148 = .ok (.iconst 2, 1) := by decide +kernel
theorem dX12_game_149 : decode cX12_game 149 = .ok (.iload 8, 2) := by decide +kernel
theorem dX12_game_151 : decode cX12_game 151 = .ok (.iconst 1, 1) := by decide +kernel
theorem dX12_game_152 : decode cX12_game 152 = .ok (.ixor, 1) := by decide +kernel
theorem dX12_game_153 : decode cX12_game 153 = .ok (.imul, 1) := by decide +kernel
theorem dX12_game_154 : decode cX12_game 154 = .ok (.iconst 1, 1) := by decide +kernel
theorem dX12_game_155 : decode cX12_game 155 = .ok (.iadd, 1) := by decide +kernel
theorem dX12_game_156 : decode cX12_game 156 = .ok (.iaload, 1) := by decide +kernel
theorem dX12_game_157 : decode cX12_game 157 = .ok (.aload_n 0, 1) := by decide +kernel
theorem dX12_game_158 : decode cX12_game 158 = .ok (.getfield 134, 3) := by decide +kernel
theorem dX12_game_161 : decode cX12_game 161 = .ok (.iconst 2, 1) := by decide +kernel
theorem dX12_game_162 : decode cX12_game 162 = .ok (.iload 8, 2) := by decide +kernel
theorem dX12_game_164 : decode cX12_game 164 = .ok (.imul, 1) := by decide +kernel
theorem dX12_game_165 : decode cX12_game 165 = .ok (.iconst 1, 1) := by decide +kernel
theorem dX12_game_166 : decode cX12_game 166 = .ok (.iadd, 1) := by decide +kernel
theorem dX12_game_167 : decode cX12_game 167 = .ok (.iaload, 1) := by decide +kernel
theorem dX12_game_168 : decode cX12_game 168 = .ok (.if_icmp .le 6, 3) := by decide +kernel
theorem dX12_game_171 : decode cX12_game 171 = .ok (.goto 31, 3) := by decide +kernel
theorem dX12_game_174 : decode cX12_game 174 = .ok (.iinc 6 1, 3) := by decide +kernel
theorem dX12_game_177 : decode cX12_game 177 = .ok (.iload 7, 2) := by decide +kernel
theorem dX12_game_179 : decode cX12_game 179 = .ok (.iconst (-1), 1) := by decide +kernel
theorem dX12_game_180 : decode cX12_game 180 = .ok (.if_icmp .ne 18, 3) := by decide +kernel
theorem dX12_game_183 : decode cX12_game 183 = .ok (.bipush 10, 2) := by decide +kernel
theorem dX12_game_185 : decode cX12_game 185 = .ok (.iload 8, 2) := by decide +kernel
theorem dX12_game_187 : decode cX12_game 187 = .ok (.iconst 2, 1) := by decide +kernel
theorem dX12_game_188 : decode cX12_game 188 = .ok (.idiv, 1) := by decide +kernel
theorem dX12_game_189 : decode cX12_game 189 = .ok (.imul, 1) := by decide +kernel
theorem dX12_game_190 : decode cX12_game 190 = .ok (.iload 8, 2) := by decide +kernel
theorem dX12_game_192 : decode cX12_game 192 = .ok (.iconst 2, 1) := by decide +kernel
theorem dX12_game_193 : decode cX12_game 193 = .ok (.irem, 1) := by decide +kernel
theorem dX12_game_194 : decode cX12_game 194 = .ok (.iadd, 1) := by decide +kernel
theorem dX12_game_195 : decode cX12_game 195 = .ok (.goto 5, 3) := by decide +kernel
theorem dX12_game_198 : decode cX12_game 198 = .ok (.iload 7, 2) := by decide +kernel
theorem dX12_game_200 : decode cX12_game 200 = .ok (.istore 7, 2) := by decide +kernel
theorem dX12_game_202 : decode cX12_game 202 = .ok (.iinc 8 1, 3) := by decide +kernel
theorem dX12_game_205 : decode cX12_game 205 = .ok (.goto (-129), 3) := by decide +kernel
theorem dX12_game_208 : decode cX12_game 208 = .ok (.iload_n 3, 1) := by decide +kernel
theorem dX12_game_209 : decode cX12_game 209 = .ok (.ifCond .ne 8, 3) := by decide +kernel
theorem dX12_game_212 : decode cX12_game 212 = .ok (.iload 6, 2) := by decide +kernel
theorem dX12_game_214 : decode cX12_game 214 = .ok (.goto 5, 3) := by decide +kernel
theorem dX12_game_217 : decode cX12_game 217 = .ok (.iload 7, 2) := by decide +kernel
theorem dX12_game_219 : decode cX12_game 219 = .ok (.ireturn, 1) := by decide +kernel
theorem dX12_drawOf_0 : decode cX12_drawOf 0 = .ok (.aload_n 0, 1) := by decide +kernel
theorem dX12_drawOf_1 : decode cX12_drawOf 1 = .ok (.aload_n 0, 1) := by decide +kernel
theorem dX12_drawOf_2 : decode cX12_drawOf 2 = .ok (.getfield 477, 3) := by decide +kernel
theorem dX12_drawOf_5 : decode cX12_drawOf 5 = .ok (.ldc_w 480, 3) := by decide +kernel
theorem dX12_drawOf_8 : decode cX12_drawOf 8 = .ok (.imul, 1) := by decide +kernel
theorem dX12_drawOf_9 : decode cX12_drawOf 9 = .ok (.sipush 12345, 3) := by decide +kernel
theorem dX12_drawOf_12 : decode cX12_drawOf 12 = .ok (.iadd, 1) := by decide +kernel
theorem dX12_drawOf_13 : decode cX12_drawOf 13 = .ok (.putfield 477, 3) := by decide +kernel
theorem dX12_drawOf_16 : decode cX12_drawOf 16 = .ok (.aload_n 0, 1) := by decide +kernel
theorem dX12_drawOf_17 : decode cX12_drawOf 17 = .ok (.getfield 477, 3) := by decide +kernel
theorem dX12_drawOf_20 : decode cX12_drawOf 20 = .ok (.bipush 16, 2) := by decide +kernel
theorem dX12_drawOf_22 : decode cX12_drawOf 22 = .ok (.ishr, 1) := by decide +kernel
theorem dX12_drawOf_23 : decode cX12_drawOf 23 = .ok (.sipush 32767, 3) := by decide +kernel
theorem dX12_drawOf_26 : decode cX12_drawOf 26 = .ok (.iand, 1) := by decide +kernel
theorem dX12_drawOf_27 : decode cX12_drawOf 27 = .ok (.iload_n 1, 1) := by decide +kernel
theorem dX12_drawOf_28 : decode cX12_drawOf 28 = .ok (.irem, 1) := by decide +kernel
theorem dX12_drawOf_29 : decode cX12_drawOf 29 = .ok (.ireturn, 1) := by decide +kernel
theorem dX12_something_0 : decode cX12_something 0 = .ok (.aload_n 0, 1) := by decide +kernel
theorem dX12_something_1 : decode cX12_something 1 = .ok (.bipush 7, 2) := by decide +kernel
theorem dX12_something_3 : decode cX12_something 3 = .ok (.invokevirtual 481, 3) := by decide +kernel
theorem dX12_something_6 : decode cX12_something 6 = .ok (.istore_n 1, 1) := by decide +kernel
theorem dX12_something_7 : decode cX12_something 7 = .ok (.aload_n 0, 1) := by decide +kernel
theorem dX12_something_8 : decode cX12_something 8 = .ok (.getfield 42, 3) := by decide +kernel
theorem dX12_something_11 : decode cX12_something 11 = .ok (.iconst 0, 1) := by decide +kernel
theorem dX12_something_12 : decode cX12_something 12 = .ok (.iaload, 1) := by decide +kernel
theorem dX12_something_13 : decode cX12_something 13 = .ok (.ifCond .le 16, 3) := by decide +kernel
theorem dX12_something_16 : decode cX12_something 16 = .ok (.aload_n 0, 1) := by decide +kernel
theorem dX12_something_17 : decode cX12_something 17 = .ok (.getfield 42, 3) := by decide +kernel
theorem dX12_something_20 : decode cX12_something 20 = .ok (.iconst 1, 1) := by decide +kernel
theorem dX12_something_21 : decode cX12_something 21 = .ok (.iaload, 1) := by decide +kernel
theorem dX12_something_22 : decode cX12_something 22 = .ok (.ifCond .le 7, 3) := by decide +kernel
theorem dX12_something_25 : decode cX12_something 25 = .ok (.iconst 1, 1) := by decide +kernel
theorem dX12_something_26 : decode cX12_something 26 = .ok (.goto 4, 3) := by decide +kernel
theorem dX12_something_29 : decode cX12_something 29 = .ok (.iconst 0, 1) := by decide +kernel
theorem dX12_something_30 : decode cX12_something 30 = .ok (.istore_n 2, 1) := by decide +kernel
theorem dX12_something_31 : decode cX12_something 31 = .ok (.iload_n 1, 1) := by decide +kernel
theorem dX12_something_32 : decode cX12_something 32 = .ok (.ifCond .ne 48, 3) := by decide +kernel
theorem dX12_something_35 : decode cX12_something 35 = .ok (.iload_n 2, 1) := by decide +kernel
theorem dX12_something_36 : decode cX12_something 36 = .ok (.ifCond .eq 44, 3) := by decide +kernel
theorem dX12_something_39 : decode cX12_something 39 = .ok (.aload_n 0, 1) := by decide +kernel
theorem dX12_something_40 : decode cX12_something 40 = .ok (.aload_n 0, 1) := by decide +kernel
theorem dX12_something_41 : decode cX12_something 41 = .ok (.getfield 42, 3) := by decide +kernel
theorem dX12_something_44 : decode cX12_something 44 = .ok (.iconst 1, 1) := by decide +kernel
theorem dX12_something_45 : decode cX12_something 45 = .ok (.iaload, 1) := by decide +kernel
theorem dX12_something_46 : decode cX12_something 46 = .ok (.invokevirtual 481, 3) := by decide +kernel
theorem dX12_something_49 : decode cX12_something 49 = .ok (.istore_n 3, 1) := by decide +kernel
theorem dX12_something_50 : decode cX12_something 50 = .ok (.aload_n 0, 1) := by decide +kernel
theorem dX12_something_51 : decode cX12_something 51 = .ok (.aload_n 0, 1) := by decide +kernel
theorem dX12_something_52 : decode cX12_something 52 = .ok (.getfield 42, 3) := by decide +kernel
theorem dX12_something_55 : decode cX12_something 55 = .ok (.iconst 0, 1) := by decide +kernel
theorem dX12_something_56 : decode cX12_something 56 = .ok (.iaload, 1) := by decide +kernel
theorem dX12_something_57 : decode cX12_something 57 = .ok (.invokevirtual 481, 3) := by decide +kernel
theorem dX12_something_60 : decode cX12_something 60 = .ok (.istore 4, 2) := by decide +kernel
theorem dX12_something_62 : decode cX12_something 62 = .ok (.aload_n 0, 1) := by decide +kernel
theorem dX12_something_63 : decode cX12_something 63 = .ok (.iload 4, 2) := by decide +kernel
theorem dX12_something_65 : decode cX12_something 65 = .ok (.invokevirtual 369, 3) := by decide +kernel
theorem dX12_something_68 : decode cX12_something 68 = .ok (.iconst (-1), 1) := by decide +kernel
theorem dX12_something_69 : decode cX12_something 69 = .ok (.if_icmp .ne 11, 3) := by decide +kernel
theorem dX12_something_72 : decode cX12_something 72 = .ok (.aload_n 0, 1) := by decide +kernel
theorem dX12_something_73 : decode cX12_something 73 = .ok (.getfield 95, 3) := by decide +kernel
theorem dX12_something_76 : decode cX12_something 76 = .ok (.iload_n 3, 1) := by decide +kernel
theorem dX12_something_77 : decode cX12_something 77 = .ok (.iload 4, 2) := by decide +kernel
theorem dX12_something_79 : decode cX12_something 79 = .ok (.iastore, 1) := by decide +kernel
theorem dX12_something_80 : decode cX12_something 80 = .ok (.iload_n 1, 1) := by decide +kernel
theorem dX12_something_81 : decode cX12_something 81 = .ok (.iconst 1, 1) := by decide +kernel
theorem dX12_something_82 : decode cX12_something 82 = .ok (.if_icmp .ne 28, 3) := by decide +kernel
theorem dX12_something_85 : decode cX12_something 85 = .ok (.iload_n 2, 1) := by decide +kernel
theorem dX12_something_86 : decode cX12_something 86 = .ok (.ifCond .eq 24, 3) := by decide +kernel
theorem dX12_something_89 : decode cX12_something 89 = .ok (.aload_n 0, 1) := by decide +kernel
theorem dX12_something_90 : decode cX12_something 90 = .ok (.dup, 1) := by decide +kernel
theorem dX12_something_91 : decode cX12_something 91 = .ok (.getfield 324, 3) := by decide +kernel
theorem dX12_something_94 : decode cX12_something 94 = .ok (.iconst 1, 1) := by decide +kernel
theorem dX12_something_95 : decode cX12_something 95 = .ok (.aload_n 0, 1) := by decide +kernel
theorem dX12_something_96 : decode cX12_something 96 = .ok (.aload_n 0, 1) := by decide +kernel
theorem dX12_something_97 : decode cX12_something 97 = .ok (.getfield 42, 3) := by decide +kernel
theorem dX12_something_100 : decode cX12_something 100 = .ok (.iconst 0, 1) := by decide +kernel
theorem dX12_something_101 : decode cX12_something 101 = .ok (.iaload, 1) := by decide +kernel
theorem dX12_something_102 : decode cX12_something 102 = .ok (.invokevirtual 481, 3) := by decide +kernel
theorem dX12_something_105 : decode cX12_something 105 = .ok (.ishl, 1) := by decide +kernel
theorem dX12_something_106 : decode cX12_something 106 = .ok (.ixor, 1) := by decide +kernel
theorem dX12_something_107 : decode cX12_something 107 = .ok (.putfield 324, 3) := by decide +kernel
theorem dX12_something_110 : decode cX12_something 110 = .ok (.iload_n 1, 1) := by decide +kernel
theorem dX12_something_111 : decode cX12_something 111 = .ok (.iconst 2, 1) := by decide +kernel
theorem dX12_something_112 : decode cX12_something 112 = .ok (.if_icmp .ne 39, 3) := by decide +kernel
theorem dX12_something_115 : decode cX12_something 115 = .ok (.iload_n 2, 1) := by decide +kernel
theorem dX12_something_116 : decode cX12_something 116 = .ok (.ifCond .eq 35, 3) := by decide +kernel
theorem dX12_something_119 : decode cX12_something 119 = .ok (.aload_n 0, 1) := by decide +kernel
theorem dX12_something_120 : decode cX12_something 120 = .ok (.aload_n 0, 1) := by decide +kernel
theorem dX12_something_121 : decode cX12_something 121 = .ok (.getfield 42, 3) := by decide +kernel
theorem dX12_something_124 : decode cX12_something 124 = .ok (.iconst 1, 1) := by decide +kernel
theorem dX12_something_125 : decode cX12_something 125 = .ok (.iaload, 1) := by decide +kernel
theorem dX12_something_126 : decode cX12_something 126 = .ok (.invokevirtual 481, 3) := by decide +kernel
theorem dX12_something_129 : decode cX12_something 129 = .ok (.istore_n 3, 1) := by decide +kernel
theorem dX12_something_130 : decode cX12_something 130 = .ok (.aload_n 0, 1) := by decide +kernel
theorem dX12_something_131 : decode cX12_something 131 = .ok (.getfield 90, 3) := by decide +kernel
theorem dX12_something_134 : decode cX12_something 134 = .ok (.iload_n 3, 1) := by decide +kernel
theorem dX12_something_135 : decode cX12_something 135 = .ok (.sipush 999, 3) := by decide +kernel
theorem dX12_something_138 : decode cX12_something 138 = .ok (.aload_n 0, 1) := by decide +kernel
theorem dX12_something_139 : decode cX12_something 139 = .ok (.getfield 90, 3) := by decide +kernel
theorem dX12_something_142 : decode cX12_something 142 = .ok (.iload_n 3, 1) := by decide +kernel
theorem dX12_something_143 : decode cX12_something 143 = .ok (.iaload, 1) := by decide +kernel
theorem dX12_something_144 : decode cX12_something 144 = .ok (.bipush 20, 2) := by decide +kernel
theorem dX12_something_146 : decode cX12_something 146 = .ok (.iadd, 1) := by decide +kernel
theorem dX12_something_147 : decode cX12_something 147 = .ok (.invokestatic 192, 3) := by decide +kernel
theorem dX12_something_150 : decode cX12_something 150 = .ok (.iastore, 1) := by decide +kernel
theorem dX12_something_151 : decode cX12_something 151 = .ok (.aload_n 0, 1) := by decide +kernel
theorem dX12_something_152 : decode cX12_something 152 = .ok (.aload_n 0, 1) := by decide +kernel
theorem dX12_something_153 : decode cX12_something 153 = .ok (.iconst 4, 1) := by decide +kernel
theorem dX12_something_154 : decode cX12_something 154 = .ok (.invokevirtual 481, 3) := by decide +kernel
theorem dX12_something_157 : decode cX12_something 157 = .ok (.putfield 101, 3) := by decide +kernel
theorem dX12_something_160 : decode cX12_something 160 = .ok (.return_, 1) := by decide +kernel
theorem dX12_years_0 : decode cX12_years 0 = .ok (.aload_n 0, 1) := by decide +kernel
theorem dX12_years_1 : decode cX12_years 1 = .ok (.iconst 0, 1) := by decide +kernel
theorem dX12_years_2 : decode cX12_years 2 = .ok (.putfield 155, 3) := by decide +kernel
theorem dX12_years_5 : decode cX12_years 5 = .ok (.iload_n 3, 1) := by decide +kernel
theorem dX12_years_6 : decode cX12_years 6 = .ok (.i2l, 1) := by decide +kernel
theorem dX12_years_7 : decode cX12_years 7 = .ok (.lconst 0, 1) := by decide +kernel
theorem dX12_years_8 : decode cX12_years 8 = .ok (.ldc2_w 461, 3) := by decide +kernel
theorem dX12_years_11 : decode cX12_years 11 = .ok (.invokestatic 158, 3) := by decide +kernel
theorem dX12_years_14 : decode cX12_years 14 = .ok (.ifCond .ne 9, 3) := by decide +kernel
theorem dX12_years_17 : decode cX12_years 17 = .ok (.aload_n 0, 1) := by decide +kernel
theorem dX12_years_18 : decode cX12_years 18 = .ok (.iconst 1, 1) := by decide +kernel
theorem dX12_years_19 : decode cX12_years 19 = .ok (.invokevirtual 308, 3) := by decide +kernel
theorem dX12_years_22 : decode cX12_years 22 = .ok (.ireturn, 1) := by decide +kernel
theorem dX12_years_23 : decode cX12_years 23 = .ok (.iload_n 2, 1) := by decide +kernel
theorem dX12_years_24 : decode cX12_years 24 = .ok (.i2l, 1) := by decide +kernel
theorem dX12_years_25 : decode cX12_years 25 = .ok (.lconst 0, 1) := by decide +kernel
theorem dX12_years_26 : decode cX12_years 26 = .ok (.ldc2_w 432, 3) := by decide +kernel
theorem dX12_years_29 : decode cX12_years 29 = .ok (.invokestatic 158, 3) := by decide +kernel
theorem dX12_years_32 : decode cX12_years 32 = .ok (.ifCond .ne 9, 3) := by decide +kernel
theorem dX12_years_35 : decode cX12_years 35 = .ok (.aload_n 0, 1) := by decide +kernel
theorem dX12_years_36 : decode cX12_years 36 = .ok (.iconst 2, 1) := by decide +kernel
theorem dX12_years_37 : decode cX12_years 37 = .ok (.invokevirtual 308, 3) := by decide +kernel
theorem dX12_years_40 : decode cX12_years 40 = .ok (.ireturn, 1) := by decide +kernel
theorem dX12_years_41 : decode cX12_years 41 = .ok (.aload_n 0, 1) := by decide +kernel
theorem dX12_years_42 : decode cX12_years 42 = .ok (.aload_n 0, 1) := by decide +kernel
theorem dX12_years_43 : decode cX12_years 43 = .ok (.getfield 110, 3) := by decide +kernel
theorem dX12_years_46 : decode cX12_years 46 = .ok (.iconst 0, 1) := by decide +kernel
theorem dX12_years_47 : decode cX12_years 47 = .ok (.invokevirtual 388, 3) := by decide +kernel
theorem dX12_years_50 : decode cX12_years 50 = .ok (.aload_n 0, 1) := by decide +kernel
theorem dX12_years_51 : decode cX12_years 51 = .ok (.iload_n 1, 1) := by decide +kernel
theorem dX12_years_52 : decode cX12_years 52 = .ok (.putfield 477, 3) := by decide +kernel
theorem dX12_years_55 : decode cX12_years 55 = .ok (.iconst 0, 1) := by decide +kernel
theorem dX12_years_56 : decode cX12_years 56 = .ok (.istore 4, 2) := by decide +kernel
theorem dX12_years_58 : decode cX12_years 58 = .ok (.iconst 0, 1) := by decide +kernel
theorem dX12_years_59 : decode cX12_years 59 = .ok (.istore 5, 2) := by decide +kernel
theorem dX12_years_61 : decode cX12_years 61 = .ok (.iload 5, 2) := by decide +kernel
theorem dX12_years_63 : decode cX12_years 63 = .ok (.iload_n 2, 1) := by decide +kernel
theorem dX12_years_64 : decode cX12_years 64 = .ok (.if_icmp .ge 29, 3) := by decide +kernel
theorem dX12_years_67 : decode cX12_years 67 = .ok (.aload_n 0, 1) := by decide +kernel
theorem dX12_years_68 : decode cX12_years 68 = .ok (.invokevirtual 484, 3) := by decide +kernel
theorem dX12_years_71 : decode cX12_years 71 = .ok (.aload_n 0, 1) := by decide +kernel
theorem dX12_years_72 : decode cX12_years 72 = .ok (.invokevirtual 378, 3) := by decide +kernel
theorem dX12_years_75 : decode cX12_years 75 = .ok (.iload 4, 2) := by decide +kernel
theorem dX12_years_77 : decode cX12_years 77 = .ok (.aload_n 0, 1) := by decide +kernel
theorem dX12_years_78 : decode cX12_years 78 = .ok (.getfield 366, 3) := by decide +kernel
theorem dX12_years_81 : decode cX12_years 81 = .ok (.invokestatic 437, 3) := by decide +kernel
theorem dX12_years_84 : decode cX12_years 84 = .ok (.iadd, 1) := by decide +kernel
theorem dX12_years_85 : decode cX12_years 85 = .ok (.istore 4, 2) := by decide +kernel
theorem dX12_years_87 : decode cX12_years 87 = .ok (.iinc 5 1, 3) := by decide +kernel
theorem dX12_years_90 : decode cX12_years 90 = .ok (.goto (-29), 3) := by decide +kernel
theorem dX12_years_93 : decode cX12_years 93 = .ok (.aload_n 0, 1) := by decide +kernel
theorem dX12_years_94 : decode cX12_years 94 = .ok (.iconst (-1), 1) := by decide +kernel
theorem dX12_years_95 : decode cX12_years 95 = .ok (.putfield 101, 3) := by decide +kernel
theorem dX12_years_98 : decode cX12_years 98 = .ok (.iload_n 3, 1) := by decide +kernel
theorem dX12_years_99 : decode cX12_years 99 = .ok (.ifCond .ne 8, 3) := by decide +kernel
theorem dX12_years_102 : decode cX12_years 102 = .ok (.iload 4, 2) := by decide +kernel
theorem dX12_years_104 : decode cX12_years 104 = .ok (.goto 26, 3) := by decide +kernel
theorem dX12_years_107 : decode cX12_years 107 = .ok (.iload_n 3, 1) := by decide +kernel
theorem dX12_years_108 : decode cX12_years 108 = .ok (.iconst 1, 1) := by decide +kernel
theorem dX12_years_109 : decode cX12_years 109 = .ok (.if_icmp .ne 14, 3) := by decide +kernel
theorem dX12_years_112 : decode cX12_years 112 = .ok (.aload_n 0, 1) := by decide +kernel
theorem dX12_years_113 : decode cX12_years 113 = .ok (.aload_n 0, 1) := by decide +kernel
theorem dX12_years_114 : decode cX12_years 114 = .ok (.getfield 90, 3) := by decide +kernel
theorem dX12_years_117 : decode cX12_years 117 = .ok (.invokevirtual 384, 3) := by decide +kernel
theorem dX12_years_120 : decode cX12_years 120 = .ok (.goto 10, 3) := by decide +kernel
theorem dX12_years_123 : decode cX12_years 123 = .ok (.aload_n 0, 1) := by decide +kernel
theorem dX12_years_124 : decode cX12_years 124 = .ok (.invokevirtual 381, 3) := by decide +kernel
theorem dX12_years_127 : decode cX12_years 127 = .ok (.invokestatic 437, 3) := by decide +kernel
theorem dX12_years_130 : decode cX12_years 130 = .ok (.istore 5, 2) := by decide +kernel
theorem dX12_years_132 : decode cX12_years 132 = .ok (.aload_n 0, 1) := by decide +kernel
theorem dX12_years_133 : decode cX12_years 133 = .ok (.aload_n 0, 1) := by decide +kernel
theorem dX12_years_134 : decode cX12_years 134 = .ok (.getfield 110, 3) := by decide +kernel
theorem dX12_years_137 : decode cX12_years 137 = .ok (.iconst 0, 1) := by decide +kernel
theorem dX12_years_138 : decode cX12_years 138 = .ok (.invokevirtual 392, 3) := by decide +kernel
theorem dX12_years_141 : decode cX12_years 141 = .ok (.iload 5, 2) := by decide +kernel
theorem dX12_years_143 : decode cX12_years 143 = .ok (.ireturn, 1) := by decide +kernel
theorem dX12_copyTo_0 : decode cX12_copyTo 0 = .ok (.iconst 0, 1) := by decide +kernel
theorem dX12_copyTo_1 : decode cX12_copyTo 1 = .ok (.istore_n 2, 1) := by decide +kernel
theorem dX12_copyTo_2 : decode cX12_copyTo 2 = .ok (.iload_n 2, 1) := by decide +kernel
theorem dX12_copyTo_3 : decode cX12_copyTo 3 = .ok (.aload_n 0, 1) := by decide +kernel
theorem dX12_copyTo_4 : decode cX12_copyTo 4 = .ok (.arraylength, 1) := by decide +kernel
theorem dX12_copyTo_5 : decode cX12_copyTo 5 = .ok (.if_icmp .ge 15, 3) := by decide +kernel
theorem dX12_copyTo_8 : decode cX12_copyTo 8 = .ok (.aload_n 0, 1) := by decide +kernel
theorem dX12_copyTo_9 : decode cX12_copyTo 9 = .ok (.iload_n 2, 1) := by decide +kernel
theorem dX12_copyTo_10 : decode cX12_copyTo 10 = .ok (.aload_n 1, 1) := by decide +kernel
theorem dX12_copyTo_11 : decode cX12_copyTo 11 = .ok (.iload_n 2, 1) := by decide +kernel
theorem dX12_copyTo_12 : decode cX12_copyTo 12 = .ok (.iaload, 1) := by decide +kernel
theorem dX12_copyTo_13 : decode cX12_copyTo 13 = .ok (.iastore, 1) := by decide +kernel
theorem dX12_copyTo_14 : decode cX12_copyTo 14 = .ok (.iinc 2 1, 3) := by decide +kernel
theorem dX12_copyTo_17 : decode cX12_copyTo 17 = .ok (.goto (-15), 3) := by decide +kernel
theorem dX12_copyTo_20 : decode cX12_copyTo 20 = .ok (.return_, 1) := by decide +kernel
theorem dX12_image_0 : decode cX12_image 0 = .ok (.aload_n 0, 1) := by decide +kernel
theorem dX12_image_1 : decode cX12_image 1 = .ok (.iconst 0, 1) := by decide +kernel
theorem dX12_image_2 : decode cX12_image 2 = .ok (.putfield 155, 3) := by decide +kernel
theorem dX12_image_5 : decode cX12_image 5 = .ok (.aload_n 0, 1) := by decide +kernel
theorem dX12_image_6 : decode cX12_image 6 = .ok (.iconst 1, 1) := by decide +kernel
theorem dX12_image_7 : decode cX12_image 7 = .ok (.putfield 333, 3) := by decide +kernel
theorem dX12_image_10 : decode cX12_image 10 = .ok (.aload_n 0, 1) := by decide +kernel
theorem dX12_image_11 : decode cX12_image 11 = .ok (.aload_n 0, 1) := by decide +kernel
theorem dX12_image_12 : decode cX12_image 12 = .ok (.getfield 327, 3) := by decide +kernel
theorem dX12_image_15 : decode cX12_image 15 = .ok (.putfield 487, 3) := by decide +kernel
theorem dX12_image_18 : decode cX12_image 18 = .ok (.aload_n 0, 1) := by decide +kernel
theorem dX12_image_19 : decode cX12_image 19 = .ok (.aload_n 0, 1) := by decide +kernel
theorem dX12_image_20 : decode cX12_image 20 = .ok (.getfield 330, 3) := by decide +kernel
theorem dX12_image_23 : decode cX12_image 23 = .ok (.putfield 490, 3) := by decide +kernel
theorem dX12_image_26 : decode cX12_image 26 = .ok (.aload_n 0, 1) := by decide +kernel
theorem dX12_image_27 : decode cX12_image 27 = .ok (.aload_n 0, 1) := by decide +kernel
theorem dX12_image_28 : decode cX12_image 28 = .ok (.getfield 137, 3) := by decide +kernel
theorem dX12_image_31 : decode cX12_image 31 = .ok (.iconst 0, 1) := by decide +kernel
theorem dX12_image_32 : decode cX12_image 32 = .ok (.invokevirtual 388, 3) := by decide +kernel
theorem dX12_image_35 : decode cX12_image 35 = .ok (.aload_n 0, 1) := by decide +kernel
theorem dX12_image_36 : decode cX12_image 36 = .ok (.getfield 140, 3) := by decide +kernel
theorem dX12_image_39 : decode cX12_image 39 = .ok (.aload_n 0, 1) := by decide +kernel
theorem dX12_image_40 : decode cX12_image 40 = .ok (.getfield 98, 3) := by decide +kernel
theorem dX12_image_43 : decode cX12_image 43 = .ok (.invokestatic 493, 3) := by decide +kernel
theorem dX12_image_46 : decode cX12_image 46 = .ok (.aload_n 0, 1) := by decide +kernel
theorem dX12_image_47 : decode cX12_image 47 = .ok (.getfield 143, 3) := by decide +kernel
theorem dX12_image_50 : decode cX12_image 50 = .ok (.aload_n 0, 1) := by decide +kernel
theorem dX12_image_51 : decode cX12_image 51 = .ok (.getfield 116, 3) := by decide +kernel
theorem dX12_image_54 : decode cX12_image 54 = .ok (.invokestatic 493, 3) := by decide +kernel
theorem dX12_image_57 : decode cX12_image 57 = .ok (.aload_n 0, 1) := by decide +kernel
theorem dX12_image_58 : decode cX12_image 58 = .ok (.getfield 146, 3) := by decide +kernel
theorem dX12_image_61 : decode cX12_image 61 = .ok (.aload_n 0, 1) := by decide +kernel
theorem dX12_image_62 : decode cX12_image 62 = .ok (.getfield 119, 3) := by decide +kernel
theorem dX12_image_65 : decode cX12_image 65 = .ok (.invokestatic 493, 3) := by decide +kernel
theorem dX12_image_68 : decode cX12_image 68 = .ok (.aload_n 0, 1) := by decide +kernel
theorem dX12_image_69 : decode cX12_image 69 = .ok (.getfield 149, 3) := by decide +kernel
theorem dX12_image_72 : decode cX12_image 72 = .ok (.aload_n 0, 1) := by decide +kernel
theorem dX12_image_73 : decode cX12_image 73 = .ok (.getfield 122, 3) := by decide +kernel
theorem dX12_image_76 : decode cX12_image 76 = .ok (.invokestatic 493, 3) := by decide +kernel
theorem dX12_image_79 : decode cX12_image 79 = .ok (.aload_n 0, 1) := by decide +kernel
theorem dX12_image_80 : decode cX12_image 80 = .ok (.getfield 152, 3) := by decide +kernel
theorem dX12_image_83 : decode cX12_image 83 = .ok (.aload_n 0, 1) := by decide +kernel
theorem dX12_image_84 : decode cX12_image 84 = .ok (.getfield 76, 3) := by decide +kernel
theorem dX12_image_87 : decode cX12_image 87 = .ok (.invokestatic 493, 3) := by decide +kernel
theorem dX12_image_90 : decode cX12_image 90 = .ok (.return_, 1) := by decide +kernel
theorem dX12_restore_0 : decode cX12_restore 0 = .ok (.aload_n 0, 1) := by decide +kernel
theorem dX12_restore_1 : decode cX12_restore 1 = .ok (.iconst 0, 1) := by decide +kernel
theorem dX12_restore_2 : decode cX12_restore 2 = .ok (.putfield 155, 3) := by decide +kernel
theorem dX12_restore_5 : decode cX12_restore 5 = .ok (.aload_n 0, 1) := by decide +kernel
theorem dX12_restore_6 : decode cX12_restore 6 = .ok (.getfield 333, 3) := by decide +kernel
theorem dX12_restore_9 : decode cX12_restore 9 = .ok (.ifCond .ne 5, 3) := by decide +kernel
theorem dX12_restore_12 : decode cX12_restore 12 = .ok (.iconst 0, 1) := by decide +kernel
theorem dX12_restore_13 : decode cX12_restore 13 = .ok (.ireturn, 1) := by decide +kernel
theorem dX12_restore_14 : decode cX12_restore 14 = .ok (.aload_n 0, 1) := by decide +kernel
theorem dX12_restore_15 : decode cX12_restore 15 = .ok (.aload_n 0, 1) := by decide +kernel
theorem dX12_restore_16 : decode cX12_restore 16 = .ok (.getfield 487, 3) := by decide +kernel
theorem dX12_restore_19 : decode cX12_restore 19 = .ok (.putfield 327, 3) := by decide +kernel
theorem dX12_restore_22 : decode cX12_restore 22 = .ok (.aload_n 0, 1) := by decide +kernel
theorem dX12_restore_23 : decode cX12_restore 23 = .ok (.aload_n 0, 1) := by decide +kernel
theorem dX12_restore_24 : decode cX12_restore 24 = .ok (.getfield 490, 3) := by decide +kernel
theorem dX12_restore_27 : decode cX12_restore 27 = .ok (.putfield 330, 3) := by decide +kernel
theorem dX12_restore_30 : decode cX12_restore 30 = .ok (.aload_n 0, 1) := by decide +kernel
theorem dX12_restore_31 : decode cX12_restore 31 = .ok (.aload_n 0, 1) := by decide +kernel
theorem dX12_restore_32 : decode cX12_restore 32 = .ok (.getfield 137, 3) := by decide +kernel
theorem dX12_restore_35 : decode cX12_restore 35 = .ok (.iconst 0, 1) := by decide +kernel
theorem dX12_restore_36 : decode cX12_restore 36 = .ok (.invokevirtual 392, 3) := by decide +kernel
theorem dX12_restore_39 : decode cX12_restore 39 = .ok (.aload_n 0, 1) := by decide +kernel
theorem dX12_restore_40 : decode cX12_restore 40 = .ok (.getfield 98, 3) := by decide +kernel
theorem dX12_restore_43 : decode cX12_restore 43 = .ok (.aload_n 0, 1) := by decide +kernel
theorem dX12_restore_44 : decode cX12_restore 44 = .ok (.getfield 140, 3) := by decide +kernel
theorem dX12_restore_47 : decode cX12_restore 47 = .ok (.invokestatic 493, 3) := by decide +kernel
