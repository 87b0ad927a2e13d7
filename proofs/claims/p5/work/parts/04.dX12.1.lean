theorem dX12_sayWets_49 : decode cX12_sayWets 49 = .ok (.iconst 0, 1) := by decide +kernel
theorem dX12_sayWets_50 : decode cX12_sayWets 50 = .ok (.bipush 9, 2) := by decide +kernel
theorem dX12_sayWets_52 : decode cX12_sayWets 52 = .ok (.invokevirtual 239, 3) := by decide +kernel
theorem dX12_sayWets_55 : decode cX12_sayWets 55 = .ok (.istore_n 2, 1) := by decide +kernel
theorem dX12_sayWets_56 : decode cX12_sayWets 56 = .ok (.aload_n 0, 1) := by decide +kernel
theorem dX12_sayWets_57 : decode cX12_sayWets 57 = .ok (.getfield 204, 3) := by decide +kernel
theorem dX12_sayWets_60 : decode cX12_sayWets 60 = .ok (.ifCond .eq 4, 3) := by decide +kernel
theorem dX12_sayWets_63 : decode cX12_sayWets 63 = .ok (.return_, 1) := by decide +kernel
theorem dX12_sayWets_64 : decode cX12_sayWets 64 = .ok (.aload_n 0, 1) := by decide +kernel
theorem dX12_sayWets_65 : decode cX12_sayWets 65 = .ok (.getfield 67, 3) := by decide +kernel
theorem dX12_sayWets_68 : decode cX12_sayWets 68 = .ok (.bipush 8, 2) := by decide +kernel
theorem dX12_sayWets_70 : decode cX12_sayWets 70 = .ok (.iload_n 1, 1) := by decide +kernel
theorem dX12_sayWets_71 : decode cX12_sayWets 71 = .ok (.iadd, 1) := by decide +kernel
theorem dX12_sayWets_72 : decode cX12_sayWets 72 = .ok (.iload_n 2, 1) := by decide +kernel
theorem dX12_sayWets_73 : decode cX12_sayWets 73 = .ok (.iastore, 1) := by decide +kernel
theorem dX12_sayWets_74 : decode cX12_sayWets 74 = .ok (.iinc 1 1, 3) := by decide +kernel
theorem dX12_sayWets_77 : decode cX12_sayWets 77 = .ok (.goto (-55), 3) := by decide +kernel
theorem dX12_sayWets_80 : decode cX12_sayWets 80 = .ok (.aload_n 0, 1) := by decide +kernel
theorem dX12_sayWets_81 : decode cX12_sayWets 81 = .ok (.getfield 42, 3) := by decide +kernel
theorem dX12_sayWets_84 : decode cX12_sayWets 84 = .ok (.bipush 9, 2) := by decide +kernel
theorem dX12_sayWets_86 : decode cX12_sayWets 86 = .ok (.iload_n 1, 1) := by decide +kernel
theorem dX12_sayWets_87 : decode cX12_sayWets 87 = .ok (.iastore, 1) := by decide +kernel
theorem dX12_sayWets_88 : decode cX12_sayWets 88 = .ok (.return_, 1) := by decide +kernel
theorem dX12_sayOnce_0 : decode cX12_sayOnce 0 = .ok (.aload_n 0, 1) := by decide +kernel
theorem dX12_sayOnce_1 : decode cX12_sayOnce 1 = .ok (.invokevirtual 229, 3) := by decide +kernel
theorem dX12_sayOnce_4 : decode cX12_sayOnce 4 = .ok (.iload_n 1, 1) := by decide +kernel
theorem dX12_sayOnce_5 : decode cX12_sayOnce 5 = .ok (.iconst 1, 1) := by decide +kernel
theorem dX12_sayOnce_6 : decode cX12_sayOnce 6 = .ok (.if_icmp .ne 7, 3) := by decide +kernel
theorem dX12_sayOnce_9 : decode cX12_sayOnce 9 = .ok (.aload_n 0, 1) := by decide +kernel
theorem dX12_sayOnce_10 : decode cX12_sayOnce 10 = .ok (.invokevirtual 288, 3) := by decide +kernel
theorem dX12_sayOnce_13 : decode cX12_sayOnce 13 = .ok (.iload_n 1, 1) := by decide +kernel
theorem dX12_sayOnce_14 : decode cX12_sayOnce 14 = .ok (.iconst 2, 1) := by decide +kernel
theorem dX12_sayOnce_15 : decode cX12_sayOnce 15 = .ok (.if_icmp .ne 17, 3) := by decide +kernel
theorem dX12_sayOnce_18 : decode cX12_sayOnce 18 = .ok (.aload_n 0, 1) := by decide +kernel
theorem dX12_sayOnce_19 : decode cX12_sayOnce 19 = .ok (.getfield 42, 3) := by decide +kernel
theorem dX12_sayOnce_22 : decode cX12_sayOnce 22 = .ok (.bipush 8, 2) := by decide +kernel
theorem dX12_sayOnce_24 : decode cX12_sayOnce 24 = .ok (.aload_n 0, 1) := by decide +kernel
theorem dX12_sayOnce_25 : decode cX12_sayOnce 25 = .ok (.iconst 1, 1) := by decide +kernel
theorem dX12_sayOnce_26 : decode cX12_sayOnce 26 = .ok (.bipush 99, 2) := by decide +kernel
theorem dX12_sayOnce_28 : decode cX12_sayOnce 28 = .ok (.invokevirtual 239, 3) := by decide +kernel
theorem dX12_sayOnce_31 : decode cX12_sayOnce 31 = .ok (.iastore, 1) := by decide +kernel
theorem dX12_sayOnce_32 : decode cX12_sayOnce 32 = .ok (.iload_n 1, 1) := by decide +kernel
theorem dX12_sayOnce_33 : decode cX12_sayOnce 33 = .ok (.iconst 4, 1) := by decide +kernel
theorem dX12_sayOnce_34 : decode cX12_sayOnce 34 = .ok (.if_icmp .ge 4, 3) := by decide +kernel
theorem dX12_sayOnce_37 : decode cX12_sayOnce 37 = .ok (.return_, 1) := by decide +kernel
theorem dX12_sayOnce_38 : decode cX12_sayOnce 38 = .ok (.aload_n 0, 1) := by decide +kernel
theorem dX12_sayOnce_39 : decode cX12_sayOnce 39 = .ok (.iload_n 1, 1) := by decide +kernel
theorem dX12_sayOnce_40 : decode cX12_sayOnce 40 = .ok (.bipush 8, 2) := by decide +kernel
theorem dX12_sayOnce_42 : decode cX12_sayOnce 42 = .ok (.if_icmp .ne 7, 3) := by decide +kernel
theorem dX12_sayOnce_45 : decode cX12_sayOnce 45 = .ok (.iconst 1, 1) := by decide +kernel
theorem dX12_sayOnce_46 : decode cX12_sayOnce 46 = .ok (.goto 4, 3) := by decide +kernel
theorem dX12_sayOnce_49 : decode cX12_sayOnce 49 = .ok (.iconst 0, 1) := by decide +kernel
theorem dX12_sayOnce_50 : decode cX12_sayOnce 50 = .ok (.putfield 235, 3) := by decide +kernel
theorem dX12_sayOnce_53 : decode cX12_sayOnce 53 = .ok (.aload_n 0, 1) := by decide +kernel
theorem dX12_sayOnce_54 : decode cX12_sayOnce 54 = .ok (.aload_n 0, 1) := by decide +kernel
theorem dX12_sayOnce_55 : decode cX12_sayOnce 55 = .ok (.getfield 235, 3) := by decide +kernel
theorem dX12_sayOnce_58 : decode cX12_sayOnce 58 = .ok (.ifCond .eq 10, 3) := by decide +kernel
theorem dX12_sayOnce_61 : decode cX12_sayOnce 61 = .ok (.aload_n 0, 1) := by decide +kernel
theorem dX12_sayOnce_62 : decode cX12_sayOnce 62 = .ok (.getfield 36, 3) := by decide +kernel
theorem dX12_sayOnce_65 : decode cX12_sayOnce 65 = .ok (.goto 7, 3) := by decide +kernel
theorem dX12_sayOnce_68 : decode cX12_sayOnce 68 = .ok (.aload_n 0, 1) := by decide +kernel
theorem dX12_sayOnce_69 : decode cX12_sayOnce 69 = .ok (.getfield 31, 3) := by decide +kernel
theorem dX12_sayOnce_72 : decode cX12_sayOnce 72 = .ok (.putfield 39, 3) := by decide +kernel
theorem dX12_sayOnce_75 : decode cX12_sayOnce 75 = .ok (.aload_n 0, 1) := by decide +kernel
theorem dX12_sayOnce_76 : decode cX12_sayOnce 76 = .ok (.iconst 0, 1) := by decide +kernel
theorem dX12_sayOnce_77 : decode cX12_sayOnce 77 = .ok (.invokevirtual 252, 3) := by decide +kernel
theorem dX12_sayOnce_80 : decode cX12_sayOnce 80 = .ok (.return_, 1) := by decide +kernel
theorem dX12_readLine_0 : decode cX12_readLine 0 = .ok (.aload_n 0, 1) := by decide +kernel
theorem dX12_readLine_1 : decode cX12_readLine 1 = .ok (.aload_n 0, 1) := by decide +kernel
theorem dX12_readLine_2 : decode cX12_readLine 2 = .ok (.getfield 15, 3) := by decide +kernel
theorem dX12_readLine_5 : decode cX12_readLine 5 = .ok (.invokevirtual 245, 3) := by decide +kernel
theorem dX12_readLine_8 : decode cX12_readLine 8 = .ok (.istore_n 2, 1) := by decide +kernel
theorem dX12_readLine_9 : decode cX12_readLine 9 = .ok (.aload_n 0, 1) := by decide +kernel
theorem dX12_readLine_10 : decode cX12_readLine 10 = .ok (.ldc 27, 2) := by decide +kernel
theorem dX12_readLine_12 : decode cX12_readLine 12 = .ok (.invokevirtual 218, 3) := by decide +kernel
theorem dX12_readLine_15 : decode cX12_readLine 15 = .ok (.ifCond .eq 7, 3) := by decide +kernel
theorem dX12_readLine_18 : decode cX12_readLine 18 = .ok (.iconst 1, 1) := by decide +kernel
theorem dX12_readLine_19 : decode cX12_readLine 19 = .ok (.goto 47, 3) := by decide +kernel
theorem dX12_readLine_22 : decode cX12_readLine 22 = .ok (.aload_n 0, 1) := by decide +kernel
theorem dX12_readLine_23 : decode cX12_readLine 23 = .ok (.ldc_w 291, 3) := by decide +kernel
theorem dX12_readLine_26 : decode cX12_readLine 26 = .ok (.invokevirtual 218, 3) := by decide +kernel
theorem dX12_readLine_29 : decode cX12_readLine 29 = .ok (.ifCond .eq 7, 3) := by decide +kernel
theorem dX12_readLine_32 : decode cX12_readLine 32 = .ok (.iconst 2, 1) := by decide +kernel
theorem dX12_readLine_33 : decode cX12_readLine 33 = .ok (.goto 33, 3) := by decide +kernel
theorem dX12_readLine_36 : decode cX12_readLine 36 = .ok (.aload_n 0, 1) := by decide +kernel
theorem dX12_readLine_37 : decode cX12_readLine 37 = .ok (.ldc_w 293, 3) := by decide +kernel
theorem dX12_readLine_40 : decode cX12_readLine 40 = .ok (.invokevirtual 218, 3) := by decide +kernel
theorem dX12_readLine_43 : decode cX12_readLine 43 = .ok (.ifCond .eq 7, 3) := by decide +kernel
theorem dX12_readLine_46 : decode cX12_readLine 46 = .ok (.iconst 4, 1) := by decide +kernel
theorem dX12_readLine_47 : decode cX12_readLine 47 = .ok (.goto 19, 3) := by decide +kernel
theorem dX12_readLine_50 : decode cX12_readLine 50 = .ok (.aload_n 0, 1) := by decide +kernel
theorem dX12_readLine_51 : decode cX12_readLine 51 = .ok (.ldc_w 295, 3) := by decide +kernel
theorem dX12_readLine_54 : decode cX12_readLine 54 = .ok (.invokevirtual 218, 3) := by decide +kernel
theorem dX12_readLine_57 : decode cX12_readLine 57 = .ok (.ifCond .eq 8, 3) := by decide +kernel
theorem dX12_readLine_60 : decode cX12_readLine 60 = .ok (.bipush 8, 2) := by decide +kernel
theorem dX12_readLine_62 : decode cX12_readLine 62 = .ok (.goto 4, 3) := by decide +kernel
theorem dX12_readLine_65 : decode cX12_readLine 65 = .ok (.iconst 0, 1) := by decide +kernel
theorem dX12_readLine_66 : decode cX12_readLine 66 = .ok (.istore_n 3, 1) := by decide +kernel
theorem dX12_readLine_67 : decode cX12_readLine 67 = .ok (.iload_n 3, 1) := by decide +kernel
theorem dX12_readLine_68 : decode cX12_readLine 68 = .ok (.iload_n 1, 1) := by decide +kernel
theorem dX12_readLine_69 : decode cX12_readLine 69 = .ok (.iand, 1) := by decide +kernel
theorem dX12_readLine_70 : decode cX12_readLine 70 = .ok (.ifCond .eq 8, 3) := by decide +kernel
theorem dX12_readLine_73 : decode cX12_readLine 73 = .ok (.aload_n 0, 1) := by decide +kernel
theorem dX12_readLine_74 : decode cX12_readLine 74 = .ok (.iconst 5, 1) := by decide +kernel
theorem dX12_readLine_75 : decode cX12_readLine 75 = .ok (.invokevirtual 225, 3) := by decide +kernel
theorem dX12_readLine_78 : decode cX12_readLine 78 = .ok (.iload_n 3, 1) := by decide +kernel
theorem dX12_readLine_79 : decode cX12_readLine 79 = .ok (.ifCond .le 18, 3) := by decide +kernel
theorem dX12_readLine_82 : decode cX12_readLine 82 = .ok (.aload_n 0, 1) := by decide +kernel
theorem dX12_readLine_83 : decode cX12_readLine 83 = .ok (.getfield 204, 3) := by decide +kernel
theorem dX12_readLine_86 : decode cX12_readLine 86 = .ok (.ifCond .ne 11, 3) := by decide +kernel
theorem dX12_readLine_89 : decode cX12_readLine 89 = .ok (.aload_n 0, 1) := by decide +kernel
theorem dX12_readLine_90 : decode cX12_readLine 90 = .ok (.iload_n 3, 1) := by decide +kernel
theorem dX12_readLine_91 : decode cX12_readLine 91 = .ok (.invokevirtual 297, 3) := by decide +kernel
theorem dX12_readLine_94 : decode cX12_readLine 94 = .ok (.goto 38, 3) := by decide +kernel
theorem dX12_readLine_97 : decode cX12_readLine 97 = .ok (.iload_n 2, 1) := by decide +kernel
theorem dX12_readLine_98 : decode cX12_readLine 98 = .ok (.iconst (-1), 1) := by decide +kernel
theorem dX12_readLine_99 : decode cX12_readLine 99 = .ok (.if_icmp .eq 11, 3) := by decide +kernel
theorem dX12_readLine_102 : decode cX12_readLine 102 = .ok (.aload_n 0, 1) := by decide +kernel
theorem dX12_readLine_103 : decode cX12_readLine 103 = .ok (.iload_n 2, 1) := by decide +kernel
theorem dX12_readLine_104 : decode cX12_readLine 104 = .ok (.invokevirtual 300, 3) := by decide +kernel
theorem dX12_readLine_107 : decode cX12_readLine 107 = .ok (.goto 25, 3) := by decide +kernel
theorem dX12_readLine_110 : decode cX12_readLine 110 = .ok (.aload_n 0, 1) := by decide +kernel
theorem dX12_readLine_111 : decode cX12_readLine 111 = .ok (.ldc_w 303, 3) := by decide +kernel
theorem dX12_readLine_114 : decode cX12_readLine 114 = .ok (.invokevirtual 218, 3) := by decide +kernel
theorem dX12_readLine_117 : decode cX12_readLine 117 = .ok (.ifCond .eq 10, 3) := by decide +kernel
theorem dX12_readLine_120 : decode cX12_readLine 120 = .ok (.aload_n 0, 1) := by decide +kernel
theorem dX12_readLine_121 : decode cX12_readLine 121 = .ok (.invokevirtual 305, 3) := by decide +kernel
theorem dX12_readLine_124 : decode cX12_readLine 124 = .ok (.goto 8, 3) := by decide +kernel
theorem dX12_readLine_127 : decode cX12_readLine 127 = .ok (.aload_n 0, 1) := by decide +kernel
theorem dX12_readLine_128 : decode cX12_readLine 128 = .ok (.iconst 1, 1) := by decide +kernel
theorem dX12_readLine_129 : decode cX12_readLine 129 = .ok (.invokevirtual 225, 3) := by decide +kernel
theorem dX12_readLine_132 : decode cX12_readLine 132 = .ok (.aload_n 0, 1) := by decide +kernel
theorem dX12_readLine_133 : decode cX12_readLine 133 = .ok (.bipush 59, 2) := by decide +kernel
theorem dX12_readLine_135 : decode cX12_readLine 135 = .ok (.invokevirtual 249, 3) := by decide +kernel
theorem dX12_readLine_138 : decode cX12_readLine 138 = .ok (.iload_n 1, 1) := by decide +kernel
theorem dX12_readLine_139 : decode cX12_readLine 139 = .ok (.iload_n 3, 1) := by decide +kernel
theorem dX12_readLine_140 : decode cX12_readLine 140 = .ok (.ior, 1) := by decide +kernel
theorem dX12_readLine_141 : decode cX12_readLine 141 = .ok (.ireturn, 1) := by decide +kernel
theorem dX12_port_0 : decode cX12_port 0 = .ok (.aload_n 0, 1) := by decide +kernel
theorem dX12_port_1 : decode cX12_port 1 = .ok (.iconst 0, 1) := by decide +kernel
theorem dX12_port_2 : decode cX12_port 2 = .ok (.putfield 155, 3) := by decide +kernel
theorem dX12_port_5 : decode cX12_port 5 = .ok (.iload_n 1, 1) := by decide +kernel
theorem dX12_port_6 : decode cX12_port 6 = .ok (.ifCond .lt 11, 3) := by decide +kernel
theorem dX12_port_9 : decode cX12_port 9 = .ok (.iload_n 1, 1) := by decide +kernel
theorem dX12_port_10 : decode cX12_port 10 = .ok (.aload_n 0, 1) := by decide +kernel
theorem dX12_port_11 : decode cX12_port 11 = .ok (.getfield 162, 3) := by decide +kernel
theorem dX12_port_14 : decode cX12_port 14 = .ok (.if_icmp .le 9, 3) := by decide +kernel
theorem dX12_port_17 : decode cX12_port 17 = .ok (.aload_n 0, 1) := by decide +kernel
theorem dX12_port_18 : decode cX12_port 18 = .ok (.iconst 1, 1) := by decide +kernel
theorem dX12_port_19 : decode cX12_port 19 = .ok (.invokevirtual 308, 3) := by decide +kernel
theorem dX12_port_22 : decode cX12_port 22 = .ok (.ireturn, 1) := by decide +kernel
theorem dX12_port_23 : decode cX12_port 23 = .ok (.aload_n 0, 1) := by decide +kernel
theorem dX12_port_24 : decode cX12_port 24 = .ok (.iconst 0, 1) := by decide +kernel
theorem dX12_port_25 : decode cX12_port 25 = .ok (.putfield 162, 3) := by decide +kernel
theorem dX12_port_28 : decode cX12_port 28 = .ok (.aload_n 0, 1) := by decide +kernel
theorem dX12_port_29 : decode cX12_port 29 = .ok (.iload_n 1, 1) := by decide +kernel
theorem dX12_port_30 : decode cX12_port 30 = .ok (.putfield 165, 3) := by decide +kernel
theorem dX12_port_33 : decode cX12_port 33 = .ok (.aload_n 0, 1) := by decide +kernel
theorem dX12_port_34 : decode cX12_port 34 = .ok (.iconst 0, 1) := by decide +kernel
theorem dX12_port_35 : decode cX12_port 35 = .ok (.putfield 168, 3) := by decide +kernel
theorem dX12_port_38 : decode cX12_port 38 = .ok (.aload_n 0, 1) := by decide +kernel
theorem dX12_port_39 : decode cX12_port 39 = .ok (.iconst 0, 1) := by decide +kernel
theorem dX12_port_40 : decode cX12_port 40 = .ok (.putfield 204, 3) := by decide +kernel
theorem dX12_port_43 : decode cX12_port 43 = .ok (.aload_n 0, 1) := by decide +kernel
theorem dX12_port_44 : decode cX12_port 44 = .ok (.iconst 0, 1) := by decide +kernel
theorem dX12_port_45 : decode cX12_port 45 = .ok (.putfield 282, 3) := by decide +kernel
theorem dX12_port_48 : decode cX12_port 48 = .ok (.aload_n 0, 1) := by decide +kernel
theorem dX12_port_49 : decode cX12_port 49 = .ok (.iconst (-1), 1) := by decide +kernel
theorem dX12_port_50 : decode cX12_port 50 = .ok (.putfield 84, 3) := by decide +kernel
theorem dX12_port_53 : decode cX12_port 53 = .ok (.iconst 0, 1) := by decide +kernel
theorem dX12_port_54 : decode cX12_port 54 = .ok (.istore_n 2, 1) := by decide +kernel
theorem dX12_port_55 : decode cX12_port 55 = .ok (.iload_n 2, 1) := by decide +kernel
theorem dX12_port_56 : decode cX12_port 56 = .ok (.bipush 6, 2) := by decide +kernel
theorem dX12_port_58 : decode cX12_port 58 = .ok (.if_icmp .ge 29, 3) := by decide +kernel
theorem dX12_port_61 : decode cX12_port 61 = .ok (.aload_n 0, 1) := by decide +kernel
theorem dX12_port_62 : decode cX12_port 62 = .ok (.getfield 42, 3) := by decide +kernel
theorem dX12_port_65 : decode cX12_port 65 = .ok (.bipush 6, 2) := by decide +kernel
theorem dX12_port_67 : decode cX12_port 67 = .ok (.iload_n 2, 1) := by decide +kernel
theorem dX12_port_68 : decode cX12_port 68 = .ok (.iadd, 1) := by decide +kernel
theorem dX12_port_69 : decode cX12_port 69 = .ok (.iload_n 2, 1) := by decide +kernel
theorem dX12_port_70 : decode cX12_port 70 = .ok (.iconst 2, 1) := by decide +kernel
theorem dX12_port_71 : decode cX12_port 71 = .ok (.if_icmp .ne 8, 3) := by decide +kernel
theorem dX12_port_74 : decode cX12_port 74 = .ok (.bipush 70, 2) := by decide +kernel
theorem dX12_port_76 : decode cX12_port 76 = .ok (.goto 4, 3) := by decide +kernel
theorem dX12_port_79 : decode cX12_port 79 = .ok (.iconst 0, 1) := by decide +kernel
theorem dX12_port_80 : decode cX12_port 80 = .ok (.iastore, 1) := by decide +kernel
theorem dX12_port_81 : decode cX12_port 81 = .ok (.iinc 2 1, 3) := by decide +kernel
theorem dX12_port_84 : decode cX12_port 84 = .ok (.goto (-29), 3) := by decide +kernel
theorem dX12_port_87 : decode cX12_port 87 = .ok (.aload_n 0, 1) := by decide +kernel
theorem dX12_port_88 : decode cX12_port 88 = .ok (.invokevirtual 229, 3) := by decide +kernel
theorem dX12_port_91 : decode cX12_port 91 = .ok (.iconst 0, 1) := by decide +kernel
theorem dX12_port_92 : decode cX12_port 92 = .ok (.istore_n 2, 1) := by decide +kernel
theorem dX12_port_93 : decode cX12_port 93 = .ok (.aload_n 0, 1) := by decide +kernel
theorem dX12_port_94 : decode cX12_port 94 = .ok (.getfield 204, 3) := by decide +kernel
theorem dX12_port_97 : decode cX12_port 97 = .ok (.ifCond .ne 19, 3) := by decide +kernel
theorem dX12_port_100 : decode cX12_port 100 = .ok (.aload_n 0, 1) := by decide +kernel
theorem dX12_port_101 : decode cX12_port 101 = .ok (.getfield 178, 3) := by decide +kernel
theorem dX12_port_104 : decode cX12_port 104 = .ok (.ifCond .eq 12, 3) := by decide +kernel
theorem dX12_port_107 : decode cX12_port 107 = .ok (.aload_n 0, 1) := by decide +kernel
theorem dX12_port_108 : decode cX12_port 108 = .ok (.iload_n 2, 1) := by decide +kernel
theorem dX12_port_109 : decode cX12_port 109 = .ok (.invokevirtual 311, 3) := by decide +kernel
theorem dX12_port_112 : decode cX12_port 112 = .ok (.istore_n 2, 1) := by decide +kernel
theorem dX12_port_113 : decode cX12_port 113 = .ok (.goto (-20), 3) := by decide +kernel
theorem dX12_port_116 : decode cX12_port 116 = .ok (.aload_n 0, 1) := by decide +kernel
theorem dX12_port_117 : decode cX12_port 117 = .ok (.getfield 204, 3) := by decide +kernel
theorem dX12_port_120 : decode cX12_port 120 = .ok (.ifCond .eq 26, 3) := by decide +kernel
theorem dX12_port_123 : decode cX12_port 123 = .ok (.aload_n 0, 1) := by decide +kernel
theorem dX12_port_124 : decode cX12_port 124 = .ok (.aload_n 0, 1) := by decide +kernel
theorem dX12_port_125 : decode cX12_port 125 = .ok (.getfield 207, 3) := by decide +kernel
theorem dX12_port_128 : decode cX12_port 128 = .ok (.putfield 84, 3) := by decide +kernel
theorem dX12_port_131 : decode cX12_port 131 = .ok (.aload_n 0, 1) := by decide +kernel
theorem dX12_port_132 : decode cX12_port 132 = .ok (.getfield 76, 3) := by decide +kernel
theorem dX12_port_135 : decode cX12_port 135 = .ok (.iconst 0, 1) := by decide +kernel
theorem dX12_port_136 : decode cX12_port 136 = .ok (.dup2, 1) := by decide +kernel
theorem dX12_port_137 : decode cX12_port 137 = .ok (.iaload, 1) := by decide +kernel
theorem dX12_port_138 : decode cX12_port 138 = .ok (.iconst 1, 1) := by decide +kernel
theorem dX12_port_139 : decode cX12_port 139 = .ok (.iadd, 1) := by decide +kernel
theorem dX12_port_140 : decode cX12_port 140 = .ok (.iastore, 1) := by decide +kernel
theorem dX12_port_141 : decode cX12_port 141 = .ok (.aload_n 0, 1) := by decide +kernel
theorem dX12_port_142 : decode cX12_port 142 = .ok (.getfield 204, 3) := by decide +kernel
theorem dX12_port_145 : decode cX12_port 145 = .ok (.ireturn, 1) := by decide +kernel
theorem dX12_port_146 : decode cX12_port 146 = .ok (.aload_n 0, 1) := by decide +kernel
theorem dX12_port_147 : decode cX12_port 147 = .ok (.invokevirtual 314, 3) := by decide +kernel
theorem dX12_port_150 : decode cX12_port 150 = .ok (.iconst 0, 1) := by decide +kernel
theorem dX12_port_151 : decode cX12_port 151 = .ok (.ireturn, 1) := by decide +kernel
theorem dX12_takeHalf_0 : decode cX12_takeHalf 0 = .ok (.iconst 0, 1) := by decide +kernel
theorem dX12_takeHalf_1 : decode cX12_takeHalf 1 = .ok (.istore_n 1, 1) := by decide +kernel
theorem dX12_takeHalf_2 : decode cX12_takeHalf 2 = .ok (.iload_n 1, 1) := by decide +kernel
theorem dX12_takeHalf_3 : decode cX12_takeHalf 3 = .ok (.aload_n 0, 1) := by decide +kernel
theorem dX12_takeHalf_4 : decode cX12_takeHalf 4 = .ok (.arraylength, 1) := by decide +kernel
theorem dX12_takeHalf_5 : decode cX12_takeHalf 5 = .ok (.iconst 2, 1) := by decide +kernel
theorem dX12_takeHalf_6 : decode cX12_takeHalf 6 = .ok (.idiv, 1) := by decide +kernel
theorem dX12_takeHalf_7 : decode cX12_takeHalf 7 = .ok (.if_icmp .ge 20, 3) := by decide +kernel
theorem dX12_takeHalf_10 : decode cX12_takeHalf 10 = .ok (.aload_n 0, 1) := by decide +kernel
theorem dX12_takeHalf_11 : decode cX12_takeHalf 11 = .ok (.iload_n 1, 1) := by decide +kernel
theorem dX12_takeHalf_12 : decode cX12_takeHalf 12 = .ok (.aload_n 0, 1) := by decide +kernel
theorem dX12_takeHalf_13 : decode cX12_takeHalf 13 = .ok (.aload_n 0, 1) := by decide +kernel
theorem dX12_takeHalf_14 : decode cX12_takeHalf 14 = .ok (.arraylength, 1) := by decide +kernel
theorem dX12_takeHalf_15 : decode cX12_takeHalf 15 = .ok (.iconst 2, 1) := by decide +kernel
theorem dX12_takeHalf_16 : decode cX12_takeHalf 16 = .ok (.idiv, 1) := by decide +kernel
theorem dX12_takeHalf_17 : decode cX12_takeHalf 17 = .ok (.iload_n 1, 1) := by decide +kernel
theorem dX12_takeHalf_18 : decode cX12_takeHalf 18 = .ok (.iadd, 1) := by decide +kernel
theorem dX12_takeHalf_19 : decode cX12_takeHalf 19 = .ok (.iaload, 1) := by decide +kernel
theorem dX12_takeHalf_20 : decode cX12_takeHalf 20 = .ok (.iastore, 1) := by decide +kernel
theorem dX12_takeHalf_21 : decode cX12_takeHalf 21 = .ok (.iinc 1 1, 3) := by decide +kernel
theorem dX12_takeHalf_24 : decode cX12_takeHalf 24 = .ok (.goto (-22), 3) := by decide +kernel
theorem dX12_takeHalf_27 : decode cX12_takeHalf 27 = .ok (.return_, 1) := by decide +kernel
theorem dX12_takeOver_0 : decode cX12_takeOver 0 = .ok (.aload_n 0, 1) := by decide +kernel
theorem dX12_takeOver_1 : decode cX12_takeOver 1 = .ok (.getfield 42, 3) := by decide +kernel
theorem dX12_takeOver_4 : decode cX12_takeOver 4 = .ok (.invokestatic 317, 3) := by decide +kernel
theorem dX12_takeOver_7 : decode cX12_takeOver 7 = .ok (.aload_n 0, 1) := by decide +kernel
theorem dX12_takeOver_8 : decode cX12_takeOver 8 = .ok (.getfield 46, 3) := by decide +kernel
theorem dX12_takeOver_11 : decode cX12_takeOver 11 = .ok (.invokestatic 317, 3) := by decide +kernel
theorem dX12_takeOver_14 : decode cX12_takeOver 14 = .ok (.aload_n 0, 1) := by decide +kernel
theorem dX12_takeOver_15 : decode cX12_takeOver 15 = .ok (.getfield 48, 3) := by decide +kernel
theorem dX12_takeOver_18 : decode cX12_takeOver 18 = .ok (.invokestatic 317, 3) := by decide +kernel
theorem dX12_takeOver_21 : decode cX12_takeOver 21 = .ok (.aload_n 0, 1) := by decide +kernel
theorem dX12_takeOver_22 : decode cX12_takeOver 22 = .ok (.getfield 50, 3) := by decide +kernel
theorem dX12_takeOver_25 : decode cX12_takeOver 25 = .ok (.invokestatic 317, 3) := by decide +kernel
theorem dX12_takeOver_28 : decode cX12_takeOver 28 = .ok (.aload_n 0, 1) := by decide +kernel
theorem dX12_takeOver_29 : decode cX12_takeOver 29 = .ok (.getfield 53, 3) := by decide +kernel
theorem dX12_takeOver_32 : decode cX12_takeOver 32 = .ok (.invokestatic 317, 3) := by decide +kernel
theorem dX12_takeOver_35 : decode cX12_takeOver 35 = .ok (.aload_n 0, 1) := by decide +kernel
theorem dX12_takeOver_36 : decode cX12_takeOver 36 = .ok (.getfield 55, 3) := by decide +kernel
theorem dX12_takeOver_39 : decode cX12_takeOver 39 = .ok (.invokestatic 317, 3) := by decide +kernel
theorem dX12_takeOver_42 : decode cX12_takeOver 42 = .ok (.aload_n 0, 1) := by decide +kernel
theorem dX12_takeOver_43 : decode cX12_takeOver 43 = .ok (.getfield 58, 3) := by decide +kernel
theorem dX12_takeOver_46 : decode cX12_takeOver 46 = .ok (.invokestatic 317, 3) := by decide +kernel
theorem dX12_takeOver_49 : decode cX12_takeOver 49 = .ok (.aload_n 0, 1) := by decide +kernel
theorem dX12_takeOver_50 : decode cX12_takeOver 50 = .ok (.getfield 61, 3) := by decide +kernel
theorem dX12_takeOver_53 : decode cX12_takeOver 53 = .ok (.invokestatic 317, 3) := by decide +kernel
theorem dX12_takeOver_56 : decode cX12_takeOver 56 = .ok (.aload_n 0, 1) := by decide +kernel
theorem dX12_takeOver_57 : decode cX12_takeOver 57 = .ok (.getfield 64, 3) := by decide +kernel
theorem dX12_takeOver_60 : decode cX12_takeOver 60 = .ok (.invokestatic 317, 3) := by decide +kernel
theorem dX12_takeOver_63 : decode cX12_takeOver 63 = .ok (.aload_n 0, 1) := by decide +kernel
theorem dX12_takeOver_64 : decode cX12_takeOver 64 = .ok (.getfield 67, 3) := by decide +kernel
theorem dX12_takeOver_67 : decode cX12_takeOver 67 = .ok (.invokestatic 317, 3) := by decide +kernel
theorem dX12_takeOver_70 : decode cX12_takeOver 70 = .ok (.aload_n 0, 1) := by decide +kernel
theorem dX12_takeOver_71 : decode cX12_takeOver 71 = .ok (.getfield 70, 3) := by decide +kernel
theorem dX12_takeOver_74 : decode cX12_takeOver 74 = .ok (.invokestatic 317, 3) := by decide +kernel
theorem dX12_takeOver_77 : decode cX12_takeOver 77 = .ok (.aload_n 0, 1) := by decide +kernel
theorem dX12_takeOver_78 : decode cX12_takeOver 78 = .ok (.getfield 73, 3) := by decide +kernel
theorem dX12_takeOver_81 : decode cX12_takeOver 81 = .ok (.invokestatic 317, 3) := by decide +kernel
theorem dX12_takeOver_84 : decode cX12_takeOver 84 = .ok (.aload_n 0, 1) := by decide +kernel
theorem dX12_takeOver_85 : decode cX12_takeOver 85 = .ok (.iconst 0, 1) := by decide +kernel
theorem dX12_takeOver_86 : decode cX12_takeOver 86 = .ok (.putfield 321, 3) := by decide +kernel
theorem dX12_takeOver_89 : decode cX12_takeOver 89 = .ok (.aload_n 0, 1) := by decide +kernel
theorem dX12_takeOver_90 : decode cX12_takeOver 90 = .ok (.iconst 0, 1) := by decide +kernel
theorem dX12_takeOver_91 : decode cX12_takeOver 91 = .ok (.putfield 324, 3) := by decide +kernel
theorem dX12_takeOver_94 : decode cX12_takeOver 94 = .ok (.iconst 0, 1) := by decide +kernel
theorem dX12_takeOver_95 : decode cX12_takeOver 95 = .ok (.istore_n 1, 1) := by decide +kernel
theorem dX12_takeOver_96 : decode cX12_takeOver 96 = .ok (.iload_n 1, 1) := by decide +kernel
theorem dX12_takeOver_97 : decode cX12_takeOver 97 = .ok (.bipush 6, 2) := by decide +kernel
theorem dX12_takeOver_99 : decode cX12_takeOver 99 = .ok (.if_icmp .ge 112, 3) := by decide +kernel
theorem dX12_takeOver_102 : decode cX12_takeOver 102 = .ok (.iload_n 1, 1) := by decide +kernel
theorem dX12_takeOver_103 : decode cX12_takeOver 103 = .ok (.aload_n 0, 1) := by decide +kernel
theorem dX12_takeOver_104 : decode cX12_takeOver 104 = .ok (.getfield 42, 3) := by decide +kernel
theorem dX12_takeOver_107 : decode cX12_takeOver 107 = .ok (.iconst 1, 1) := by decide +kernel
theorem dX12_takeOver_108 : decode cX12_takeOver 108 = .ok (.iaload, 1) := by decide +kernel
theorem dX12_takeOver_109 : decode cX12_takeOver 109 = .ok (.if_icmp .ge 7, 3) := by decide +kernel
theorem dX12_takeOver_112 : decode cX12_takeOver 112 = .ok (.iconst 1, 1) := by decide +kernel
theorem dX12_takeOver_113 : decode cX12_takeOver 113 = .ok (.goto 4, 3) := by decide +kernel
theorem dX12_takeOver_116 : decode cX12_takeOver 116 = .ok (.iconst 0, 1) := by decide +kernel
theorem dX12_takeOver_117 : decode cX12_takeOver 117 = .ok (.istore_n 2, 1) := by decide +kernel
theorem dX12_takeOver_118 : decode cX12_takeOver 118 = .ok (.aload_n 0, 1) := by decide +kernel
theorem dX12_takeOver_119 : decode cX12_takeOver 119 = .ok (.getfield 79, 3) := by decide +kernel
theorem dX12_takeOver_122 : decode cX12_takeOver 122 = .ok (.iload_n 1, 1) := by decide +kernel
theorem dX12_takeOver_123 : decode cX12_takeOver 123 = .ok (.iload_n 2, 1) := by decide +kernel
theorem dX12_takeOver_124 : decode cX12_takeOver 124 = .ok (.ifCond .eq 12, 3) := by decide +kernel
theorem dX12_takeOver_127 : decode cX12_takeOver 127 = .ok (.aload_n 0, 1) := by decide +kernel
theorem dX12_takeOver_128 : decode cX12_takeOver 128 = .ok (.getfield 55, 3) := by decide +kernel
theorem dX12_takeOver_131 : decode cX12_takeOver 131 = .ok (.iload_n 1, 1) := by decide +kernel
theorem dX12_takeOver_132 : decode cX12_takeOver 132 = .ok (.iaload, 1) := by decide +kernel
theorem dX12_takeOver_133 : decode cX12_takeOver 133 = .ok (.goto 4, 3) := by decide +kernel
theorem dX12_takeOver_136 : decode cX12_takeOver 136 = .ok (.iconst 0, 1) := by decide +kernel
theorem dX12_takeOver_137 : decode cX12_takeOver 137 = .ok (.iastore, 1) := by decide +kernel
theorem dX12_takeOver_138 : decode cX12_takeOver 138 = .ok (.aload_n 0, 1) := by decide +kernel
theorem dX12_takeOver_139 : decode cX12_takeOver 139 = .ok (.getfield 88, 3) := by decide +kernel
theorem dX12_takeOver_142 : decode cX12_takeOver 142 = .ok (.iload_n 1, 1) := by decide +kernel
theorem dX12_takeOver_143 : decode cX12_takeOver 143 = .ok (.iload_n 2, 1) := by decide +kernel
theorem dX12_takeOver_144 : decode cX12_takeOver 144 = .ok (.ifCond .eq 12, 3) := by decide +kernel
theorem dX12_takeOver_147 : decode cX12_takeOver 147 = .ok (.aload_n 0, 1) := by decide +kernel
theorem dX12_takeOver_148 : decode cX12_takeOver 148 = .ok (.getfield 58, 3) := by decide +kernel
theorem dX12_takeOver_151 : decode cX12_takeOver 151 = .ok (.iload_n 1, 1) := by decide +kernel
theorem dX12_takeOver_152 : decode cX12_takeOver 152 = .ok (.iaload, 1) := by decide +kernel
theorem dX12_takeOver_153 : decode cX12_takeOver 153 = .ok (.goto 4, 3) := by decide +kernel
theorem dX12_takeOver_156 : decode cX12_takeOver 156 = .ok (.iconst 0, 1) := by decide +kernel
theorem dX12_takeOver_157 : decode cX12_takeOver 157 = .ok (.iastore, 1) := by decide +kernel
theorem dX12_takeOver_158 : decode cX12_takeOver 158 = .ok (.aload_n 0, 1) := by decide +kernel
theorem dX12_takeOver_159 : decode cX12_takeOver 159 = .ok (.getfield 90, 3) := by decide +kernel
theorem dX12_takeOver_162 : decode cX12_takeOver 162 = .ok (.iload_n 1, 1) := by decide +kernel
theorem dX12_takeOver_163 : decode cX12_takeOver 163 = .ok (.iload_n 2, 1) := by decide +kernel
theorem dX12_takeOver_164 : decode cX12_takeOver 164 = .ok (.ifCond .eq 12, 3) := by decide +kernel
theorem dX12_takeOver_167 : decode cX12_takeOver 167 = .ok (.aload_n 0, 1) := by decide +kernel
theorem dX12_takeOver_168 : decode cX12_takeOver 168 = .ok (.getfield 61, 3) := by decide +kernel
theorem dX12_takeOver_171 : decode cX12_takeOver 171 = .ok (.iload_n 1, 1) := by decide +kernel
theorem dX12_takeOver_172 : decode cX12_takeOver 172 = .ok (.iaload, 1) := by decide +kernel
theorem dX12_takeOver_173 : decode cX12_takeOver 173 = .ok (.goto 4, 3) := by decide +kernel
theorem dX12_takeOver_176 : decode cX12_takeOver 176 = .ok (.iconst 0, 1) := by decide +kernel
theorem dX12_takeOver_177 : decode cX12_takeOver 177 = .ok (.iastore, 1) := by decide +kernel
theorem dX12_takeOver_178 : decode cX12_takeOver 178 = .ok (.aload_n 0, 1) := by decide +kernel
theorem dX12_takeOver_179 : decode cX12_takeOver 179 = .ok (.getfield 92, 3) := by decide +kernel
theorem dX12_takeOver_182 : decode cX12_takeOver 182 = .ok (.iload_n 1, 1) := by decide +kernel
theorem dX12_takeOver_183 : decode cX12_takeOver 183 = .ok (.iconst 0, 1) := by decide +kernel
theorem dX12_takeOver_184 : decode cX12_takeOver 184 = .ok (.iastore, 1) := by decide +kernel
theorem dX12_takeOver_185 : decode cX12_takeOver 185 = .ok (.aload_n 0, 1) := by decide +kernel
theorem dX12_takeOver_186 : decode cX12_takeOver 186 = .ok (.getfield 95, 3) := by decide +kernel
theorem dX12_takeOver_189 : decode cX12_takeOver 189 = .ok (.iload_n 1, 1) := by decide +kernel
theorem dX12_takeOver_190 : decode cX12_takeOver 190 = .ok (.iload_n 2, 1) := by decide +kernel
theorem dX12_takeOver_191 : decode cX12_takeOver 191 = .ok (.ifCond .eq 12, 3) := by decide +kernel
theorem dX12_takeOver_194 : decode cX12_takeOver 194 = .ok (.aload_n 0, 1) := by decide +kernel
theorem dX12_takeOver_195 : decode cX12_takeOver 195 = .ok (.getfield 64, 3) := by decide +kernel
theorem dX12_takeOver_198 : decode cX12_takeOver 198 = .ok (.iload_n 1, 1) := by decide +kernel
theorem dX12_takeOver_199 : decode cX12_takeOver 199 = .ok (.iaload, 1) := by decide +kernel
theorem dX12_takeOver_200 : decode cX12_takeOver 200 = .ok (.goto 4, 3) := by decide +kernel
theorem dX12_takeOver_203 : decode cX12_takeOver 203 = .ok (.iconst (-1), 1) := by decide +kernel
theorem dX12_takeOver_204 : decode cX12_takeOver 204 = .ok (.iastore, 1) := by decide +kernel
theorem dX12_takeOver_205 : decode cX12_takeOver 205 = .ok (.iinc 1 1, 3) := by decide +kernel
theorem dX12_takeOver_208 : decode cX12_takeOver 208 = .ok (.goto (-112), 3) := by decide +kernel
theorem dX12_takeOver_211 : decode cX12_takeOver 211 = .ok (.aload_n 0, 1) := by decide +kernel
theorem dX12_takeOver_212 : decode cX12_takeOver 212 = .ok (.iconst 0, 1) := by decide +kernel
theorem dX12_takeOver_213 : decode cX12_takeOver 213 = .ok (.putfield 327, 3) := by decide +kernel
theorem dX12_takeOver_216 : decode cX12_takeOver 216 = .ok (.aload_n 0, 1) := by decide +kernel
theorem dX12_takeOver_217 : decode cX12_takeOver 217 = .ok (.iconst 0, 1) := by decide +kernel
theorem dX12_takeOver_218 : decode cX12_takeOver 218 = .ok (.putfield 330, 3) := by decide +kernel
theorem dX12_takeOver_221 : decode cX12_takeOver 221 = .ok (.aload_n 0, 1) := by decide +kernel
theorem dX12_takeOver_222 : decode cX12_takeOver 222 = .ok (.iconst 0, 1) := by decide +kernel
theorem dX12_takeOver_223 : decode cX12_takeOver 223 = .ok (.putfield 333, 3) := by decide +kernel
theorem dX12_takeOver_226 : decode cX12_takeOver 226 = .ok (.return_, 1) := by decide +kernel
theorem dX12_fault_0 : decode cX12_fault 0 = .ok (.aload_n 0, 1) := by decide +kernel
theorem dX12_fault_1 : decode cX12_fault 1 = .ok (.iconst 0, 1) := by decide +kernel
theorem dX12_fault_2 : decode cX12_fault 2 = .ok (.putfield 155, 3) := by decide +kernel
theorem dX12_fault_5 : decode cX12_fault 5 = .ok (.aload_n 0, 1) := by decide +kernel
theorem dX12_fault_6 : decode cX12_fault 6 = .ok (.getfield 84, 3) := by decide +kernel
theorem dX12_fault_9 : decode cX12_fault 9 = .ok (.ireturn, 1) := by decide +kernel
theorem dX12_pack_0 : decode cX12_pack 0 = .ok (.aload_n 1, 1) := by decide +kernel
theorem dX12_pack_1 : decode cX12_pack 1 = .ok (.iload_n 2, 1) := by decide +kernel
theorem dX12_pack_2 : decode cX12_pack 2 = .ok (.aload_n 0, 1) := by decide +kernel
theorem dX12_pack_3 : decode cX12_pack 3 = .ok (.getfield 321, 3) := by decide +kernel
theorem dX12_pack_6 : decode cX12_pack 6 = .ok (.iastore, 1) := by decide +kernel
theorem dX12_pack_7 : decode cX12_pack 7 = .ok (.aload_n 1, 1) := by decide +kernel
theorem dX12_pack_8 : decode cX12_pack 8 = .ok (.iload_n 2, 1) := by decide +kernel
theorem dX12_pack_9 : decode cX12_pack 9 = .ok (.iconst 1, 1) := by decide +kernel
theorem dX12_pack_10 : decode cX12_pack 10 = .ok (.iadd, 1) := by decide +kernel
theorem dX12_pack_11 : decode cX12_pack 11 = .ok (.aload_n 0, 1) := by decide +kernel
theorem dX12_pack_12 : decode cX12_pack 12 = .ok (.getfield 324, 3) := by decide +kernel
theorem dX12_pack_15 : decode cX12_pack 15 = .ok (.iastore, 1) := by decide +kernel
theorem dX12_pack_16 : decode cX12_pack 16 = .ok (.iconst 0, 1) := by decide +kernel
theorem dX12_pack_17 : decode cX12_pack 17 = .ok (.istore_n 3, 1) := by decide +kernel
theorem dX12_pack_18 : decode cX12_pack 18 = .ok (.iload_n 3, 1) := by decide +kernel
theorem dX12_pack_19 : decode cX12_pack 19 = .ok (.bipush 6, 2) := by decide +kernel
theorem dX12_pack_21 : decode cX12_pack 21 = .ok (.if_icmp .ge 70, 3) := by decide +kernel
theorem dX12_pack_24 : decode cX12_pack 24 = .ok (.aload_n 1, 1) := by decide +kernel
theorem dX12_pack_25 : decode cX12_pack 25 = .ok (.iload_n 2, 1) := by decide +kernel
theorem dX12_pack_26 : decode cX12_pack 26 = .ok (.iconst 2, 1) := by decide +kernel
theorem dX12_pack_27 : decode cX12_pack 27 = .ok (.iadd, 1) := by decide +kernel
theorem dX12_pack_28 : decode cX12_pack 28 = .ok (.iload_n 3, 1) := by decide +kernel
theorem dX12_pack_29 : decode cX12_pack 29 = .ok (.iadd, 1) := by decide +kernel
theorem dX12_pack_30 : decode cX12_pack 30 = .ok (.aload_n 0, 1) := by decide +kernel
theorem dX12_pack_31 : decode cX12_pack 31 = .ok (.getfield 88, 3) := by decide +kernel
theorem dX12_pack_34 : decode cX12_pack 34 = .ok (.iload_n 3, 1) := by decide +kernel
theorem dX12_pack_35 : decode cX12_pack 35 = .ok (.iaload, 1) := by decide +kernel
theorem dX12_pack_36 : decode cX12_pack 36 = .ok (.iastore, 1) := by decide +kernel
theorem dX12_pack_37 : decode cX12_pack 37 = .ok (.aload_n 1, 1) := by decide +kernel
theorem dX12_pack_38 : decode cX12_pack 38 = .ok (.iload_n 2, 1) := by decide +kernel
theorem dX12_pack_39 : decode cX12_pack 39 = .ok (.iconst 2, 1) := by decide +kernel
theorem dX12_pack_40 : decode cX12_pack 40 = .ok (.iadd, 1) := by decide +kernel
theorem dX12_pack_41 : decode cX12_pack 41 = .ok (.bipush 6, 2) := by decide +kernel
theorem dX12_pack_43 : decode cX12_pack 43 = .ok (.iadd, 1) := by decide +kernel
theorem dX12_pack_44 : decode cX12_pack 44 = .ok (.iload_n 3, 1) := by decide +kernel
theorem dX12_pack_45 : decode cX12_pack 45 = .ok (.iadd, 1) := by decide +kernel
theorem dX12_pack_46 : decode cX12_pack 46 = .ok (.aload_n 0, 1) := by decide +kernel
theorem dX12_pack_47 : decode cX12_pack 47 = .ok (.getfield 90, 3) := by decide +kernel
theorem dX12_pack_50 : decode cX12_pack 50 = .ok (.iload_n 3, 1) := by decide +kernel
theorem dX12_pack_51 : decode cX12_pack 51 = .ok (.iaload, 1) := by decide +kernel
theorem dX12_pack_52 : decode cX12_pack 52 = .ok (.iastore, 1) := by decide +kernel
theorem dX12_pack_53 : decode cX12_pack 53 = .ok (.aload_n 1, 1) := by decide +kernel
theorem dX12_pack_54 : decode cX12_pack 54 = .ok (.iload_n 2, 1) := by decide +kernel
theorem dX12_pack_55 : decode cX12_pack 55 = .ok (.iconst 2, 1) := by decide +kernel
theorem dX12_pack_56 : decode cX12_pack 56 = .ok (.iadd, 1) := by decide +kernel
theorem dX12_pack_57 : decode cX12_pack 57 = .ok (.bipush 12, 2) := by decide +kernel
theorem dX12_pack_59 : decode cX12_pack 59 = .ok (.iadd, 1) := by decide +kernel
theorem dX12_pack_60 : decode cX12_pack 60 = .ok (.iload_n 3, 1) := by decide +kernel
theorem dX12_pack_61 : decode cX12_pack 61 = .ok (.iadd, 1) := by decide +kernel
theorem dX12_pack_62 : decode cX12_pack 62 = .ok (.aload_n 0, 1) := by decide +kernel
theorem dX12_pack_63 : decode cX12_pack 63 = .ok (.getfield 92, 3) := by decide +kernel
theorem dX12_pack_66 : decode cX12_pack 66 = .ok (.iload_n 3, 1) := by decide +kernel
theorem dX12_pack_67 : decode cX12_pack 67 = .ok (.iaload, 1) := by decide +kernel
theorem dX12_pack_68 : decode cX12_pack 68 = .ok (.iastore, 1) := by decide +kernel
theorem dX12_pack_69 : decode cX12_pack 69 = .ok (.aload_n 1, 1) := by decide +kernel
theorem dX12_pack_70 : decode cX12_pack 70 = .ok (.iload_n 2, 1) := by decide +kernel
theorem dX12_pack_71 : decode cX12_pack 71 = .ok (.iconst 2, 1) := by decide +kernel
theorem dX12_pack_72 : decode cX12_pack 72 = .ok (.iadd, 1) := by decide +kernel
theorem dX12_pack_73 : decode cX12_pack 73 = .ok (.bipush 18, 2) := by decide +kernel
theorem dX12_pack_75 : decode cX12_pack 75 = .ok (.iadd, 1) := by decide +kernel
theorem dX12_pack_76 : decode cX12_pack 76 = .ok (.iload_n 3, 1) := by decide +kernel
theorem dX12_pack_77 : decode cX12_pack 77 = .ok (.iadd, 1) := by decide +kernel
theorem dX12_pack_78 : decode cX12_pack 78 = .ok (.aload_n 0, 1) := by decide +kernel
theorem dX12_pack_79 : decode cX12_pack 79 = .ok (.getfield 95, 3) := by decide +kernel
theorem dX12_pack_82 : decode cX12_pack 82 = .ok (.iload_n 3, 1) := by decide +kernel
theorem dX12_pack_83 : decode cX12_pack 83 = .ok (.iaload, 1) := by decide +kernel
theorem dX12_pack_84 : decode cX12_pack 84 = .ok (.iastore, 1) := by decide +kernel
theorem dX12_pack_85 : decode cX12_pack 85 = .ok (.iinc 3 1, 3) := by decide +kernel
theorem dX12_pack_88 : decode cX12_pack 88 = .ok (.goto (-70), 3) := by decide +kernel
theorem dX12_pack_91 : decode cX12_pack 91 = .ok (.return_, 1) := by decide +kernel
theorem dX12_unpack_0 : decode cX12_unpack 0 = .ok (.aload_n 0, 1) := by decide +kernel
theorem dX12_unpack_1 : decode cX12_unpack 1 = .ok (.aload_n 1, 1) := by decide +kernel
theorem dX12_unpack_2 : decode cX12_unpack 2 = .ok (.iload_n 2, 1) := by decide +kernel
theorem dX12_unpack_3 : decode cX12_unpack 3 = .ok (.iaload, 1) := by decide +kernel
theorem dX12_unpack_4 : decode cX12_unpack 4 = .ok (.putfield 321, 3) := by decide +kernel
theorem dX12_unpack_7 : decode cX12_unpack 7 = .ok (.aload_n 0, 1) := by decide +kernel
theorem dX12_unpack_8 : decode cX12_unpack 8 = .ok (.aload_n 1, 1) := by decide +kernel
theorem dX12_unpack_9 : decode cX12_unpack 9 = .ok (.iload_n 2, 1) := by decide +kernel
theorem dX12_unpack_10 : decode cX12_unpack 10 = .ok (.iconst 1, 1) := by decide +kernel
theorem dX12_unpack_11 : decode cX12_unpack 11 = .ok (.iadd, 1) := by decide +kernel
theorem dX12_unpack_12 : decode cX12_unpack 12 = .ok (.iaload, 1) := by decide +kernel
theorem dX12_unpack_13 : decode cX12_unpack 13 = .ok (.putfield 324, 3) := by decide +kernel
theorem dX12_unpack_16 : decode cX12_unpack 16 = .ok (.iconst 0, 1) := by decide +kernel
theorem dX12_unpack_17 : decode cX12_unpack 17 = .ok (.istore_n 3, 1) := by decide +kernel
theorem dX12_unpack_18 : decode cX12_unpack 18 = .ok (.iload_n 3, 1) := by decide +kernel
theorem dX12_unpack_19 : decode cX12_unpack 19 = .ok (.bipush 6, 2) := by decide +kernel
theorem dX12_unpack_21 : decode cX12_unpack 21 = .ok (.if_icmp .ge 70, 3) := by decide +kernel
theorem dX12_unpack_24 : decode cX12_unpack 24 = .ok (.aload_n 0, 1) := by decide +kernel
theorem dX12_unpack_25 : decode cX12_unpack 25 = .ok (.getfield 88, 3) := by decide +kernel
theorem dX12_unpack_28 : decode cX12_unpack 28 = .ok (.iload_n 3, 1) := by decide +kernel
theorem dX12_unpack_29 : decode cX12_unpack 29 = .ok (.aload_n 1, 1) := by decide +kernel
theorem dX12_unpack_30 : decode cX12_unpack 30 = .ok (.iload_n 2, 1) := by decide +kernel
theorem dX12_unpack_31 : decode cX12_unpack 31 = .ok (.iconst 2, 1) := by decide +kernel
theorem dX12_unpack_32 : decode cX12_unpack 32 = .ok (.iadd, 1) := by decide +kernel
theorem dX12_unpack_33 : decode cX12_unpack 33 = .ok (.iload_n 3, 1) := by decide +kernel
theorem dX12_unpack_34 : decode cX12_unpack 34 = .ok (.iadd, 1) := by decide +kernel
theorem dX12_unpack_35 : decode cX12_unpack 35 = .ok (.iaload, 1) := by decide +kernel
theorem dX12_unpack_36 : decode cX12_unpack 36 = .ok (.iastore, 1) := by decide +kernel
theorem dX12_unpack_37 : decode cX12_unpack 37 = .ok (.aload_n 0, 1) := by decide +kernel
theorem dX12_unpack_38 : decode cX12_unpack 38 = .ok (.getfield 90, 3) := by decide +kernel
theorem dX12_unpack_41 : decode cX12_unpack 41 = .ok (.iload_n 3, 1) := by decide +kernel
theorem dX12_unpack_42 : decode cX12_unpack 42 = .ok (.aload_n 1, 1) := by decide +kernel
theorem dX12_unpack_43 : decode cX12_unpack 43 = .ok (.iload_n 2, 1) := by decide +kernel
theorem dX12_unpack_44 : decode cX12_unpack 44 = .ok (.iconst 2, 1) := by decide +kernel
theorem dX12_unpack_45 : decode cX12_unpack 45 = .ok (.iadd, 1) := by decide +kernel
theorem dX12_unpack_46 : decode cX12_unpack 46 = .ok (.bipush 6, 2) := by decide +kernel
theorem dX12_unpack_48 : decode cX12_unpack 48 = .ok (.iadd, 1) := by decide +kernel
theorem dX12_unpack_49 : decode cX12_unpack 49 = .ok (.iload_n 3, 1) := by decide +kernel
theorem dX12_unpack_50 : decode cX12_unpack 50 = .ok (.iadd, 1) := by decide +kernel
theorem dX12_unpack_51 : decode cX12_unpack 51 = .ok (.iaload, 1) := by decide +kernel
theorem dX12_unpack_52 : decode cX12_unpack 52 = .ok (.iastore, 1) := by decide +kernel
theorem dX12_unpack_53 : decode cX12_unpack 53 = .ok (.aload_n 0, 1) := by decide +kernel
theorem dX12_unpack_54 : decode cX12_unpack 54 = .ok (.getfield 92, 3) := by decide +kernel
theorem dX12_unpack_57 : decode cX12_unpack 57 = .ok (.iload_n 3, 1) := by decide +kernel
theorem dX12_unpack_58 : decode cX12_unpack 58 = .ok (.aload_n 1, 1) := by decide +kernel
theorem dX12_unpack_59 : decode cX12_unpack 59 = .ok (.iload_n 2, 1) := by decide +kernel
theorem dX12_unpack_60 : decode cX12_unpack 60 = .ok (.iconst 2, 1) := by decide +kernel
theorem dX12_unpack_61 : decode cX12_unpack 61 = .ok (.iadd, 1) := by decide +kernel
theorem dX12_unpack_62 : decode cX12_unpack 62 = .ok (.bipush 12, 2) := by decide +kernel
theorem dX12_unpack_64 : decode cX12_unpack 64 = .ok (.iadd, 1) := by decide +kernel
theorem dX12_unpack_65 : decode cX12_unpack 65 = .ok (.iload_n 3, 1) := by decide +kernel
theorem dX12_unpack_66 : decode cX12_unpack 66 = .ok (.iadd, 1) := by decide +kernel
theorem dX12_unpack_67 : decode cX12_unpack 67 = .ok (.iaload, 1) := by decide +kernel
theorem dX12_unpack_68 : decode cX12_unpack 68 = .ok (.iastore, 1) := by decide +kernel
theorem dX12_unpack_69 : decode cX12_unpack 69 = .ok (.aload_n 0, 1) := by decide +kernel
theorem dX12_unpack_70 : decode cX12_unpack 70 = .ok (.getfield 95, 3) := by decide +kernel
theorem dX12_unpack_73 : decode cX12_unpack 73 = .ok (.iload_n 3, 1) := by decide +kernel
theorem dX12_unpack_74 : decode cX12_unpack 74 = .ok (.aload_n 1, 1) := by decide +kernel
theorem dX12_unpack_75 : decode cX12_unpack 75 = .ok (.iload_n 2, 1) := by decide +kernel
theorem dX12_unpack_76 : decode cX12_unpack 76 = .ok (.iconst 2, 1) := by decide +kernel
theorem dX12_unpack_77 : decode cX12_unpack 77 = .ok (.iadd, 1) := by decide +kernel
theorem dX12_unpack_78 : decode cX12_unpack 78 = .ok (.bipush 18, 2) := by decide +kernel
theorem dX12_unpack_80 : decode cX12_unpack 80 = .ok (.iadd, 1) := by decide +kernel
theorem dX12_unpack_81 : decode cX12_unpack 81 = .ok (.iload_n 3, 1) := by decide +kernel
theorem dX12_unpack_82 : decode cX12_unpack 82 = .ok (.iadd, 1) := by decide +kernel
theorem dX12_unpack_83 : decode cX12_unpack 83 = .ok (.iaload, 1) := by decide +kernel
theorem dX12_unpack_84 : decode cX12_unpack 84 = .ok (.iastore, 1) := by decide +kernel
theorem dX12_unpack_85 : decode cX12_unpack 85 = .ok (.iinc 3 1, 3) := by decide +kernel
theorem dX12_unpack_88 : decode cX12_unpack 88 = .ok (.goto (-70), 3) := by decide +kernel
theorem dX12_unpack_91 : decode cX12_unpack 91 = .ok (.return_, 1) := by decide +kernel
theorem dX12_wetOf_0 : decode cX12_wetOf 0 = .ok (.aload_n 0, 1) := by decide +kernel
theorem dX12_wetOf_1 : decode cX12_wetOf 1 = .ok (.getfield 101, 3) := by decide +kernel
theorem dX12_wetOf_4 : decode cX12_wetOf 4 = .ok (.iconst (-1), 1) := by decide +kernel
theorem dX12_wetOf_5 : decode cX12_wetOf 5 = .ok (.if_icmp .eq 10, 3) := by decide +kernel
theorem dX12_wetOf_8 : decode cX12_wetOf 8 = .ok (.aload_n 0, 1) := by decide +kernel
theorem dX12_wetOf_9 : decode cX12_wetOf 9 = .ok (.getfield 101, 3) := by decide +kernel
theorem dX12_wetOf_12 : decode cX12_wetOf 12 = .ok (.goto 32, 3) := by decide +kernel
theorem dX12_wetOf_15 : decode cX12_wetOf 15 = .ok (.aload_n 0, 1) := by decide +kernel
theorem dX12_wetOf_16 : decode cX12_wetOf 16 = .ok (.getfield 42, 3) := by decide +kernel
theorem dX12_wetOf_19 : decode cX12_wetOf 19 = .ok (.iconst 3, 1) := by decide +kernel
theorem dX12_wetOf_20 : decode cX12_wetOf 20 = .ok (.iaload, 1) := by decide +kernel
theorem dX12_wetOf_21 : decode cX12_wetOf 21 = .ok (.ifCond .ne 7, 3) := by decide +kernel
theorem dX12_wetOf_24 : decode cX12_wetOf 24 = .ok (.iconst 5, 1) := by decide +kernel
theorem dX12_wetOf_25 : decode cX12_wetOf 25 = .ok (.goto 19, 3) := by decide +kernel
theorem dX12_wetOf_28 : decode cX12_wetOf 28 = .ok (.aload_n 0, 1) := by decide +kernel
theorem dX12_wetOf_29 : decode cX12_wetOf 29 = .ok (.getfield 67, 3) := by decide +kernel
theorem dX12_wetOf_32 : decode cX12_wetOf 32 = .ok (.aload_n 0, 1) := by decide +kernel
theorem dX12_wetOf_33 : decode cX12_wetOf 33 = .ok (.getfield 321, 3) := by decide +kernel
theorem dX12_wetOf_36 : decode cX12_wetOf 36 = .ok (.aload_n 0, 1) := by decide +kernel
theorem dX12_wetOf_37 : decode cX12_wetOf 37 = .ok (.getfield 42, 3) := by decide +kernel
theorem dX12_wetOf_40 : decode cX12_wetOf 40 = .ok (.iconst 3, 1) := by decide +kernel
theorem dX12_wetOf_41 : decode cX12_wetOf 41 = .ok (.iaload, 1) := by decide +kernel
theorem dX12_wetOf_42 : decode cX12_wetOf 42 = .ok (.irem, 1) := by decide +kernel
theorem dX12_wetOf_43 : decode cX12_wetOf 43 = .ok (.iaload, 1) := by decide +kernel
theorem dX12_wetOf_44 : decode cX12_wetOf 44 = .ok (.ireturn, 1) := by decide +kernel
theorem dX12_comesAt_0 : decode cX12_comesAt 0 = .ok (.iload_n 2, 1) := by decide +kernel
theorem dX12_comesAt_1 : decode cX12_comesAt 1 = .ok (.aload_n 0, 1) := by decide +kernel
theorem dX12_comesAt_2 : decode cX12_comesAt 2 = .ok (.getfield 50, 3) := by decide +kernel
theorem dX12_comesAt_5 : decode cX12_comesAt 5 = .ok (.iload_n 1, 1) := by decide +kernel
theorem dX12_comesAt_6 : decode cX12_comesAt 6 = .ok (.iaload, 1) := by decide +kernel
theorem dX12_comesAt_7 : decode cX12_comesAt 7 = .ok (.iadd, 1) := by decide +kernel
theorem dX12_comesAt_8 : decode cX12_comesAt 8 = .ok (.aload_n 0, 1) := by decide +kernel
theorem dX12_comesAt_9 : decode cX12_comesAt 9 = .ok (.getfield 48, 3) := by decide +kernel
theorem dX12_comesAt_12 : decode cX12_comesAt 12 = .ok (.iload_n 1, 1) := by decide +kernel
theorem dX12_comesAt_13 : decode cX12_comesAt 13 = .ok (.iaload, 1) := by decide +kernel
theorem dX12_comesAt_14 : decode cX12_comesAt 14 = .ok (.irem, 1) := by decide +kernel
theorem dX12_comesAt_15 : decode cX12_comesAt 15 = .ok (.ifCond .ne 7, 3) := by decide +kernel
theorem dX12_comesAt_18 : decode cX12_comesAt 18 = .ok (.iconst 1, 1) := by decide +kernel
theorem dX12_comesAt_19 : decode cX12_comesAt 19 = .ok (.goto 4, 3) := by decide +kernel
theorem dX12_comesAt_22 : decode cX12_comesAt 22 = .ok (.iconst 0, 1) := by decide +kernel
theorem dX12_comesAt_23 : decode cX12_comesAt 23 = .ok (.ireturn, 1) := by decide +kernel
theorem dX12_drippingNow_0 : decode cX12_drippingNow 0 = .ok (.iconst 0, 1) := by decide +kernel
theorem dX12_drippingNow_1 : decode cX12_drippingNow 1 = .ok (.istore_n 1, 1) := by decide +kernel
theorem dX12_drippingNow_2 : decode cX12_drippingNow 2 = .ok (.iconst 0, 1) := by decide +kernel
theorem dX12_drippingNow_3 : decode cX12_drippingNow 3 = .ok (.istore_n 2, 1) := by decide +kernel
theorem dX12_drippingNow_4 : decode cX12_drippingNow 4 = .ok (.iload_n 2, 1) := by decide +kernel
theorem dX12_drippingNow_5 : decode cX12_drippingNow 5 = .ok (.aload_n 0, 1) := by decide +kernel
theorem dX12_drippingNow_6 : decode cX12_drippingNow 6 = .ok (.getfield 42, 3) := by decide +kernel
theorem dX12_drippingNow_9 : decode cX12_drippingNow 9 = .ok (.iconst 0, 1) := by decide +kernel
theorem dX12_drippingNow_10 : decode cX12_drippingNow 10 = .ok (.iaload, 1) := by decide +kernel
theorem dX12_drippingNow_11 : decode cX12_drippingNow 11 = .ok (.if_icmp .ge 38, 3) := by decide +kernel
theorem dX12_drippingNow_14 : decode cX12_drippingNow 14 = .ok (.aload_n 0, 1) := by decide +kernel
theorem dX12_drippingNow_15 : decode cX12_drippingNow 15 = .ok (.invokevirtual 336, 3) := by decide +kernel
theorem dX12_drippingNow_18 : decode cX12_drippingNow 18 = .ok (.ifCond .le 31, 3) := by decide +kernel
theorem dX12_drippingNow_21 : decode cX12_drippingNow 21 = .ok (.iload_n 1, 1) := by decide +kernel
theorem dX12_drippingNow_22 : decode cX12_drippingNow 22 = .ok (.aload_n 0, 1) := by decide +kernel
theorem dX12_drippingNow_23 : decode cX12_drippingNow 23 = .ok (.iload_n 2, 1) := by decide +kernel
theorem dX12_drippingNow_24 : decode cX12_drippingNow 24 = .ok (.aload_n 0, 1) := by decide +kernel
theorem dX12_drippingNow_25 : decode cX12_drippingNow 25 = .ok (.getfield 321, 3) := by decide +kernel
theorem dX12_drippingNow_28 : decode cX12_drippingNow 28 = .ok (.invokevirtual 339, 3) := by decide +kernel
theorem dX12_drippingNow_31 : decode cX12_drippingNow 31 = .ok (.ifCond .eq 9, 3) := by decide +kernel
theorem dX12_drippingNow_34 : decode cX12_drippingNow 34 = .ok (.iconst 1, 1) := by decide +kernel
theorem dX12_drippingNow_35 : decode cX12_drippingNow 35 = .ok (.iload_n 2, 1) := by decide +kernel
theorem dX12_drippingNow_36 : decode cX12_drippingNow 36 = .ok (.ishl, 1) := by decide +kernel
theorem dX12_drippingNow_37 : decode cX12_drippingNow 37 = .ok (.goto 4, 3) := by decide +kernel
theorem dX12_drippingNow_40 : decode cX12_drippingNow 40 = .ok (.iconst 0, 1) := by decide +kernel
theorem dX12_drippingNow_41 : decode cX12_drippingNow 41 = .ok (.ior, 1) := by decide +kernel
theorem dX12_drippingNow_42 : decode cX12_drippingNow 42 = .ok (.istore_n 1, 1) := by decide +kernel
theorem dX12_drippingNow_43 : decode cX12_drippingNow 43 = .ok (.iinc 2 1, 3) := by decide +kernel
theorem dX12_drippingNow_46 : decode cX12_drippingNow 46 = .ok (.goto (-42), 3) := by decide +kernel
theorem dX12_drippingNow_49 : decode cX12_drippingNow 49 = .ok (.iload_n 1, 1) := by decide +kernel
theorem dX12_drippingNow_50 : decode cX12_drippingNow 50 = .ok (.aload_n 0, 1) := by decide +kernel
theorem dX12_drippingNow_51 : decode cX12_drippingNow 51 = .ok (.getfield 324, 3) := by decide +kernel
theorem dX12_drippingNow_54 : decode cX12_drippingNow 54 = .ok (.iconst (-1), 1) := by decide +kernel
theorem dX12_drippingNow_55 : decode cX12_drippingNow 55 = .ok (.ixor, 1) := by decide +kernel
theorem dX12_drippingNow_56 : decode cX12_drippingNow 56 = .ok (.iand, 1) := by decide +kernel
theorem dX12_drippingNow_57 : decode cX12_drippingNow 57 = .ok (.ireturn, 1) := by decide +kernel
theorem dX12_hirerOf_0 : decode cX12_hirerOf 0 = .ok (.iconst 0, 1) := by decide +kernel
theorem dX12_hirerOf_1 : decode cX12_hirerOf 1 = .ok (.istore_n 2, 1) := by decide +kernel
theorem dX12_hirerOf_2 : decode cX12_hirerOf 2 = .ok (.iload_n 2, 1) := by decide +kernel
theorem dX12_hirerOf_3 : decode cX12_hirerOf 3 = .ok (.aload_n 0, 1) := by decide +kernel
theorem dX12_hirerOf_4 : decode cX12_hirerOf 4 = .ok (.getfield 42, 3) := by decide +kernel
theorem dX12_hirerOf_7 : decode cX12_hirerOf 7 = .ok (.iconst 1, 1) := by decide +kernel
theorem dX12_hirerOf_8 : decode cX12_hirerOf 8 = .ok (.iaload, 1) := by decide +kernel
theorem dX12_hirerOf_9 : decode cX12_hirerOf 9 = .ok (.if_icmp .ge 21, 3) := by decide +kernel
theorem dX12_hirerOf_12 : decode cX12_hirerOf 12 = .ok (.aload_n 0, 1) := by decide +kernel
theorem dX12_hirerOf_13 : decode cX12_hirerOf 13 = .ok (.getfield 95, 3) := by decide +kernel
theorem dX12_hirerOf_16 : decode cX12_hirerOf 16 = .ok (.iload_n 2, 1) := by decide +kernel
theorem dX12_hirerOf_17 : decode cX12_hirerOf 17 = .ok (.iaload, 1) := by decide +kernel
theorem dX12_hirerOf_18 : decode cX12_hirerOf 18 = .ok (.iload_n 1, 1) := by decide +kernel
theorem dX12_hirerOf_19 : decode cX12_hirerOf 19 = .ok (.if_icmp .ne 5, 3) := by decide +kernel
theorem dX12_hirerOf_22 : decode cX12_hirerOf 22 = .ok (.iload_n 2, 1) := by decide +kernel
theorem dX12_hirerOf_23 : decode cX12_hirerOf 23 = .ok (.ireturn, 1) := by decide +kernel
theorem dX12_hirerOf_24 : decode cX12_hirerOf 24 = .ok (.iinc 2 1, 3) := by decide +kernel
theorem dX12_hirerOf_27 : decode cX12_hirerOf 27 = .ok (.goto (-25), 3) := by decide +kernel
theorem dX12_hirerOf_30 : decode cX12_hirerOf 30 = .ok (.iconst (-1), 1) := by decide +kernel
theorem dX12_hirerOf_31 : decode cX12_hirerOf 31 = .ok (.ireturn, 1) := by decide +kernel
theorem dX12_hiredNow_0 : decode cX12_hiredNow 0 = .ok (.iconst 0, 1) := by decide +kernel
theorem dX12_hiredNow_1 : decode cX12_hiredNow 1 = .ok (.istore_n 1, 1) := by decide +kernel
theorem dX12_hiredNow_2 : decode cX12_hiredNow 2 = .ok (.iconst 0, 1) := by decide +kernel
theorem dX12_hiredNow_3 : decode cX12_hiredNow 3 = .ok (.istore_n 2, 1) := by decide +kernel
theorem dX12_hiredNow_4 : decode cX12_hiredNow 4 = .ok (.iload_n 2, 1) := by decide +kernel
theorem dX12_hiredNow_5 : decode cX12_hiredNow 5 = .ok (.aload_n 0, 1) := by decide +kernel
theorem dX12_hiredNow_6 : decode cX12_hiredNow 6 = .ok (.getfield 42, 3) := by decide +kernel
theorem dX12_hiredNow_9 : decode cX12_hiredNow 9 = .ok (.iconst 1, 1) := by decide +kernel
theorem dX12_hiredNow_10 : decode cX12_hiredNow 10 = .ok (.iaload, 1) := by decide +kernel
theorem dX12_hiredNow_11 : decode cX12_hiredNow 11 = .ok (.if_icmp .ge 34, 3) := by decide +kernel
theorem dX12_hiredNow_14 : decode cX12_hiredNow 14 = .ok (.iload_n 1, 1) := by decide +kernel
theorem dX12_hiredNow_15 : decode cX12_hiredNow 15 = .ok (.aload_n 0, 1) := by decide +kernel
theorem dX12_hiredNow_16 : decode cX12_hiredNow 16 = .ok (.getfield 95, 3) := by decide +kernel
theorem dX12_hiredNow_19 : decode cX12_hiredNow 19 = .ok (.iload_n 2, 1) := by decide +kernel
theorem dX12_hiredNow_20 : decode cX12_hiredNow 20 = .ok (.iaload, 1) := by decide +kernel
theorem dX12_hiredNow_21 : decode cX12_hiredNow 21 = .ok (.iconst (-1), 1) := by decide +kernel
theorem dX12_hiredNow_22 : decode cX12_hiredNow 22 = .ok (.if_icmp .ne 7, 3) := by decide +kernel
theorem dX12_hiredNow_25 : decode cX12_hiredNow 25 = .ok (.iconst 0, 1) := by decide +kernel
theorem dX12_hiredNow_26 : decode cX12_hiredNow 26 = .ok (.goto 11, 3) := by decide +kernel
theorem dX12_hiredNow_29 : decode cX12_hiredNow 29 = .ok (.iconst 1, 1) := by decide +kernel
theorem dX12_hiredNow_30 : decode cX12_hiredNow 30 = .ok (.aload_n 0, 1) := by decide +kernel
theorem dX12_hiredNow_31 : decode cX12_hiredNow 31 = .ok (.getfield 95, 3) := by decide +kernel
theorem dX12_hiredNow_34 : decode cX12_hiredNow 34 = .ok (.iload_n 2, 1) := by decide +kernel
theorem dX12_hiredNow_35 : decode cX12_hiredNow 35 = .ok (.iaload, 1) := by decide +kernel
theorem dX12_hiredNow_36 : decode cX12_hiredNow 36 = .ok (.ishl, 1) := by decide +kernel
theorem dX12_hiredNow_37 : decode cX12_hiredNow 37 = .ok (.ior, 1) := by decide +kernel
theorem dX12_hiredNow_38 : decode cX12_hiredNow 38 = .ok (.istore_n 1, 1) := by decide +kernel
theorem dX12_hiredNow_39 : decode cX12_hiredNow 39 = .ok (.iinc 2 1, 3) := by decide +kernel
theorem dX12_hiredNow_42 : decode cX12_hiredNow 42 = .ok (.goto (-38), 3) := by decide +kernel
theorem dX12_hiredNow_45 : decode cX12_hiredNow 45 = .ok (.iload_n 1, 1) := by decide +kernel
theorem dX12_hiredNow_46 : decode cX12_hiredNow 46 = .ok (.ireturn, 1) := by decide +kernel
theorem dX12_reckon_0 : decode cX12_reckon 0 = .ok (.iload_n 0, 1) := by decide +kernel
theorem dX12_reckon_1 : decode cX12_reckon 1 = .ok (.tableswitch 103 (-26) (-20) #[89, 78, 67, 55, 51, 47, 43], 43) := by decide +kernel
theorem dX12_reckon_44 : decode cX12_reckon 44 = .ok (.iload_n 1, 1) := by decide +kernel
theorem dX12_reckon_45 : decode cX12_reckon 45 = .ok (.iload_n 2, 1) := by decide +kernel
theorem dX12_reckon_46 : decode cX12_reckon 46 = .ok (.iadd, 1) := by decide +kernel
theorem dX12_reckon_47 : decode cX12_reckon 47 = .ok (.ireturn, 1) := by decide +kernel
theorem dX12_reckon_48 : decode cX12_reckon 48 = .ok (.iload_n 1, 1) := by decide +kernel
theorem dX12_reckon_49 : decode cX12_reckon 49 = .ok (.iload_n 2, 1) := by decide +kernel
theorem dX12_reckon_50 : decode cX12_reckon 50 = .ok (.isub, 1) := by decide +kernel
theorem dX12_reckon_51 : decode cX12_reckon 51 = .ok (.ireturn, 1) := by decide +kernel
theorem dX12_reckon_52 : decode cX12_reckon 52 = .ok (.iload_n 1, 1) := by decide +kernel
theorem dX12_reckon_53 : decode cX12_reckon 53 = .ok (.iload_n 2, 1) := by decide +kernel
theorem dX12_reckon_54 : decode cX12_reckon 54 = .ok (.imul, 1) := by decide +kernel
theorem dX12_reckon_55 : decode cX12_reckon 55 = .ok (.ireturn, 1) := by decide +kernel
theorem dX12_reckon_56 : decode cX12_reckon 56 = .ok (.iload_n 2, 1) := by decide +kernel
theorem dX12_reckon_57 : decode cX12_reckon 57 = .ok (.ifCond .ne 7, 3) := by decide +kernel
theorem dX12_reckon_60 : decode cX12_reckon 60 = .ok (.iconst 0, 1) := by decide +kernel
theorem dX12_reckon_61 : decode cX12_reckon 61 = .ok (.goto 6, 3) := by decide +kernel
theorem dX12_reckon_64 : decode cX12_reckon 64 = .ok (.iload_n 1, 1) := by decide +kernel
theorem dX12_reckon_65 : decode cX12_reckon 65 = .ok (.iload_n 2, 1) := by decide +kernel
theorem dX12_reckon_66 : decode cX12_reckon 66 = .ok (.idiv, 1) := by decide +kernel
theorem dX12_reckon_67 : decode cX12_reckon 67 = .ok (.ireturn, 1) := by decide +kernel
theorem dX12_reckon_68 : decode cX12_reckon 68 = .ok (.iload_n 1, 1) := by decide +kernel
theorem dX12_reckon_69 : decode cX12_reckon 69 = .ok (.iload_n 2, 1) := by decide +kernel
theorem dX12_reckon_70 : decode cX12_reckon 70 = .ok (.if_icmp .ge 7, 3) := by decide +kernel
theorem dX12_reckon_73 : decode cX12_reckon 73 = .ok (.iconst 1, 1) := by decide +kernel
theorem dX12_reckon_74 : decode cX12_reckon 74 = .ok (.goto 4, 3) := by decide +kernel
theorem dX12_reckon_77 : decode cX12_reckon 77 = .ok (.iconst 0, 1) := by decide +kernel
theorem dX12_reckon_78 : decode cX12_reckon 78 = .ok (.ireturn, 1) := by decide +kernel
theorem dX12_reckon_79 : decode cX12_reckon 79 = .ok (.iload_n 1, 1) := by decide +kernel
theorem dX12_reckon_80 : decode cX12_reckon 80 = .ok (.iload_n 2, 1) := by decide +kernel
theorem dX12_reckon_81 : decode cX12_reckon 81 = .ok (.if_icmp .ne 7, 3) := by decide +kernel
theorem dX12_reckon_84 : decode cX12_reckon 84 = .ok (.iconst 1, 1) := by decide +kernel
theorem dX12_reckon_85 : decode cX12_reckon 85 = .ok (.goto 4, 3) := by decide +kernel
theorem dX12_reckon_88 : decode cX12_reckon 88 = .ok (.iconst 0, 1) := by decide +kernel
theorem dX12_reckon_89 : decode cX12_reckon 89 = .ok (.ireturn, 1) := by decide +kernel
theorem dX12_reckon_90 : decode cX12_reckon 90 = .ok (.iload_n 1, 1) := by decide +kernel
theorem dX12_reckon_91 : decode cX12_reckon 91 = .ok (.ifCond .eq 11, 3) := by decide +kernel
theorem dX12_reckon_94 : decode cX12_reckon 94 = .ok (.iload_n 2, 1) := by decide +kernel
theorem dX12_reckon_95 : decode cX12_reckon 95 = .ok (.ifCond .eq 7, 3) := by decide +kernel
theorem dX12_reckon_98 : decode cX12_reckon 98 = .ok (.iconst 1, 1) := by decide +kernel
theorem dX12_reckon_99 : decode cX12_reckon 99 = .ok (.goto 4, 3) := by decide +kernel
theorem dX12_reckon_102 : decode cX12_reckon 102 = .ok (.iconst 0, 1) := by decide +kernel
theorem dX12_reckon_103 : decode cX12_reckon 103 = .ok (.ireturn, 1) := by decide +kernel
theorem dX12_reckon_104 : decode cX12_reckon 104 = .ok (.iload_n 1, 1) := by decide +kernel
theorem dX12_reckon_105 : decode cX12_reckon 105 = .ok (.ifCond .ne 7, 3) := by decide +kernel
theorem dX12_reckon_108 : decode cX12_reckon 108 = .ok (.iload_n 2, 1) := by decide +kernel
theorem dX12_reckon_109 : decode cX12_reckon 109 = .ok (.ifCond .eq 7, 3) := by decide +kernel
theorem dX12_reckon_112 : decode cX12_reckon 112 = .ok (.iconst 1, 1) := by decide +kernel
theorem dX12_reckon_113 : decode cX12_reckon 113 = .ok (.goto 4, 3) := by decide +kernel
theorem dX12_reckon_116 : decode cX12_reckon 116 = .ok (.iconst 0, 1) := by decide +kernel
theorem dX12_reckon_117 : decode cX12_reckon 117 = .ok (.ireturn, 1) := by decide +kernel
theorem dX12_valueNow_0 : decode cX12_valueNow 0 = .ok (.iconst 0, 1) := by decide +kernel
theorem dX12_valueNow_1 : decode cX12_valueNow 1 = .ok (.istore_n 3, 1) := by decide +kernel
theorem dX12_valueNow_2 : decode cX12_valueNow 2 = .ok (.iconst 0, 1) := by decide +kernel
theorem dX12_valueNow_3 : decode cX12_valueNow 3 = .ok (.istore 4, 2) := by decide +kernel
theorem dX12_valueNow_5 : decode cX12_valueNow 5 = .ok (.iload 4, 2) := by decide +kernel
theorem dX12_valueNow_7 : decode cX12_valueNow 7 = .ok (.iload_n 2, 1) := by decide +kernel
theorem dX12_valueNow_8 : decode cX12_valueNow 8 = .ok (.if_icmp .ge 117, 3) := by decide +kernel
theorem dX12_valueNow_11 : decode cX12_valueNow 11 = .ok (.aload_n 1, 1) := by decide +kernel
theorem dX12_valueNow_12 : decode cX12_valueNow 12 = .ok (.iload 4, 2) := by decide +kernel
theorem dX12_valueNow_14 : decode cX12_valueNow 14 = .ok (.iaload, 1) := by decide +kernel
theorem dX12_valueNow_15 : decode cX12_valueNow 15 = .ok (.istore 5, 2) := by decide +kernel
theorem dX12_valueNow_17 : decode cX12_valueNow 17 = .ok (.iload 5, 2) := by decide +kernel
theorem dX12_valueNow_19 : decode cX12_valueNow 19 = .ok (.bipush (-20), 2) := by decide +kernel
theorem dX12_valueNow_21 : decode cX12_valueNow 21 = .ok (.if_icmp .le 34, 3) := by decide +kernel
theorem dX12_valueNow_24 : decode cX12_valueNow 24 = .ok (.aload_n 0, 1) := by decide +kernel
theorem dX12_valueNow_25 : decode cX12_valueNow 25 = .ok (.getfield 107, 3) := by decide +kernel
theorem dX12_valueNow_28 : decode cX12_valueNow 28 = .ok (.iload_n 3, 1) := by decide +kernel
theorem dX12_valueNow_29 : decode cX12_valueNow 29 = .ok (.iload 5, 2) := by decide +kernel
theorem dX12_valueNow_31 : decode cX12_valueNow 31 = .ok (.ifCond .lt 8, 3) := by decide +kernel
theorem dX12_valueNow_34 : decode cX12_valueNow 34 = .ok (.iload 5, 2) := by decide +kernel
theorem dX12_valueNow_36 : decode cX12_valueNow 36 = .ok (.goto 12, 3) := by decide +kernel
theorem dX12_valueNow_39 : decode cX12_valueNow 39 = .ok (.aload_n 0, 1) := by decide +kernel
theorem dX12_valueNow_40 : decode cX12_valueNow 40 = .ok (.getfield 104, 3) := by decide +kernel
theorem dX12_valueNow_43 : decode cX12_valueNow 43 = .ok (.iconst (-1), 1) := by decide +kernel
theorem dX12_valueNow_44 : decode cX12_valueNow 44 = .ok (.iload 5, 2) := by decide +kernel
theorem dX12_valueNow_46 : decode cX12_valueNow 46 = .ok (.isub, 1) := by decide +kernel
theorem dX12_valueNow_47 : decode cX12_valueNow 47 = .ok (.iaload, 1) := by decide +kernel
theorem dX12_valueNow_48 : decode cX12_valueNow 48 = .ok (.iastore, 1) := by decide +kernel
theorem dX12_valueNow_49 : decode cX12_valueNow 49 = .ok (.iinc 3 1, 3) := by decide +kernel
theorem dX12_valueNow_52 : decode cX12_valueNow 52 = .ok (.goto 67, 3) := by decide +kernel
theorem dX12_valueNow_55 : decode cX12_valueNow 55 = .ok (.iload 5, 2) := by decide +kernel
theorem dX12_valueNow_57 : decode cX12_valueNow 57 = .ok (.bipush (-28), 2) := by decide +kernel
theorem dX12_valueNow_59 : decode cX12_valueNow 59 = .ok (.if_icmp .ne 30, 3) := by decide +kernel
theorem dX12_valueNow_62 : decode cX12_valueNow 62 = .ok (.aload_n 0, 1) := by decide +kernel
theorem dX12_valueNow_63 : decode cX12_valueNow 63 = .ok (.getfield 107, 3) := by decide +kernel
theorem dX12_valueNow_66 : decode cX12_valueNow 66 = .ok (.iload_n 3, 1) := by decide +kernel
theorem dX12_valueNow_67 : decode cX12_valueNow 67 = .ok (.iconst 1, 1) := by decide +kernel
theorem dX12_valueNow_68 : decode cX12_valueNow 68 = .ok (.isub, 1) := by decide +kernel
theorem dX12_valueNow_69 : decode cX12_valueNow 69 = .ok (.aload_n 0, 1) := by decide +kernel
theorem dX12_valueNow_70 : decode cX12_valueNow 70 = .ok (.getfield 107, 3) := by decide +kernel
theorem dX12_valueNow_73 : decode cX12_valueNow 73 = .ok (.iload_n 3, 1) := by decide +kernel
theorem dX12_valueNow_74 : decode cX12_valueNow 74 = .ok (.iconst 1, 1) := by decide +kernel
theorem dX12_valueNow_75 : decode cX12_valueNow 75 = .ok (.isub, 1) := by decide +kernel
theorem dX12_valueNow_76 : decode cX12_valueNow 76 = .ok (.iaload, 1) := by decide +kernel
theorem dX12_valueNow_77 : decode cX12_valueNow 77 = .ok (.ifCond .eq 7, 3) := by decide +kernel
theorem dX12_valueNow_80 : decode cX12_valueNow 80 = .ok (.iconst 0, 1) := by decide +kernel
theorem dX12_valueNow_81 : decode cX12_valueNow 81 = .ok (.goto 4, 3) := by decide +kernel
theorem dX12_valueNow_84 : decode cX12_valueNow 84 = .ok (.iconst 1, 1) := by decide +kernel
theorem dX12_valueNow_85 : decode cX12_valueNow 85 = .ok (.iastore, 1) := by decide +kernel
theorem dX12_valueNow_86 : decode cX12_valueNow 86 = .ok (.goto 33, 3) := by decide +kernel
theorem dX12_valueNow_89 : decode cX12_valueNow 89 = .ok (.iinc 3 (-1), 3) := by decide +kernel
theorem dX12_valueNow_92 : decode cX12_valueNow 92 = .ok (.aload_n 0, 1) := by decide +kernel
theorem dX12_valueNow_93 : decode cX12_valueNow 93 = .ok (.getfield 107, 3) := by decide +kernel
theorem dX12_valueNow_96 : decode cX12_valueNow 96 = .ok (.iload_n 3, 1) := by decide +kernel
theorem dX12_valueNow_97 : decode cX12_valueNow 97 = .ok (.iconst 1, 1) := by decide +kernel
theorem dX12_valueNow_98 : decode cX12_valueNow 98 = .ok (.isub, 1) := by decide +kernel
theorem dX12_valueNow_99 : decode cX12_valueNow 99 = .ok (.iload 5, 2) := by decide +kernel
theorem dX12_valueNow_101 : decode cX12_valueNow 101 = .ok (.aload_n 0, 1) := by decide +kernel
theorem dX12_valueNow_102 : decode cX12_valueNow 102 = .ok (.getfield 107, 3) := by decide +kernel
theorem dX12_valueNow_105 : decode cX12_valueNow 105 = .ok (.iload_n 3, 1) := by decide +kernel
theorem dX12_valueNow_106 : decode cX12_valueNow 106 = .ok (.iconst 1, 1) := by decide +kernel
theorem dX12_valueNow_107 : decode cX12_valueNow 107 = .ok (.isub, 1) := by decide +kernel
theorem dX12_valueNow_108 : decode cX12_valueNow 108 = .ok (.iaload, 1) := by decide +kernel
theorem dX12_valueNow_109 : decode cX12_valueNow 109 = .ok (.aload_n 0, 1) := by decide +kernel
theorem dX12_valueNow_110 : decode cX12_valueNow 110 = .ok (.getfield 107, 3) := by decide +kernel
theorem dX12_valueNow_113 : decode cX12_valueNow 113 = .ok (.iload_n 3, 1) := by decide +kernel
theorem dX12_valueNow_114 : decode cX12_valueNow 114 = .ok (.iaload, 1) := by decide +kernel
theorem dX12_valueNow_115 : decode cX12_valueNow 115 = .ok (.invokestatic 342, 3) := by decide +kernel
theorem dX12_valueNow_118 : decode cX12_valueNow 118 = .ok (.iastore, 1) := by decide +kernel
theorem dX12_valueNow_119 : decode cX12_valueNow 119 = .ok (.iinc 4 1, 3) := by decide +kernel
theorem dX12_valueNow_122 : decode cX12_valueNow 122 = .ok (.goto (-117), 3) := by decide +kernel
theorem dX12_valueNow_125 : decode cX12_valueNow 125 = .ok (.aload_n 0, 1) := by decide +kernel
theorem dX12_valueNow_126 : decode cX12_valueNow 126 = .ok (.getfield 107, 3) := by decide +kernel
theorem dX12_valueNow_129 : decode cX12_valueNow 129 = .ok (.iconst 0, 1) := by decide +kernel
theorem dX12_valueNow_130 : decode cX12_valueNow 130 = .ok (.iaload, 1) := by decide +kernel
theorem dX12_valueNow_131 : decode cX12_valueNow 131 = .ok (.ireturn, 1) := by decide +kernel
theorem dX12_ruleOf_0 : decode cX12_ruleOf 0 = .ok (.aload_n 0, 1) := by decide +kernel
theorem dX12_ruleOf_1 : decode cX12_ruleOf 1 = .ok (.getfield 104, 3) := by decide +kernel
theorem dX12_ruleOf_4 : decode cX12_ruleOf 4 = .ok (.iconst 0, 1) := by decide +kernel
theorem dX12_ruleOf_5 : decode cX12_ruleOf 5 = .ok (.aload_n 0, 1) := by decide +kernel
theorem dX12_ruleOf_6 : decode cX12_ruleOf 6 = .ok (.getfield 88, 3) := by decide +kernel
theorem dX12_ruleOf_9 : decode cX12_ruleOf 9 = .ok (.iload_n 3, 1) := by decide +kernel
theorem dX12_ruleOf_10 : decode cX12_ruleOf 10 = .ok (.iaload, 1) := by decide +kernel
theorem dX12_ruleOf_11 : decode cX12_ruleOf 11 = .ok (.iastore, 1) := by decide +kernel
theorem dX12_ruleOf_12 : decode cX12_ruleOf 12 = .ok (.aload_n 0, 1) := by decide +kernel
theorem dX12_ruleOf_13 : decode cX12_ruleOf 13 = .ok (.getfield 104, 3) := by decide +kernel
theorem dX12_ruleOf_16 : decode cX12_ruleOf 16 = .ok (.iconst 1, 1) := by decide +kernel
theorem dX12_ruleOf_17 : decode cX12_ruleOf 17 = .ok (.aload_n 0, 1) := by decide +kernel
theorem dX12_ruleOf_18 : decode cX12_ruleOf 18 = .ok (.getfield 90, 3) := by decide +kernel
theorem dX12_ruleOf_21 : decode cX12_ruleOf 21 = .ok (.iload_n 3, 1) := by decide +kernel
theorem dX12_ruleOf_22 : decode cX12_ruleOf 22 = .ok (.iaload, 1) := by decide +kernel
theorem dX12_ruleOf_23 : decode cX12_ruleOf 23 = .ok (.iastore, 1) := by decide +kernel
theorem dX12_ruleOf_24 : decode cX12_ruleOf 24 = .ok (.aload_n 0, 1) := by decide +kernel
theorem dX12_ruleOf_25 : decode cX12_ruleOf 25 = .ok (.getfield 104, 3) := by decide +kernel
theorem dX12_ruleOf_28 : decode cX12_ruleOf 28 = .ok (.iconst 2, 1) := by decide +kernel
theorem dX12_ruleOf_29 : decode cX12_ruleOf 29 = .ok (.aload_n 0, 1) := by decide +kernel
theorem dX12_ruleOf_30 : decode cX12_ruleOf 30 = .ok (.getfield 48, 3) := by decide +kernel
theorem dX12_ruleOf_33 : decode cX12_ruleOf 33 = .ok (.aload_n 0, 1) := by decide +kernel
theorem dX12_ruleOf_34 : decode cX12_ruleOf 34 = .ok (.getfield 95, 3) := by decide +kernel
theorem dX12_ruleOf_37 : decode cX12_ruleOf 37 = .ok (.iload_n 3, 1) := by decide +kernel
theorem dX12_ruleOf_38 : decode cX12_ruleOf 38 = .ok (.iaload, 1) := by decide +kernel
theorem dX12_ruleOf_39 : decode cX12_ruleOf 39 = .ok (.iaload, 1) := by decide +kernel
theorem dX12_ruleOf_40 : decode cX12_ruleOf 40 = .ok (.iastore, 1) := by decide +kernel
theorem dX12_ruleOf_41 : decode cX12_ruleOf 41 = .ok (.aload_n 0, 1) := by decide +kernel
theorem dX12_ruleOf_42 : decode cX12_ruleOf 42 = .ok (.getfield 104, 3) := by decide +kernel
theorem dX12_ruleOf_45 : decode cX12_ruleOf 45 = .ok (.iconst 3, 1) := by decide +kernel
theorem dX12_ruleOf_46 : decode cX12_ruleOf 46 = .ok (.aload_n 0, 1) := by decide +kernel
theorem dX12_ruleOf_47 : decode cX12_ruleOf 47 = .ok (.getfield 53, 3) := by decide +kernel
theorem dX12_ruleOf_50 : decode cX12_ruleOf 50 = .ok (.aload_n 0, 1) := by decide +kernel
theorem dX12_ruleOf_51 : decode cX12_ruleOf 51 = .ok (.getfield 95, 3) := by decide +kernel
theorem dX12_ruleOf_54 : decode cX12_ruleOf 54 = .ok (.iload_n 3, 1) := by decide +kernel
theorem dX12_ruleOf_55 : decode cX12_ruleOf 55 = .ok (.iaload, 1) := by decide +kernel
theorem dX12_ruleOf_56 : decode cX12_ruleOf 56 = .ok (.iaload, 1) := by decide +kernel
theorem dX12_ruleOf_57 : decode cX12_ruleOf 57 = .ok (.iastore, 1) := by decide +kernel
theorem dX12_ruleOf_58 : decode cX12_ruleOf 58 = .ok (.aload_n 0, 1) := by decide +kernel
theorem dX12_ruleOf_59 : decode cX12_ruleOf 59 = .ok (.getfield 104, 3) := by decide +kernel
theorem dX12_ruleOf_62 : decode cX12_ruleOf 62 = .ok (.iconst 4, 1) := by decide +kernel
theorem dX12_ruleOf_63 : decode cX12_ruleOf 63 = .ok (.aload_n 0, 1) := by decide +kernel
theorem dX12_ruleOf_64 : decode cX12_ruleOf 64 = .ok (.invokevirtual 336, 3) := by decide +kernel
theorem dX12_ruleOf_67 : decode cX12_ruleOf 67 = .ok (.iastore, 1) := by decide +kernel
theorem dX12_ruleOf_68 : decode cX12_ruleOf 68 = .ok (.aload_n 0, 1) := by decide +kernel
theorem dX12_ruleOf_69 : decode cX12_ruleOf 69 = .ok (.getfield 104, 3) := by decide +kernel
theorem dX12_ruleOf_72 : decode cX12_ruleOf 72 = .ok (.iconst 5, 1) := by decide +kernel
theorem dX12_ruleOf_73 : decode cX12_ruleOf 73 = .ok (.aload_n 0, 1) := by decide +kernel
theorem dX12_ruleOf_74 : decode cX12_ruleOf 74 = .ok (.getfield 321, 3) := by decide +kernel
theorem dX12_ruleOf_77 : decode cX12_ruleOf 77 = .ok (.iastore, 1) := by decide +kernel
theorem dX12_ruleOf_78 : decode cX12_ruleOf 78 = .ok (.aload_n 0, 1) := by decide +kernel
theorem dX12_ruleOf_79 : decode cX12_ruleOf 79 = .ok (.getfield 104, 3) := by decide +kernel
theorem dX12_ruleOf_82 : decode cX12_ruleOf 82 = .ok (.bipush 6, 2) := by decide +kernel
theorem dX12_ruleOf_84 : decode cX12_ruleOf 84 = .ok (.aload_n 0, 1) := by decide +kernel
theorem dX12_ruleOf_85 : decode cX12_ruleOf 85 = .ok (.getfield 79, 3) := by decide +kernel
theorem dX12_ruleOf_88 : decode cX12_ruleOf 88 = .ok (.iload_n 3, 1) := by decide +kernel
theorem dX12_ruleOf_89 : decode cX12_ruleOf 89 = .ok (.iaload, 1) := by decide +kernel
theorem dX12_ruleOf_90 : decode cX12_ruleOf 90 = .ok (.iastore, 1) := by decide +kernel
theorem dX12_ruleOf_91 : decode cX12_ruleOf 91 = .ok (.aload_n 0, 1) := by decide +kernel
theorem dX12_ruleOf_92 : decode cX12_ruleOf 92 = .ok (.aload_n 1, 1) := by decide +kernel
theorem dX12_ruleOf_93 : decode cX12_ruleOf 93 = .ok (.iload_n 2, 1) := by decide +kernel
theorem dX12_ruleOf_94 : decode cX12_ruleOf 94 = .ok (.invokevirtual 346, 3) := by decide +kernel
theorem dX12_ruleOf_97 : decode cX12_ruleOf 97 = .ok (.ireturn, 1) := by decide +kernel
theorem dX12_pray_0 : decode cX12_pray 0 = .ok (.aload_n 0, 1) := by decide +kernel
theorem dX12_pray_1 : decode cX12_pray 1 = .ok (.getfield 42, 3) := by decide +kernel
theorem dX12_pray_4 : decode cX12_pray 4 = .ok (.iconst 4, 1) := by decide +kernel
theorem dX12_pray_5 : decode cX12_pray 5 = .ok (.iaload, 1) := by decide +kernel
theorem dX12_pray_6 : decode cX12_pray 6 = .ok (.ifCond .ne 7, 3) := by decide +kernel
theorem dX12_pray_9 : decode cX12_pray 9 = .ok (.iconst 5, 1) := by decide +kernel
theorem dX12_pray_10 : decode cX12_pray 10 = .ok (.goto 18, 3) := by decide +kernel
theorem dX12_pray_13 : decode cX12_pray 13 = .ok (.aload_n 0, 1) := by decide +kernel
theorem dX12_pray_14 : decode cX12_pray 14 = .ok (.aload_n 0, 1) := by decide +kernel
theorem dX12_pray_15 : decode cX12_pray 15 = .ok (.getfield 70, 3) := by decide +kernel
theorem dX12_pray_18 : decode cX12_pray 18 = .ok (.aload_n 0, 1) := by decide +kernel
theorem dX12_pray_19 : decode cX12_pray 19 = .ok (.getfield 42, 3) := by decide +kernel
theorem dX12_pray_22 : decode cX12_pray 22 = .ok (.iconst 4, 1) := by decide +kernel
theorem dX12_pray_23 : decode cX12_pray 23 = .ok (.iaload, 1) := by decide +kernel
theorem dX12_pray_24 : decode cX12_pray 24 = .ok (.iload_n 1, 1) := by decide +kernel
theorem dX12_pray_25 : decode cX12_pray 25 = .ok (.invokevirtual 350, 3) := by decide +kernel
theorem dX12_pray_28 : decode cX12_pray 28 = .ok (.istore_n 2, 1) := by decide +kernel
theorem dX12_pray_29 : decode cX12_pray 29 = .ok (.aload_n 0, 1) := by decide +kernel
theorem dX12_pray_30 : decode cX12_pray 30 = .ok (.getfield 88, 3) := by decide +kernel
theorem dX12_pray_33 : decode cX12_pray 33 = .ok (.iload_n 1, 1) := by decide +kernel
theorem dX12_pray_34 : decode cX12_pray 34 = .ok (.dup2, 1) := by decide +kernel
theorem dX12_pray_35 : decode cX12_pray 35 = .ok (.iaload, 1) := by decide +kernel
theorem dX12_pray_36 : decode cX12_pray 36 = .ok (.iconst 0, 1) := by decide +kernel
theorem dX12_pray_37 : decode cX12_pray 37 = .ok (.aload_n 0, 1) := by decide +kernel
theorem dX12_pray_38 : decode cX12_pray 38 = .ok (.getfield 88, 3) := by decide +kernel
theorem dX12_pray_41 : decode cX12_pray 41 = .ok (.iload_n 1, 1) := by decide +kernel
theorem dX12_pray_42 : decode cX12_pray 42 = .ok (.iaload, 1) := by decide +kernel
theorem dX12_pray_43 : decode cX12_pray 43 = .ok (.iload_n 2, 1) := by decide +kernel
theorem dX12_pray_44 : decode cX12_pray 44 = .ok (.invokestatic 192, 3) := by decide +kernel
theorem dX12_pray_47 : decode cX12_pray 47 = .ok (.invokestatic 354, 3) := by decide +kernel
theorem dX12_pray_50 : decode cX12_pray 50 = .ok (.isub, 1) := by decide +kernel
theorem dX12_pray_51 : decode cX12_pray 51 = .ok (.iastore, 1) := by decide +kernel
theorem dX12_pray_52 : decode cX12_pray 52 = .ok (.return_, 1) := by decide +kernel
theorem dX12_costsOf_0 : decode cX12_costsOf 0 = .ok (.aload_n 0, 1) := by decide +kernel
theorem dX12_costsOf_1 : decode cX12_costsOf 1 = .ok (.getfield 42, 3) := by decide +kernel
theorem dX12_costsOf_4 : decode cX12_costsOf 4 = .ok (.iconst 5, 1) := by decide +kernel
theorem dX12_costsOf_5 : decode cX12_costsOf 5 = .ok (.iaload, 1) := by decide +kernel
theorem dX12_costsOf_6 : decode cX12_costsOf 6 = .ok (.ifCond .ne 17, 3) := by decide +kernel
theorem dX12_costsOf_9 : decode cX12_costsOf 9 = .ok (.aload_n 0, 1) := by decide +kernel
theorem dX12_costsOf_10 : decode cX12_costsOf 10 = .ok (.getfield 53, 3) := by decide +kernel
theorem dX12_costsOf_13 : decode cX12_costsOf 13 = .ok (.aload_n 0, 1) := by decide +kernel
theorem dX12_costsOf_14 : decode cX12_costsOf 14 = .ok (.getfield 95, 3) := by decide +kernel
theorem dX12_costsOf_17 : decode cX12_costsOf 17 = .ok (.iload_n 1, 1) := by decide +kernel
theorem dX12_costsOf_18 : decode cX12_costsOf 18 = .ok (.iaload, 1) := by decide +kernel
theorem dX12_costsOf_19 : decode cX12_costsOf 19 = .ok (.iaload, 1) := by decide +kernel
theorem dX12_costsOf_20 : decode cX12_costsOf 20 = .ok (.goto 18, 3) := by decide +kernel
theorem dX12_costsOf_23 : decode cX12_costsOf 23 = .ok (.aload_n 0, 1) := by decide +kernel
theorem dX12_costsOf_24 : decode cX12_costsOf 24 = .ok (.aload_n 0, 1) := by decide +kernel
theorem dX12_costsOf_25 : decode cX12_costsOf 25 = .ok (.getfield 73, 3) := by decide +kernel
theorem dX12_costsOf_28 : decode cX12_costsOf 28 = .ok (.aload_n 0, 1) := by decide +kernel
theorem dX12_costsOf_29 : decode cX12_costsOf 29 = .ok (.getfield 42, 3) := by decide +kernel
theorem dX12_costsOf_32 : decode cX12_costsOf 32 = .ok (.iconst 5, 1) := by decide +kernel
theorem dX12_costsOf_33 : decode cX12_costsOf 33 = .ok (.iaload, 1) := by decide +kernel
theorem dX12_costsOf_34 : decode cX12_costsOf 34 = .ok (.iload_n 1, 1) := by decide +kernel
theorem dX12_costsOf_35 : decode cX12_costsOf 35 = .ok (.invokevirtual 350, 3) := by decide +kernel
theorem dX12_costsOf_38 : decode cX12_costsOf 38 = .ok (.istore_n 2, 1) := by decide +kernel
theorem dX12_costsOf_39 : decode cX12_costsOf 39 = .ok (.iconst 0, 1) := by decide +kernel
theorem dX12_costsOf_40 : decode cX12_costsOf 40 = .ok (.bipush 50, 2) := by decide +kernel
theorem dX12_costsOf_42 : decode cX12_costsOf 42 = .ok (.iload_n 2, 1) := by decide +kernel
theorem dX12_costsOf_43 : decode cX12_costsOf 43 = .ok (.invokestatic 192, 3) := by decide +kernel
theorem dX12_costsOf_46 : decode cX12_costsOf 46 = .ok (.invokestatic 354, 3) := by decide +kernel
theorem dX12_costsOf_49 : decode cX12_costsOf 49 = .ok (.ireturn, 1) := by decide +kernel
theorem dX12_pay_0 : decode cX12_pay 0 = .ok (.aload_n 0, 1) := by decide +kernel
theorem dX12_pay_1 : decode cX12_pay 1 = .ok (.iload_n 1, 1) := by decide +kernel
theorem dX12_pay_2 : decode cX12_pay 2 = .ok (.invokevirtual 357, 3) := by decide +kernel
theorem dX12_pay_5 : decode cX12_pay 5 = .ok (.istore_n 2, 1) := by decide +kernel
theorem dX12_pay_6 : decode cX12_pay 6 = .ok (.aload_n 0, 1) := by decide +kernel
theorem dX12_pay_7 : decode cX12_pay 7 = .ok (.getfield 90, 3) := by decide +kernel
theorem dX12_pay_10 : decode cX12_pay 10 = .ok (.iload_n 1, 1) := by decide +kernel
theorem dX12_pay_11 : decode cX12_pay 11 = .ok (.iaload, 1) := by decide +kernel
theorem dX12_pay_12 : decode cX12_pay 12 = .ok (.iload_n 2, 1) := by decide +kernel
theorem dX12_pay_13 : decode cX12_pay 13 = .ok (.if_icmp .lt 16, 3) := by decide +kernel
theorem dX12_pay_16 : decode cX12_pay 16 = .ok (.aload_n 0, 1) := by decide +kernel
theorem dX12_pay_17 : decode cX12_pay 17 = .ok (.getfield 90, 3) := by decide +kernel
theorem dX12_pay_20 : decode cX12_pay 20 = .ok (.iload_n 1, 1) := by decide +kernel
theorem dX12_pay_21 : decode cX12_pay 21 = .ok (.dup2, 1) := by decide +kernel
theorem dX12_pay_22 : decode cX12_pay 22 = .ok (.iaload, 1) := by decide +kernel
theorem dX12_pay_23 : decode cX12_pay 23 = .ok (.iload_n 2, 1) := by decide +kernel
theorem dX12_pay_24 : decode cX12_pay 24 = .ok (.isub, 1) := by decide +kernel
theorem dX12_pay_25 : decode cX12_pay 25 = .ok (.iastore, 1) := by decide +kernel
theorem dX12_pay_26 : decode cX12_pay 26 = .ok (.goto 10, 3) := by decide +kernel
theorem dX12_pay_29 : decode cX12_pay 29 = .ok (.aload_n 0, 1) := by decide +kernel
theorem dX12_pay_30 : decode cX12_pay 30 = .ok (.getfield 95, 3) := by decide +kernel
theorem dX12_pay_33 : decode cX12_pay 33 = .ok (.iload_n 1, 1) := by decide +kernel
theorem dX12_pay_34 : decode cX12_pay 34 = .ok (.iconst (-1), 1) := by decide +kernel
theorem dX12_pay_35 : decode cX12_pay 35 = .ok (.iastore, 1) := by decide +kernel
theorem dX12_pay_36 : decode cX12_pay 36 = .ok (.return_, 1) := by decide +kernel
theorem dX12_anHour_0 : decode cX12_anHour 0 = .ok (.aload_n 0, 1) := by decide +kernel
theorem dX12_anHour_1 : decode cX12_anHour 1 = .ok (.aload_n 0, 1) := by decide +kernel
theorem dX12_anHour_2 : decode cX12_anHour 2 = .ok (.invokevirtual 360, 3) := by decide +kernel
theorem dX12_anHour_5 : decode cX12_anHour 5 = .ok (.putfield 363, 3) := by decide +kernel
theorem dX12_anHour_8 : decode cX12_anHour 8 = .ok (.aload_n 0, 1) := by decide +kernel
theorem dX12_anHour_9 : decode cX12_anHour 9 = .ok (.iconst 0, 1) := by decide +kernel
theorem dX12_anHour_10 : decode cX12_anHour 10 = .ok (.putfield 366, 3) := by decide +kernel
theorem dX12_anHour_13 : decode cX12_anHour 13 = .ok (.iconst 0, 1) := by decide +kernel
theorem dX12_anHour_14 : decode cX12_anHour 14 = .ok (.istore_n 1, 1) := by decide +kernel
theorem dX12_anHour_15 : decode cX12_anHour 15 = .ok (.iload_n 1, 1) := by decide +kernel
theorem dX12_anHour_16 : decode cX12_anHour 16 = .ok (.aload_n 0, 1) := by decide +kernel
theorem dX12_anHour_17 : decode cX12_anHour 17 = .ok (.getfield 42, 3) := by decide +kernel
theorem dX12_anHour_20 : decode cX12_anHour 20 = .ok (.iconst 0, 1) := by decide +kernel
theorem dX12_anHour_21 : decode cX12_anHour 21 = .ok (.iaload, 1) := by decide +kernel
theorem dX12_anHour_22 : decode cX12_anHour 22 = .ok (.if_icmp .ge 58, 3) := by decide +kernel
theorem dX12_anHour_25 : decode cX12_anHour 25 = .ok (.aload_n 0, 1) := by decide +kernel
theorem dX12_anHour_26 : decode cX12_anHour 26 = .ok (.getfield 363, 3) := by decide +kernel
theorem dX12_anHour_29 : decode cX12_anHour 29 = .ok (.iload_n 1, 1) := by decide +kernel
theorem dX12_anHour_30 : decode cX12_anHour 30 = .ok (.invokestatic 285, 3) := by decide +kernel
theorem dX12_anHour_33 : decode cX12_anHour 33 = .ok (.ifCond .eq 11, 3) := by decide +kernel
theorem dX12_anHour_36 : decode cX12_anHour 36 = .ok (.aload_n 0, 1) := by decide +kernel
theorem dX12_anHour_37 : decode cX12_anHour 37 = .ok (.iload_n 1, 1) := by decide +kernel
theorem dX12_anHour_38 : decode cX12_anHour 38 = .ok (.invokevirtual 369, 3) := by decide +kernel
theorem dX12_anHour_41 : decode cX12_anHour 41 = .ok (.goto 4, 3) := by decide +kernel
theorem dX12_anHour_44 : decode cX12_anHour 44 = .ok (.iconst (-1), 1) := by decide +kernel
theorem dX12_anHour_45 : decode cX12_anHour 45 = .ok (.istore_n 2, 1) := by decide +kernel
theorem dX12_anHour_46 : decode cX12_anHour 46 = .ok (.iconst 0, 1) := by decide +kernel
theorem dX12_anHour_47 : decode cX12_anHour 47 = .ok (.istore_n 3, 1) := by decide +kernel
theorem dX12_anHour_48 : decode cX12_anHour 48 = .ok (.iload_n 2, 1) := by decide +kernel
theorem dX12_anHour_49 : decode cX12_anHour 49 = .ok (.iconst (-1), 1) := by decide +kernel
theorem dX12_anHour_50 : decode cX12_anHour 50 = .ok (.if_icmp .eq 24, 3) := by decide +kernel
theorem dX12_anHour_53 : decode cX12_anHour 53 = .ok (.iload_n 3, 1) := by decide +kernel
theorem dX12_anHour_54 : decode cX12_anHour 54 = .ok (.aload_n 0, 1) := by decide +kernel
theorem dX12_anHour_55 : decode cX12_anHour 55 = .ok (.getfield 46, 3) := by decide +kernel
theorem dX12_anHour_58 : decode cX12_anHour 58 = .ok (.iload_n 1, 1) := by decide +kernel
theorem dX12_anHour_59 : decode cX12_anHour 59 = .ok (.iaload, 1) := by decide +kernel
theorem dX12_anHour_60 : decode cX12_anHour 60 = .ok (.if_icmp .gt 14, 3) := by decide +kernel
theorem dX12_anHour_63 : decode cX12_anHour 63 = .ok (.aload_n 0, 1) := by decide +kernel
theorem dX12_anHour_64 : decode cX12_anHour 64 = .ok (.iload_n 2, 1) := by decide +kernel
theorem dX12_anHour_65 : decode cX12_anHour 65 = .ok (.invokevirtual 372, 3) := by decide +kernel
theorem dX12_anHour_68 : decode cX12_anHour 68 = .ok (.iinc 3 1, 3) := by decide +kernel
theorem dX12_anHour_71 : decode cX12_anHour 71 = .ok (.goto (-23), 3) := by decide +kernel
theorem dX12_anHour_74 : decode cX12_anHour 74 = .ok (.iinc 1 1, 3) := by decide +kernel
theorem dX12_anHour_77 : decode cX12_anHour 77 = .ok (.goto (-62), 3) := by decide +kernel
theorem dX12_anHour_80 : decode cX12_anHour 80 = .ok (.iconst 0, 1) := by decide +kernel
theorem dX12_anHour_81 : decode cX12_anHour 81 = .ok (.istore_n 1, 1) := by decide +kernel
theorem dX12_anHour_82 : decode cX12_anHour 82 = .ok (.iload_n 1, 1) := by decide +kernel
theorem dX12_anHour_83 : decode cX12_anHour 83 = .ok (.aload_n 0, 1) := by decide +kernel
theorem dX12_anHour_84 : decode cX12_anHour 84 = .ok (.getfield 42, 3) := by decide +kernel
theorem dX12_anHour_87 : decode cX12_anHour 87 = .ok (.iconst 1, 1) := by decide +kernel
theorem dX12_anHour_88 : decode cX12_anHour 88 = .ok (.iaload, 1) := by decide +kernel
theorem dX12_anHour_89 : decode cX12_anHour 89 = .ok (.if_icmp .ge 135, 3) := by decide +kernel
theorem dX12_anHour_92 : decode cX12_anHour 92 = .ok (.aload_n 0, 1) := by decide +kernel
theorem dX12_anHour_93 : decode cX12_anHour 93 = .ok (.getfield 90, 3) := by decide +kernel
theorem dX12_anHour_96 : decode cX12_anHour 96 = .ok (.iload_n 1, 1) := by decide +kernel
theorem dX12_anHour_97 : decode cX12_anHour 97 = .ok (.sipush 999, 3) := by decide +kernel
theorem dX12_anHour_100 : decode cX12_anHour 100 = .ok (.aload_n 0, 1) := by decide +kernel
theorem dX12_anHour_101 : decode cX12_anHour 101 = .ok (.getfield 90, 3) := by decide +kernel
theorem dX12_anHour_104 : decode cX12_anHour 104 = .ok (.iload_n 1, 1) := by decide +kernel
theorem dX12_anHour_105 : decode cX12_anHour 105 = .ok (.iaload, 1) := by decide +kernel
theorem dX12_anHour_106 : decode cX12_anHour 106 = .ok (.iconst 3, 1) := by decide +kernel
theorem dX12_anHour_107 : decode cX12_anHour 107 = .ok (.aload_n 0, 1) := by decide +kernel
theorem dX12_anHour_108 : decode cX12_anHour 108 = .ok (.getfield 79, 3) := by decide +kernel
theorem dX12_anHour_111 : decode cX12_anHour 111 = .ok (.iload_n 1, 1) := by decide +kernel
theorem dX12_anHour_112 : decode cX12_anHour 112 = .ok (.iaload, 1) := by decide +kernel
theorem dX12_anHour_113 : decode cX12_anHour 113 = .ok (.imul, 1) := by decide +kernel
theorem dX12_anHour_114 : decode cX12_anHour 114 = .ok (.iadd, 1) := by decide +kernel
theorem dX12_anHour_115 : decode cX12_anHour 115 = .ok (.invokestatic 192, 3) := by decide +kernel
theorem dX12_anHour_118 : decode cX12_anHour 118 = .ok (.iastore, 1) := by decide +kernel
theorem dX12_anHour_119 : decode cX12_anHour 119 = .ok (.aload_n 0, 1) := by decide +kernel
theorem dX12_anHour_120 : decode cX12_anHour 120 = .ok (.getfield 88, 3) := by decide +kernel
theorem dX12_anHour_123 : decode cX12_anHour 123 = .ok (.iload_n 1, 1) := by decide +kernel
theorem dX12_anHour_124 : decode cX12_anHour 124 = .ok (.bipush 99, 2) := by decide +kernel
theorem dX12_anHour_126 : decode cX12_anHour 126 = .ok (.aload_n 0, 1) := by decide +kernel
theorem dX12_anHour_127 : decode cX12_anHour 127 = .ok (.getfield 88, 3) := by decide +kernel
theorem dX12_anHour_130 : decode cX12_anHour 130 = .ok (.iload_n 1, 1) := by decide +kernel
theorem dX12_anHour_131 : decode cX12_anHour 131 = .ok (.iaload, 1) := by decide +kernel
theorem dX12_anHour_132 : decode cX12_anHour 132 = .ok (.aload_n 0, 1) := by decide +kernel
theorem dX12_anHour_133 : decode cX12_anHour 133 = .ok (.getfield 79, 3) := by decide +kernel
theorem dX12_anHour_136 : decode cX12_anHour 136 = .ok (.iload_n 1, 1) := by decide +kernel
theorem dX12_anHour_137 : decode cX12_anHour 137 = .ok (.iaload, 1) := by decide +kernel
theorem dX12_anHour_138 : decode cX12_anHour 138 = .ok (.iadd, 1) := by decide +kernel
theorem dX12_anHour_139 : decode cX12_anHour 139 = .ok (.invokestatic 192, 3) := by decide +kernel
theorem dX12_anHour_142 : decode cX12_anHour 142 = .ok (.iastore, 1) := by decide +kernel
theorem dX12_anHour_143 : decode cX12_anHour 143 = .ok (.aload_n 0, 1) := by decide +kernel
theorem dX12_anHour_144 : decode cX12_anHour 144 = .ok (.getfield 95, 3) := by decide +kernel
theorem dX12_anHour_147 : decode cX12_anHour 147 = .ok (.iload_n 1, 1) := by decide +kernel
theorem dX12_anHour_148 : decode cX12_anHour 148 = .ok (.iaload, 1) := by decide +kernel
theorem dX12_anHour_149 : decode cX12_anHour 149 = .ok (.iconst (-1), 1) := by decide +kernel
theorem dX12_anHour_150 : decode cX12_anHour 150 = .ok (.if_icmp .eq 8, 3) := by decide +kernel
theorem dX12_anHour_153 : decode cX12_anHour 153 = .ok (.aload_n 0, 1) := by decide +kernel
theorem dX12_anHour_154 : decode cX12_anHour 154 = .ok (.iload_n 1, 1) := by decide +kernel
theorem dX12_anHour_155 : decode cX12_anHour 155 = .ok (.invokevirtual 375, 3) := by decide +kernel
theorem dX12_anHour_158 : decode cX12_anHour 158 = .ok (.aload_n 0, 1) := by decide +kernel
theorem dX12_anHour_159 : decode cX12_anHour 159 = .ok (.getfield 88, 3) := by decide +kernel
theorem dX12_anHour_162 : decode cX12_anHour 162 = .ok (.iload_n 1, 1) := by decide +kernel
theorem dX12_anHour_163 : decode cX12_anHour 163 = .ok (.iaload, 1) := by decide +kernel
theorem dX12_anHour_164 : decode cX12_anHour 164 = .ok (.aload_n 0, 1) := by decide +kernel
theorem dX12_anHour_165 : decode cX12_anHour 165 = .ok (.getfield 42, 3) := by decide +kernel
theorem dX12_anHour_168 : decode cX12_anHour 168 = .ok (.iconst 2, 1) := by decide +kernel
theorem dX12_anHour_169 : decode cX12_anHour 169 = .ok (.iaload, 1) := by decide +kernel
theorem dX12_anHour_170 : decode cX12_anHour 170 = .ok (.if_icmp .gt 6, 3) := by decide +kernel
theorem dX12_anHour_173 : decode cX12_anHour 173 = .ok (.goto 45, 3) := by decide +kernel
theorem dX12_anHour_176 : decode cX12_anHour 176 = .ok (.aload_n 0, 1) := by decide +kernel
theorem dX12_anHour_177 : decode cX12_anHour 177 = .ok (.getfield 90, 3) := by decide +kernel
theorem dX12_anHour_180 : decode cX12_anHour 180 = .ok (.iload_n 1, 1) := by decide +kernel
theorem dX12_anHour_181 : decode cX12_anHour 181 = .ok (.dup2, 1) := by decide +kernel
theorem dX12_anHour_182 : decode cX12_anHour 182 = .ok (.iaload, 1) := by decide +kernel
theorem dX12_anHour_183 : decode cX12_anHour 183 = .ok (.iconst 2, 1) := by decide +kernel
theorem dX12_anHour_184 : decode cX12_anHour 184 = .ok (.idiv, 1) := by decide +kernel
theorem dX12_anHour_185 : decode cX12_anHour 185 = .ok (.iastore, 1) := by decide +kernel
theorem dX12_anHour_186 : decode cX12_anHour 186 = .ok (.aload_n 0, 1) := by decide +kernel
theorem dX12_anHour_187 : decode cX12_anHour 187 = .ok (.getfield 92, 3) := by decide +kernel
theorem dX12_anHour_190 : decode cX12_anHour 190 = .ok (.iload_n 1, 1) := by decide +kernel
theorem dX12_anHour_191 : decode cX12_anHour 191 = .ok (.sipush 999, 3) := by decide +kernel
theorem dX12_anHour_194 : decode cX12_anHour 194 = .ok (.aload_n 0, 1) := by decide +kernel
theorem dX12_anHour_195 : decode cX12_anHour 195 = .ok (.getfield 92, 3) := by decide +kernel
theorem dX12_anHour_198 : decode cX12_anHour 198 = .ok (.iload_n 1, 1) := by decide +kernel
theorem dX12_anHour_199 : decode cX12_anHour 199 = .ok (.iaload, 1) := by decide +kernel
theorem dX12_anHour_200 : decode cX12_anHour 200 = .ok (.iconst 1, 1) := by decide +kernel
theorem dX12_anHour_201 : decode cX12_anHour 201 = .ok (.iadd, 1) := by decide +kernel
theorem dX12_anHour_202 : decode cX12_anHour 202 = .ok (.invokestatic 192, 3) := by decide +kernel
theorem dX12_anHour_205 : decode cX12_anHour 205 = .ok (.iastore, 1) := by decide +kernel
theorem dX12_anHour_206 : decode cX12_anHour 206 = .ok (.aload_n 0, 1) := by decide +kernel
theorem dX12_anHour_207 : decode cX12_anHour 207 = .ok (.dup, 1) := by decide +kernel
theorem dX12_anHour_208 : decode cX12_anHour 208 = .ok (.getfield 366, 3) := by decide +kernel
theorem dX12_anHour_211 : decode cX12_anHour 211 = .ok (.iconst 1, 1) := by decide +kernel
theorem dX12_anHour_212 : decode cX12_anHour 212 = .ok (.iload_n 1, 1) := by decide +kernel
theorem dX12_anHour_213 : decode cX12_anHour 213 = .ok (.ishl, 1) := by decide +kernel
theorem dX12_anHour_214 : decode cX12_anHour 214 = .ok (.ior, 1) := by decide +kernel
theorem dX12_anHour_215 : decode cX12_anHour 215 = .ok (.putfield 366, 3) := by decide +kernel
theorem dX12_anHour_218 : decode cX12_anHour 218 = .ok (.iinc 1 1, 3) := by decide +kernel
theorem dX12_anHour_221 : decode cX12_anHour 221 = .ok (.goto (-139), 3) := by decide +kernel
theorem dX12_anHour_224 : decode cX12_anHour 224 = .ok (.aload_n 0, 1) := by decide +kernel
theorem dX12_anHour_225 : decode cX12_anHour 225 = .ok (.dup, 1) := by decide +kernel
theorem dX12_anHour_226 : decode cX12_anHour 226 = .ok (.getfield 321, 3) := by decide +kernel
theorem dX12_anHour_229 : decode cX12_anHour 229 = .ok (.iconst 1, 1) := by decide +kernel
theorem dX12_anHour_230 : decode cX12_anHour 230 = .ok (.iadd, 1) := by decide +kernel
theorem dX12_anHour_231 : decode cX12_anHour 231 = .ok (.putfield 321, 3) := by decide +kernel
theorem dX12_anHour_234 : decode cX12_anHour 234 = .ok (.return_, 1) := by decide +kernel
theorem dX12_goOn_0 : decode cX12_goOn 0 = .ok (.iconst 0, 1) := by decide +kernel
theorem dX12_goOn_1 : decode cX12_goOn 1 = .ok (.istore_n 2, 1) := by decide +kernel
theorem dX12_goOn_2 : decode cX12_goOn 2 = .ok (.iload_n 2, 1) := by decide +kernel
theorem dX12_goOn_3 : decode cX12_goOn 3 = .ok (.iload_n 1, 1) := by decide +kernel
theorem dX12_goOn_4 : decode cX12_goOn 4 = .ok (.if_icmp .ge 13, 3) := by decide +kernel
theorem dX12_goOn_7 : decode cX12_goOn 7 = .ok (.aload_n 0, 1) := by decide +kernel
theorem dX12_goOn_8 : decode cX12_goOn 8 = .ok (.invokevirtual 378, 3) := by decide +kernel
theorem dX12_goOn_11 : decode cX12_goOn 11 = .ok (.iinc 2 1, 3) := by decide +kernel
theorem dX12_goOn_14 : decode cX12_goOn 14 = .ok (.goto (-12), 3) := by decide +kernel
theorem dX12_goOn_17 : decode cX12_goOn 17 = .ok (.return_, 1) := by decide +kernel
theorem dX12_sumOf_0 : decode cX12_sumOf 0 = .ok (.iconst 0, 1) := by decide +kernel
theorem dX12_sumOf_1 : decode cX12_sumOf 1 = .ok (.istore_n 2, 1) := by decide +kernel
theorem dX12_sumOf_2 : decode cX12_sumOf 2 = .ok (.iconst 0, 1) := by decide +kernel
theorem dX12_sumOf_3 : decode cX12_sumOf 3 = .ok (.istore_n 3, 1) := by decide +kernel
theorem dX12_sumOf_4 : decode cX12_sumOf 4 = .ok (.iload_n 3, 1) := by decide +kernel
theorem dX12_sumOf_5 : decode cX12_sumOf 5 = .ok (.aload_n 0, 1) := by decide +kernel
theorem dX12_sumOf_6 : decode cX12_sumOf 6 = .ok (.getfield 42, 3) := by decide +kernel
theorem dX12_sumOf_9 : decode cX12_sumOf 9 = .ok (.iconst 1, 1) := by decide +kernel
theorem dX12_sumOf_10 : decode cX12_sumOf 10 = .ok (.iaload, 1) := by decide +kernel
theorem dX12_sumOf_11 : decode cX12_sumOf 11 = .ok (.if_icmp .ge 15, 3) := by decide +kernel
theorem dX12_sumOf_14 : decode cX12_sumOf 14 = .ok (.iload_n 2, 1) := by decide +kernel
theorem dX12_sumOf_15 : decode cX12_sumOf 15 = .ok (.aload_n 1, 1) := by decide +kernel
theorem dX12_sumOf_16 : decode cX12_sumOf 16 = .ok (.iload_n 3, 1) := by decide +kernel
theorem dX12_sumOf_17 : decode cX12_sumOf 17 = .ok (.iaload, 1) := by decide +kernel
theorem dX12_sumOf_18 : decode cX12_sumOf 18 = .ok (.iadd, 1) := by decide +kernel
theorem dX12_sumOf_19 : decode cX12_sumOf 19 = .ok (.istore_n 2, 1) := by decide +kernel
theorem dX12_sumOf_20 : decode cX12_sumOf 20 = .ok (.iinc 3 1, 3) := by decide +kernel
theorem dX12_sumOf_23 : decode cX12_sumOf 23 = .ok (.goto (-19), 3) := by decide +kernel
theorem dX12_sumOf_26 : decode cX12_sumOf 26 = .ok (.iload_n 2, 1) := by decide +kernel
theorem dX12_sumOf_27 : decode cX12_sumOf 27 = .ok (.ireturn, 1) := by decide +kernel
theorem dX12_count_0 : decode cX12_count 0 = .ok (.aload_n 0, 1) := by decide +kernel
theorem dX12_count_1 : decode cX12_count 1 = .ok (.iconst 0, 1) := by decide +kernel
theorem dX12_count_2 : decode cX12_count 2 = .ok (.putfield 155, 3) := by decide +kernel
theorem dX12_count_5 : decode cX12_count 5 = .ok (.iload_n 1, 1) := by decide +kernel
theorem dX12_count_6 : decode cX12_count 6 = .ok (.tableswitch 151 0 14 #[74, 74, 81, 86, 91, 98, 103, 108, 117, 126, 131, 136, 141, 141, 141], 74) := by decide +kernel
theorem dX12_count_80 : decode cX12_count 80 = .ok (.aload_n 0, 1) := by decide +kernel
theorem dX12_count_81 : decode cX12_count 81 = .ok (.getfield 42, 3) := by decide +kernel
theorem dX12_count_84 : decode cX12_count 84 = .ok (.iload_n 1, 1) := by decide +kernel
theorem dX12_count_85 : decode cX12_count 85 = .ok (.iaload, 1) := by decide +kernel
theorem dX12_count_86 : decode cX12_count 86 = .ok (.ireturn, 1) := by decide +kernel
theorem dX12_count_87 : decode cX12_count 87 = .ok (.aload_n 0, 1) := by decide +kernel
theorem dX12_count_88 : decode cX12_count 88 = .ok (.getfield 321, 3) := by decide +kernel
theorem dX12_count_91 : decode cX12_count 91 = .ok (.ireturn, 1) := by decide +kernel
theorem dX12_count_92 : decode cX12_count 92 = .ok (.aload_n 0, 1) := by decide +kernel
theorem dX12_count_93 : decode cX12_count 93 = .ok (.invokevirtual 336, 3) := by decide +kernel
theorem dX12_count_96 : decode cX12_count 96 = .ok (.ireturn, 1) := by decide +kernel
theorem dX12_count_97 : decode cX12_count 97 = .ok (.aload_n 0, 1) := by decide +kernel
theorem dX12_count_98 : decode cX12_count 98 = .ok (.getfield 42, 3) := by decide +kernel
theorem dX12_count_101 : decode cX12_count 101 = .ok (.iconst 2, 1) := by decide +kernel
theorem dX12_count_102 : decode cX12_count 102 = .ok (.iaload, 1) := by decide +kernel
theorem dX12_count_103 : decode cX12_count 103 = .ok (.ireturn, 1) := by decide +kernel
theorem dX12_count_104 : decode cX12_count 104 = .ok (.aload_n 0, 1) := by decide +kernel
theorem dX12_count_105 : decode cX12_count 105 = .ok (.invokevirtual 381, 3) := by decide +kernel
theorem dX12_count_108 : decode cX12_count 108 = .ok (.ireturn, 1) := by decide +kernel
theorem dX12_count_109 : decode cX12_count 109 = .ok (.aload_n 0, 1) := by decide +kernel
theorem dX12_count_110 : decode cX12_count 110 = .ok (.getfield 324, 3) := by decide +kernel
theorem dX12_count_113 : decode cX12_count 113 = .ok (.ireturn, 1) := by decide +kernel
theorem dX12_count_114 : decode cX12_count 114 = .ok (.aload_n 0, 1) := by decide +kernel
theorem dX12_count_115 : decode cX12_count 115 = .ok (.aload_n 0, 1) := by decide +kernel
theorem dX12_count_116 : decode cX12_count 116 = .ok (.getfield 90, 3) := by decide +kernel
theorem dX12_count_119 : decode cX12_count 119 = .ok (.invokevirtual 384, 3) := by decide +kernel
theorem dX12_count_122 : decode cX12_count 122 = .ok (.ireturn, 1) := by decide +kernel
theorem dX12_count_123 : decode cX12_count 123 = .ok (.aload_n 0, 1) := by decide +kernel
theorem dX12_count_124 : decode cX12_count 124 = .ok (.aload_n 0, 1) := by decide +kernel
theorem dX12_count_125 : decode cX12_count 125 = .ok (.getfield 88, 3) := by decide +kernel
theorem dX12_count_128 : decode cX12_count 128 = .ok (.invokevirtual 384, 3) := by decide +kernel
theorem dX12_count_131 : decode cX12_count 131 = .ok (.ireturn, 1) := by decide +kernel
theorem dX12_count_132 : decode cX12_count 132 = .ok (.aload_n 0, 1) := by decide +kernel
theorem dX12_count_133 : decode cX12_count 133 = .ok (.getfield 327, 3) := by decide +kernel
theorem dX12_count_136 : decode cX12_count 136 = .ok (.ireturn, 1) := by decide +kernel
theorem dX12_count_137 : decode cX12_count 137 = .ok (.aload_n 0, 1) := by decide +kernel
theorem dX12_count_138 : decode cX12_count 138 = .ok (.getfield 330, 3) := by decide +kernel
theorem dX12_count_141 : decode cX12_count 141 = .ok (.ireturn, 1) := by decide +kernel
theorem dX12_count_142 : decode cX12_count 142 = .ok (.aload_n 0, 1) := by decide +kernel
theorem dX12_count_143 : decode cX12_count 143 = .ok (.getfield 162, 3) := by decide +kernel
theorem dX12_count_146 : decode cX12_count 146 = .ok (.ireturn, 1) := by decide +kernel
theorem dX12_count_147 : decode cX12_count 147 = .ok (.aload_n 0, 1) := by decide +kernel
theorem dX12_count_148 : decode cX12_count 148 = .ok (.getfield 76, 3) := by decide +kernel
theorem dX12_count_151 : decode cX12_count 151 = .ok (.iload_n 1, 1) := by decide +kernel
theorem dX12_count_152 : decode cX12_count 152 = .ok (.bipush 12, 2) := by decide +kernel
theorem dX12_count_154 : decode cX12_count 154 = .ok (.isub, 1) := by decide +kernel
theorem dX12_count_155 : decode cX12_count 155 = .ok (.iaload, 1) := by decide +kernel
theorem dX12_count_156 : decode cX12_count 156 = .ok (.ireturn, 1) := by decide +kernel
theorem dX12_count_157 : decode cX12_count 157 = .ok (.aload_n 0, 1) := by decide +kernel
theorem dX12_count_158 : decode cX12_count 158 = .ok (.iconst 1, 1) := by decide +kernel
theorem dX12_count_159 : decode cX12_count 159 = .ok (.invokevirtual 308, 3) := by decide +kernel
theorem dX12_count_162 : decode cX12_count 162 = .ok (.ireturn, 1) := by decide +kernel
theorem dX12_nextDrip_0 : decode cX12_nextDrip 0 = .ok (.aload_n 0, 1) := by decide +kernel
theorem dX12_nextDrip_1 : decode cX12_nextDrip 1 = .ok (.aload_n 0, 1) := by decide +kernel
theorem dX12_nextDrip_2 : decode cX12_nextDrip 2 = .ok (.getfield 110, 3) := by decide +kernel
theorem dX12_nextDrip_5 : decode cX12_nextDrip 5 = .ok (.iconst 0, 1) := by decide +kernel
theorem dX12_nextDrip_6 : decode cX12_nextDrip 6 = .ok (.invokevirtual 388, 3) := by decide +kernel
theorem dX12_nextDrip_9 : decode cX12_nextDrip 9 = .ok (.iconst (-1), 1) := by decide +kernel
theorem dX12_nextDrip_10 : decode cX12_nextDrip 10 = .ok (.istore_n 2, 1) := by decide +kernel
theorem dX12_nextDrip_11 : decode cX12_nextDrip 11 = .ok (.iconst 1, 1) := by decide +kernel
theorem dX12_nextDrip_12 : decode cX12_nextDrip 12 = .ok (.istore_n 3, 1) := by decide +kernel
theorem dX12_nextDrip_13 : decode cX12_nextDrip 13 = .ok (.iload_n 3, 1) := by decide +kernel
theorem dX12_nextDrip_14 : decode cX12_nextDrip 14 = .ok (.bipush 60, 2) := by decide +kernel
theorem dX12_nextDrip_16 : decode cX12_nextDrip 16 = .ok (.if_icmp .gt 37, 3) := by decide +kernel
theorem dX12_nextDrip_19 : decode cX12_nextDrip 19 = .ok (.iload_n 2, 1) := by decide +kernel
theorem dX12_nextDrip_20 : decode cX12_nextDrip 20 = .ok (.iconst (-1), 1) := by decide +kernel
theorem dX12_nextDrip_21 : decode cX12_nextDrip 21 = .ok (.if_icmp .ne 32, 3) := by decide +kernel
theorem dX12_nextDrip_24 : decode cX12_nextDrip 24 = .ok (.aload_n 0, 1) := by decide +kernel
theorem dX12_nextDrip_25 : decode cX12_nextDrip 25 = .ok (.invokevirtual 360, 3) := by decide +kernel
theorem dX12_nextDrip_28 : decode cX12_nextDrip 28 = .ok (.iload_n 1, 1) := by decide +kernel
theorem dX12_nextDrip_29 : decode cX12_nextDrip 29 = .ok (.invokestatic 285, 3) := by decide +kernel
theorem dX12_nextDrip_32 : decode cX12_nextDrip 32 = .ok (.ifCond .eq 5, 3) := by decide +kernel
theorem dX12_nextDrip_35 : decode cX12_nextDrip 35 = .ok (.iload_n 3, 1) := by decide +kernel
theorem dX12_nextDrip_36 : decode cX12_nextDrip 36 = .ok (.istore_n 2, 1) := by decide +kernel
theorem dX12_nextDrip_37 : decode cX12_nextDrip 37 = .ok (.aload_n 0, 1) := by decide +kernel
theorem dX12_nextDrip_38 : decode cX12_nextDrip 38 = .ok (.dup, 1) := by decide +kernel
theorem dX12_nextDrip_39 : decode cX12_nextDrip 39 = .ok (.getfield 321, 3) := by decide +kernel
theorem dX12_nextDrip_42 : decode cX12_nextDrip 42 = .ok (.iconst 1, 1) := by decide +kernel
theorem dX12_nextDrip_43 : decode cX12_nextDrip 43 = .ok (.iadd, 1) := by decide +kernel
theorem dX12_nextDrip_44 : decode cX12_nextDrip 44 = .ok (.putfield 321, 3) := by decide +kernel
theorem dX12_nextDrip_47 : decode cX12_nextDrip 47 = .ok (.iinc 3 1, 3) := by decide +kernel
theorem dX12_nextDrip_50 : decode cX12_nextDrip 50 = .ok (.goto (-37), 3) := by decide +kernel
theorem dX12_nextDrip_53 : decode cX12_nextDrip 53 = .ok (.aload_n 0, 1) := by decide +kernel
theorem dX12_nextDrip_54 : decode cX12_nextDrip 54 = .ok (.aload_n 0, 1) := by decide +kernel
theorem dX12_nextDrip_55 : decode cX12_nextDrip 55 = .ok (.getfield 110, 3) := by decide +kernel
theorem dX12_nextDrip_58 : decode cX12_nextDrip 58 = .ok (.iconst 0, 1) := by decide +kernel
theorem dX12_nextDrip_59 : decode cX12_nextDrip 59 = .ok (.invokevirtual 392, 3) := by decide +kernel
theorem dX12_nextDrip_62 : decode cX12_nextDrip 62 = .ok (.iload_n 2, 1) := by decide +kernel
theorem dX12_nextDrip_63 : decode cX12_nextDrip 63 = .ok (.ireturn, 1) := by decide +kernel
theorem dX12_grotto_0 : decode cX12_grotto 0 = .ok (.aload_n 0, 1) := by decide +kernel
theorem dX12_grotto_1 : decode cX12_grotto 1 = .ok (.iconst 0, 1) := by decide +kernel
theorem dX12_grotto_2 : decode cX12_grotto 2 = .ok (.putfield 155, 3) := by decide +kernel
theorem dX12_grotto_5 : decode cX12_grotto 5 = .ok (.aload_n 0, 1) := by decide +kernel
theorem dX12_grotto_6 : decode cX12_grotto 6 = .ok (.iload_n 1, 1) := by decide +kernel
theorem dX12_grotto_7 : decode cX12_grotto 7 = .ok (.invokevirtual 395, 3) := by decide +kernel
theorem dX12_grotto_10 : decode cX12_grotto 10 = .ok (.ifCond .ne 9, 3) := by decide +kernel
theorem dX12_grotto_13 : decode cX12_grotto 13 = .ok (.aload_n 0, 1) := by decide +kernel
theorem dX12_grotto_14 : decode cX12_grotto 14 = .ok (.iconst 1, 1) := by decide +kernel
theorem dX12_grotto_15 : decode cX12_grotto 15 = .ok (.invokevirtual 308, 3) := by decide +kernel
theorem dX12_grotto_18 : decode cX12_grotto 18 = .ok (.ireturn, 1) := by decide +kernel
theorem dX12_grotto_19 : decode cX12_grotto 19 = .ok (.iload_n 2, 1) := by decide +kernel
theorem dX12_grotto_20 : decode cX12_grotto 20 = .ok (.tableswitch 93 0 6 #[44, 51, 58, 65, 72, 81, 87], 44) := by decide +kernel
theorem dX12_grotto_64 : decode cX12_grotto 64 = .ok (.aload_n 0, 1) := by decide +kernel
theorem dX12_grotto_65 : decode cX12_grotto 65 = .ok (.getfield 48, 3) := by decide +kernel
